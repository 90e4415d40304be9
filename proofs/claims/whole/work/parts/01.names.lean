/-- a private method of a class that the tables say can be made, by its rows of tables_1 -/
def lw_okq (q : MethodName × Nat) : Prop := (q.1.cls ≠ "java/lang/invoke/MethodHandle" ∧ q.1.cls ≠ "java/lang/invoke/VarHandle") ∧ Cond.instantiable q.1.cls q.2 ∈ tables_1 ∧ Cond.privateMethod q.1 ∈ tables_1 ∧ Cond.instanceMethod q.1 ∈ tables_1
theorem lw_p0 : lw_okq (⟨"DeputyTown", "sheetAt", "(I)LDeputyTown$Sheet;"⟩, 8) := ⟨⟨by decide +kernel, by decide +kernel⟩, List.mem_of_getElem? (i := 17) (by decide +kernel), List.mem_of_getElem? (i := 248) (by decide +kernel), List.mem_of_getElem? (i := 249) (by decide +kernel)⟩
theorem lw_p1 : lw_okq (⟨"DeputyTown", "cameTo", "(I)I"⟩, 8) := ⟨⟨by decide +kernel, by decide +kernel⟩, List.mem_of_getElem? (i := 17) (by decide +kernel), List.mem_of_getElem? (i := 263) (by decide +kernel), List.mem_of_getElem? (i := 264) (by decide +kernel)⟩
theorem lw_p2 : lw_okq (⟨"DeputyTown$Service", "standInFor", "(III)I"⟩, 4) := ⟨⟨by decide +kernel, by decide +kernel⟩, List.mem_of_getElem? (i := 127) (by decide +kernel), List.mem_of_getElem? (i := 359) (by decide +kernel), List.mem_of_getElem? (i := 360) (by decide +kernel)⟩
theorem lw_p3 : lw_okq (⟨"DeputyTown$Service", "may", "(LDeputyTown$Thing;II)Z"⟩, 4) := ⟨⟨by decide +kernel, by decide +kernel⟩, List.mem_of_getElem? (i := 127) (by decide +kernel), List.mem_of_getElem? (i := 364) (by decide +kernel), List.mem_of_getElem? (i := 365) (by decide +kernel)⟩
theorem lw_p4 : lw_okq (⟨"DeputyTown$Service", "isPreferred", "(LDeputyTown$Thing;LDeputyTown$Thing;I)Z"⟩, 4) := ⟨⟨by decide +kernel, by decide +kernel⟩, List.mem_of_getElem? (i := 127) (by decide +kernel), List.mem_of_getElem? (i := 368) (by decide +kernel), List.mem_of_getElem? (i := 369) (by decide +kernel)⟩
theorem lw_p5 : lw_okq (⟨"DeputyTown", "refusalOf", "(II)I"⟩, 8) := ⟨⟨by decide +kernel, by decide +kernel⟩, List.mem_of_getElem? (i := 17) (by decide +kernel), List.mem_of_getElem? (i := 380) (by decide +kernel), List.mem_of_getElem? (i := 381) (by decide +kernel)⟩
theorem lw_p6 : lw_okq (⟨"DeputyTown$Trials", "keepMend", "(I)V"⟩, 9) := ⟨⟨by decide +kernel, by decide +kernel⟩, List.mem_of_getElem? (i := 146) (by decide +kernel), List.mem_of_getElem? (i := 460) (by decide +kernel), List.mem_of_getElem? (i := 461) (by decide +kernel)⟩
theorem lw_p7 : lw_okq (⟨"DeputyTown", "namesThings", "(LDeputyTown$Sheet;I)Z"⟩, 8) := ⟨⟨by decide +kernel, by decide +kernel⟩, List.mem_of_getElem? (i := 17) (by decide +kernel), List.mem_of_getElem? (i := 473) (by decide +kernel), List.mem_of_getElem? (i := 474) (by decide +kernel)⟩
theorem lw_p8 : lw_okq (⟨"DeputyTown", "firstUnlike", "(LDeputyTown$Sheet;I)I"⟩, 8) := ⟨⟨by decide +kernel, by decide +kernel⟩, List.mem_of_getElem? (i := 17) (by decide +kernel), List.mem_of_getElem? (i := 478) (by decide +kernel), List.mem_of_getElem? (i := 479) (by decide +kernel)⟩
theorem lw_p9 : lw_okq (⟨"DeputyTown$Sheet", "cutToLane", "(I)I"⟩, 4) := ⟨⟨by decide +kernel, by decide +kernel⟩, List.mem_of_getElem? (i := 197) (by decide +kernel), List.mem_of_getElem? (i := 544) (by decide +kernel), List.mem_of_getElem? (i := 545) (by decide +kernel)⟩
theorem lw_p10 : lw_okq (⟨"DeputyTown$Bodies", "mayorTells", "(LDeputyTown$Thing;)I"⟩, 1) := ⟨⟨by decide +kernel, by decide +kernel⟩, List.mem_of_getElem? (i := 187) (by decide +kernel), List.mem_of_getElem? (i := 568) (by decide +kernel), List.mem_of_getElem? (i := 569) (by decide +kernel)⟩
theorem lw_p11 : lw_okq (⟨"DeputyTown$Bodies", "leave", "(I)V"⟩, 1) := ⟨⟨by decide +kernel, by decide +kernel⟩, List.mem_of_getElem? (i := 187) (by decide +kernel), List.mem_of_getElem? (i := 572) (by decide +kernel), List.mem_of_getElem? (i := 573) (by decide +kernel)⟩
theorem lw_p12 : lw_okq (⟨"DeputyTown$Bodies", "swornTells", "(LDeputyTown$Thing;)I"⟩, 1) := ⟨⟨by decide +kernel, by decide +kernel⟩, List.mem_of_getElem? (i := 187) (by decide +kernel), List.mem_of_getElem? (i := 576) (by decide +kernel), List.mem_of_getElem? (i := 577) (by decide +kernel)⟩
theorem lw_p13 : lw_okq (⟨"DeputyTown$Bodies", "thingTells", "(LDeputyTown$Thing;)I"⟩, 1) := ⟨⟨by decide +kernel, by decide +kernel⟩, List.mem_of_getElem? (i := 187) (by decide +kernel), List.mem_of_getElem? (i := 580) (by decide +kernel), List.mem_of_getElem? (i := 581) (by decide +kernel)⟩
theorem lw_p14 : lw_okq (⟨"DeputyTown$Bodies", "mayorRings", "()I"⟩, 1) := ⟨⟨by decide +kernel, by decide +kernel⟩, List.mem_of_getElem? (i := 187) (by decide +kernel), List.mem_of_getElem? (i := 592) (by decide +kernel), List.mem_of_getElem? (i := 593) (by decide +kernel)⟩
theorem lw_p15 : lw_okq (⟨"DeputyTown$Bodies", "lentRings", "(LDeputyTown$Thing;)I"⟩, 1) := ⟨⟨by decide +kernel, by decide +kernel⟩, List.mem_of_getElem? (i := 187) (by decide +kernel), List.mem_of_getElem? (i := 596) (by decide +kernel), List.mem_of_getElem? (i := 597) (by decide +kernel)⟩
def lw_privs_1 : List (MethodName × Nat) := [(⟨"DeputyTown", "sheetAt", "(I)LDeputyTown$Sheet;"⟩, 8), (⟨"DeputyTown", "cameTo", "(I)I"⟩, 8), (⟨"DeputyTown$Service", "standInFor", "(III)I"⟩, 4), (⟨"DeputyTown$Service", "may", "(LDeputyTown$Thing;II)Z"⟩, 4), (⟨"DeputyTown$Service", "isPreferred", "(LDeputyTown$Thing;LDeputyTown$Thing;I)Z"⟩, 4), (⟨"DeputyTown", "refusalOf", "(II)I"⟩, 8), (⟨"DeputyTown$Trials", "keepMend", "(I)V"⟩, 9), (⟨"DeputyTown", "namesThings", "(LDeputyTown$Sheet;I)Z"⟩, 8), (⟨"DeputyTown", "firstUnlike", "(LDeputyTown$Sheet;I)I"⟩, 8), (⟨"DeputyTown$Sheet", "cutToLane", "(I)I"⟩, 4), (⟨"DeputyTown$Bodies", "mayorTells", "(LDeputyTown$Thing;)I"⟩, 1), (⟨"DeputyTown$Bodies", "leave", "(I)V"⟩, 1), (⟨"DeputyTown$Bodies", "swornTells", "(LDeputyTown$Thing;)I"⟩, 1), (⟨"DeputyTown$Bodies", "thingTells", "(LDeputyTown$Thing;)I"⟩, 1), (⟨"DeputyTown$Bodies", "mayorRings", "()I"⟩, 1), (⟨"DeputyTown$Bodies", "lentRings", "(LDeputyTown$Thing;)I"⟩, 1)]
theorem lw_r1 : ∀ q ∈ lw_privs_1, lw_okq q := List.forall_mem_cons.mpr ⟨lw_p0, List.forall_mem_cons.mpr ⟨lw_p1, List.forall_mem_cons.mpr ⟨lw_p2, List.forall_mem_cons.mpr ⟨lw_p3, List.forall_mem_cons.mpr ⟨lw_p4, List.forall_mem_cons.mpr ⟨lw_p5, List.forall_mem_cons.mpr ⟨lw_p6, List.forall_mem_cons.mpr ⟨lw_p7, List.forall_mem_cons.mpr ⟨lw_p8, List.forall_mem_cons.mpr ⟨lw_p9, List.forall_mem_cons.mpr ⟨lw_p10, List.forall_mem_cons.mpr ⟨lw_p11, List.forall_mem_cons.mpr ⟨lw_p12, List.forall_mem_cons.mpr ⟨lw_p13, List.forall_mem_cons.mpr ⟨lw_p14, List.forall_mem_cons.mpr ⟨lw_p15, fun _ h => absurd h List.not_mem_nil⟩⟩⟩⟩⟩⟩⟩⟩⟩⟩⟩⟩⟩⟩⟩⟩
theorem lw_p16 : lw_okq (⟨"DeputyTownModel", "refused", "(I)I"⟩, 29) := ⟨⟨by decide +kernel, by decide +kernel⟩, List.mem_of_getElem? (i := 616) (by decide +kernel), List.mem_of_getElem? (i := 721) (by decide +kernel), List.mem_of_getElem? (i := 722) (by decide +kernel)⟩
theorem lw_p17 : lw_okq (⟨"DeputyTownModel", "cellsBarred", "(IIIJ)I"⟩, 29) := ⟨⟨by decide +kernel, by decide +kernel⟩, List.mem_of_getElem? (i := 616) (by decide +kernel), List.mem_of_getElem? (i := 726) (by decide +kernel), List.mem_of_getElem? (i := 727) (by decide +kernel)⟩
theorem lw_p18 : lw_okq (⟨"DeputyTownModel", "faulted", "(I)I"⟩, 29) := ⟨⟨by decide +kernel, by decide +kernel⟩, List.mem_of_getElem? (i := 616) (by decide +kernel), List.mem_of_getElem? (i := 730) (by decide +kernel), List.mem_of_getElem? (i := 731) (by decide +kernel)⟩
theorem lw_p19 : lw_okq (⟨"DeputyTownModel", "readsTown", "(II)Z"⟩, 29) := ⟨⟨by decide +kernel, by decide +kernel⟩, List.mem_of_getElem? (i := 616) (by decide +kernel), List.mem_of_getElem? (i := 737) (by decide +kernel), List.mem_of_getElem? (i := 738) (by decide +kernel)⟩
theorem lw_p20 : lw_okq (⟨"DeputyTownModel", "codeAt", "(II)I"⟩, 29) := ⟨⟨by decide +kernel, by decide +kernel⟩, List.mem_of_getElem? (i := 616) (by decide +kernel), List.mem_of_getElem? (i := 741) (by decide +kernel), List.mem_of_getElem? (i := 742) (by decide +kernel)⟩
theorem lw_p21 : lw_okq (⟨"DeputyTownModel", "readsThing", "(II)Z"⟩, 29) := ⟨⟨by decide +kernel, by decide +kernel⟩, List.mem_of_getElem? (i := 616) (by decide +kernel), List.mem_of_getElem? (i := 745) (by decide +kernel), List.mem_of_getElem? (i := 746) (by decide +kernel)⟩
theorem lw_p22 : lw_okq (⟨"DeputyTownModel", "figure", "(IIIII)I"⟩, 29) := ⟨⟨by decide +kernel, by decide +kernel⟩, List.mem_of_getElem? (i := 616) (by decide +kernel), List.mem_of_getElem? (i := 749) (by decide +kernel), List.mem_of_getElem? (i := 750) (by decide +kernel)⟩
theorem lw_p23 : lw_okq (⟨"DeputyTownModel", "noThing", "(I)Z"⟩, 29) := ⟨⟨by decide +kernel, by decide +kernel⟩, List.mem_of_getElem? (i := 616) (by decide +kernel), List.mem_of_getElem? (i := 757) (by decide +kernel), List.mem_of_getElem? (i := 758) (by decide +kernel)⟩
theorem lw_p24 : lw_okq (⟨"DeputyTownModel", "goodOf", "(I)I"⟩, 29) := ⟨⟨by decide +kernel, by decide +kernel⟩, List.mem_of_getElem? (i := 616) (by decide +kernel), List.mem_of_getElem? (i := 761) (by decide +kernel), List.mem_of_getElem? (i := 762) (by decide +kernel)⟩
theorem lw_p25 : lw_okq (⟨"DeputyTownModel", "goTo", "(I)V"⟩, 29) := ⟨⟨by decide +kernel, by decide +kernel⟩, List.mem_of_getElem? (i := 616) (by decide +kernel), List.mem_of_getElem? (i := 789) (by decide +kernel), List.mem_of_getElem? (i := 790) (by decide +kernel)⟩
theorem lw_p26 : lw_okq (⟨"DeputyTownModel", "beginHours", "()V"⟩, 29) := ⟨⟨by decide +kernel, by decide +kernel⟩, List.mem_of_getElem? (i := 616) (by decide +kernel), List.mem_of_getElem? (i := 793) (by decide +kernel), List.mem_of_getElem? (i := 794) (by decide +kernel)⟩
theorem lw_p27 : lw_okq (⟨"DeputyTownModel", "brokenIn", "(I)I"⟩, 29) := ⟨⟨by decide +kernel, by decide +kernel⟩, List.mem_of_getElem? (i := 616) (by decide +kernel), List.mem_of_getElem? (i := 797) (by decide +kernel), List.mem_of_getElem? (i := 798) (by decide +kernel)⟩
theorem lw_p28 : lw_okq (⟨"DeputyTownModel", "goHour", "(I)V"⟩, 29) := ⟨⟨by decide +kernel, by decide +kernel⟩, List.mem_of_getElem? (i := 616) (by decide +kernel), List.mem_of_getElem? (i := 801) (by decide +kernel), List.mem_of_getElem? (i := 802) (by decide +kernel)⟩
theorem lw_p29 : lw_okq (⟨"DeputyTownModel", "standsFor", "(II)I"⟩, 29) := ⟨⟨by decide +kernel, by decide +kernel⟩, List.mem_of_getElem? (i := 616) (by decide +kernel), List.mem_of_getElem? (i := 808) (by decide +kernel), List.mem_of_getElem? (i := 809) (by decide +kernel)⟩
theorem lw_p30 : lw_okq (⟨"DeputyTownModel", "isTired", "(II)Z"⟩, 29) := ⟨⟨by decide +kernel, by decide +kernel⟩, List.mem_of_getElem? (i := 616) (by decide +kernel), List.mem_of_getElem? (i := 812) (by decide +kernel), List.mem_of_getElem? (i := 813) (by decide +kernel)⟩
theorem lw_p31 : lw_okq (⟨"DeputyTownModel", "standsAhead", "(II)Z"⟩, 29) := ⟨⟨by decide +kernel, by decide +kernel⟩, List.mem_of_getElem? (i := 616) (by decide +kernel), List.mem_of_getElem? (i := 816) (by decide +kernel), List.mem_of_getElem? (i := 817) (by decide +kernel)⟩
def lw_privs_2 : List (MethodName × Nat) := [(⟨"DeputyTownModel", "refused", "(I)I"⟩, 29), (⟨"DeputyTownModel", "cellsBarred", "(IIIJ)I"⟩, 29), (⟨"DeputyTownModel", "faulted", "(I)I"⟩, 29), (⟨"DeputyTownModel", "readsTown", "(II)Z"⟩, 29), (⟨"DeputyTownModel", "codeAt", "(II)I"⟩, 29), (⟨"DeputyTownModel", "readsThing", "(II)Z"⟩, 29), (⟨"DeputyTownModel", "figure", "(IIIII)I"⟩, 29), (⟨"DeputyTownModel", "noThing", "(I)Z"⟩, 29), (⟨"DeputyTownModel", "goodOf", "(I)I"⟩, 29), (⟨"DeputyTownModel", "goTo", "(I)V"⟩, 29), (⟨"DeputyTownModel", "beginHours", "()V"⟩, 29), (⟨"DeputyTownModel", "brokenIn", "(I)I"⟩, 29), (⟨"DeputyTownModel", "goHour", "(I)V"⟩, 29), (⟨"DeputyTownModel", "standsFor", "(II)I"⟩, 29), (⟨"DeputyTownModel", "isTired", "(II)Z"⟩, 29), (⟨"DeputyTownModel", "standsAhead", "(II)Z"⟩, 29)]
theorem lw_r2 : ∀ q ∈ lw_privs_2, lw_okq q := List.forall_mem_cons.mpr ⟨lw_p16, List.forall_mem_cons.mpr ⟨lw_p17, List.forall_mem_cons.mpr ⟨lw_p18, List.forall_mem_cons.mpr ⟨lw_p19, List.forall_mem_cons.mpr ⟨lw_p20, List.forall_mem_cons.mpr ⟨lw_p21, List.forall_mem_cons.mpr ⟨lw_p22, List.forall_mem_cons.mpr ⟨lw_p23, List.forall_mem_cons.mpr ⟨lw_p24, List.forall_mem_cons.mpr ⟨lw_p25, List.forall_mem_cons.mpr ⟨lw_p26, List.forall_mem_cons.mpr ⟨lw_p27, List.forall_mem_cons.mpr ⟨lw_p28, List.forall_mem_cons.mpr ⟨lw_p29, List.forall_mem_cons.mpr ⟨lw_p30, List.forall_mem_cons.mpr ⟨lw_p31, fun _ h => absurd h List.not_mem_nil⟩⟩⟩⟩⟩⟩⟩⟩⟩⟩⟩⟩⟩⟩⟩⟩
theorem lw_p32 : lw_okq (⟨"DeputyTownModel", "refusedFor", "(I)I"⟩, 29) := ⟨⟨by decide +kernel, by decide +kernel⟩, List.mem_of_getElem? (i := 616) (by decide +kernel), List.mem_of_getElem? (i := 824) (by decide +kernel), List.mem_of_getElem? (i := 825) (by decide +kernel)⟩
theorem lw_p33 : lw_okq (⟨"DeputyTownModel", "undoneNow", "()I"⟩, 29) := ⟨⟨by decide +kernel, by decide +kernel⟩, List.mem_of_getElem? (i := 616) (by decide +kernel), List.mem_of_getElem? (i := 828) (by decide +kernel), List.mem_of_getElem? (i := 829) (by decide +kernel)⟩
theorem lw_p34 : lw_okq (⟨"DeputyTownModel", "servesNow", "()I"⟩, 29) := ⟨⟨by decide +kernel, by decide +kernel⟩, List.mem_of_getElem? (i := 616) (by decide +kernel), List.mem_of_getElem? (i := 836) (by decide +kernel), List.mem_of_getElem? (i := 837) (by decide +kernel)⟩
theorem lw_p35 : lw_okq (⟨"DeputyTownModel", "frailest", "(I)I"⟩, 29) := ⟨⟨by decide +kernel, by decide +kernel⟩, List.mem_of_getElem? (i := 616) (by decide +kernel), List.mem_of_getElem? (i := 852) (by decide +kernel), List.mem_of_getElem? (i := 853) (by decide +kernel)⟩
theorem lw_p36 : lw_okq (⟨"DeputyTownModel", "all", "()I"⟩, 29) := ⟨⟨by decide +kernel, by decide +kernel⟩, List.mem_of_getElem? (i := 616) (by decide +kernel), List.mem_of_getElem? (i := 856) (by decide +kernel), List.mem_of_getElem? (i := 857) (by decide +kernel)⟩
theorem lw_p37 : lw_okq (⟨"DeputyTownModel", "undoneBy", "(I)I"⟩, 29) := ⟨⟨by decide +kernel, by decide +kernel⟩, List.mem_of_getElem? (i := 616) (by decide +kernel), List.mem_of_getElem? (i := 863) (by decide +kernel), List.mem_of_getElem? (i := 864) (by decide +kernel)⟩
theorem lw_p38 : lw_okq (⟨"DeputyTownModel", "goFirst", "(I)V"⟩, 29) := ⟨⟨by decide +kernel, by decide +kernel⟩, List.mem_of_getElem? (i := 616) (by decide +kernel), List.mem_of_getElem? (i := 867) (by decide +kernel), List.mem_of_getElem? (i := 868) (by decide +kernel)⟩
theorem lw_p39 : lw_okq (⟨"DeputyTownModel", "areSo", "(I)Z"⟩, 29) := ⟨⟨by decide +kernel, by decide +kernel⟩, List.mem_of_getElem? (i := 616) (by decide +kernel), List.mem_of_getElem? (i := 899) (by decide +kernel), List.mem_of_getElem? (i := 900) (by decide +kernel)⟩
theorem lw_p40 : lw_okq (⟨"DeputyTownModel", "noCell", "(II)I"⟩, 29) := ⟨⟨by decide +kernel, by decide +kernel⟩, List.mem_of_getElem? (i := 616) (by decide +kernel), List.mem_of_getElem? (i := 930) (by decide +kernel), List.mem_of_getElem? (i := 931) (by decide +kernel)⟩
theorem lw_p41 : lw_okq (⟨"DeputyTownModel", "faultedLong", "(I)J"⟩, 29) := ⟨⟨by decide +kernel, by decide +kernel⟩, List.mem_of_getElem? (i := 616) (by decide +kernel), List.mem_of_getElem? (i := 938) (by decide +kernel), List.mem_of_getElem? (i := 939) (by decide +kernel)⟩
theorem lw_p42 : lw_okq (⟨"DeputyTownModel", "traced", "(I)V"⟩, 29) := ⟨⟨by decide +kernel, by decide +kernel⟩, List.mem_of_getElem? (i := 616) (by decide +kernel), List.mem_of_getElem? (i := 950) (by decide +kernel), List.mem_of_getElem? (i := 951) (by decide +kernel)⟩
def lw_privs_3 : List (MethodName × Nat) := [(⟨"DeputyTownModel", "refusedFor", "(I)I"⟩, 29), (⟨"DeputyTownModel", "undoneNow", "()I"⟩, 29), (⟨"DeputyTownModel", "servesNow", "()I"⟩, 29), (⟨"DeputyTownModel", "frailest", "(I)I"⟩, 29), (⟨"DeputyTownModel", "all", "()I"⟩, 29), (⟨"DeputyTownModel", "undoneBy", "(I)I"⟩, 29), (⟨"DeputyTownModel", "goFirst", "(I)V"⟩, 29), (⟨"DeputyTownModel", "areSo", "(I)Z"⟩, 29), (⟨"DeputyTownModel", "noCell", "(II)I"⟩, 29), (⟨"DeputyTownModel", "faultedLong", "(I)J"⟩, 29), (⟨"DeputyTownModel", "traced", "(I)V"⟩, 29)]
theorem lw_r3 : ∀ q ∈ lw_privs_3, lw_okq q := List.forall_mem_cons.mpr ⟨lw_p32, List.forall_mem_cons.mpr ⟨lw_p33, List.forall_mem_cons.mpr ⟨lw_p34, List.forall_mem_cons.mpr ⟨lw_p35, List.forall_mem_cons.mpr ⟨lw_p36, List.forall_mem_cons.mpr ⟨lw_p37, List.forall_mem_cons.mpr ⟨lw_p38, List.forall_mem_cons.mpr ⟨lw_p39, List.forall_mem_cons.mpr ⟨lw_p40, List.forall_mem_cons.mpr ⟨lw_p41, List.forall_mem_cons.mpr ⟨lw_p42, fun _ h => absurd h List.not_mem_nil⟩⟩⟩⟩⟩⟩⟩⟩⟩⟩⟩
def lw_privs : List (MethodName × Nat) := lw_privs_1 ++ (lw_privs_2 ++ (lw_privs_3))
def lw_tbl : List Cond := k2_sels lw_privs ++ tables_1
theorem lw_privs_ok : ∀ q ∈ lw_privs, lw_okq q := by
  show ∀ q ∈ lw_privs_1 ++ (lw_privs_2 ++ (lw_privs_3)), lw_okq q
  exact List.forall_mem_append.mpr ⟨lw_r1, List.forall_mem_append.mpr ⟨lw_r2, lw_r3⟩⟩
def RX0 : String := "DeputyTown$Bodies"
def TX0 : u_T := fun k => match k with
  | _ => ("DeputyTown$Bodies", "left", "I", false)
def tyX0 : Nat → FieldType := fun k => match k with
  | _ => .int
abbrev wsX00 : List Cond := u_ws RX0 TX0 1
theorem nmX0 : ∀ a, a < 1 → ∀ b, b < 1 → a ≠ b → (TX0 a).2.1 ≠ (TX0 b).2.1 := by decide +kernel
theorem tyX0_ok : ∀ k, k < 1 → parseFieldDescriptor (TX0 k).2.2.1 = some (tyX0 k) := by decide +kernel
abbrev cX0_init : ByteArray := prog_2_method_1_code
def yX0_init : MethodName := ⟨RX0, "<init>", "()V"⟩
abbrev cX0_telling : ByteArray := prog_2_method_2_code
def yX0_telling : MethodName := ⟨RX0, "telling", "(LDeputyTown$Thing;)I"⟩
abbrev cX0_ringing : ByteArray := prog_2_method_3_code
def yX0_ringing : MethodName := ⟨RX0, "ringing", "(LDeputyTown$Thing;)I"⟩
abbrev cX0_thingTells : ByteArray := prog_2_method_4_code
def yX0_thingTells : MethodName := ⟨RX0, "thingTells", "(LDeputyTown$Thing;)I"⟩
abbrev cX0_swornTells : ByteArray := prog_2_method_5_code
def yX0_swornTells : MethodName := ⟨RX0, "swornTells", "(LDeputyTown$Thing;)I"⟩
abbrev cX0_mayorTells : ByteArray := prog_2_method_6_code
def yX0_mayorTells : MethodName := ⟨RX0, "mayorTells", "(LDeputyTown$Thing;)I"⟩
abbrev cX0_lentRings : ByteArray := prog_2_method_7_code
def yX0_lentRings : MethodName := ⟨RX0, "lentRings", "(LDeputyTown$Thing;)I"⟩
abbrev cX0_mayorRings : ByteArray := prog_2_method_8_code
def yX0_mayorRings : MethodName := ⟨RX0, "mayorRings", "()I"⟩
abbrev cX0_leave : ByteArray := prog_2_method_9_code
def yX0_leave : MethodName := ⟨RX0, "leave", "(I)V"⟩
def RX1 : String := "DeputyTown$Breaks"
def TX1 : u_T := fun k => match k with
  | 0 => ("DeputyTown$Breaks", "who", "[I", true)
  | 1 => ("DeputyTown$Breaks", "from", "[I", true)
  | 2 => ("DeputyTown$Breaks", "to", "[I", true)
  | _ => ("DeputyTown$Breaks", "count", "I", false)
def tyX1 : Nat → FieldType := fun k => match k with
  | 0 => .array .int
  | 1 => .array .int
  | 2 => .array .int
  | _ => .int
abbrev wsX10 : List Cond := u_ws RX1 TX1 4
theorem nmX1 : ∀ a, a < 4 → ∀ b, b < 4 → a ≠ b → (TX1 a).2.1 ≠ (TX1 b).2.1 := by decide +kernel
theorem tyX1_ok : ∀ k, k < 4 → parseFieldDescriptor (TX1 k).2.2.1 = some (tyX1 k) := by decide +kernel
abbrev cX1_init : ByteArray := prog_3_method_1_code
def yX1_init : MethodName := ⟨RX1, "<init>", "()V"⟩
abbrev cX1_add : ByteArray := prog_3_method_2_code
def yX1_add : MethodName := ⟨RX1, "add", "(III)I"⟩
abbrev cX1_brokenIn : ByteArray := prog_3_method_3_code
def yX1_brokenIn : MethodName := ⟨RX1, "brokenIn", "(I)I"⟩
def RX2 : String := "DeputyTown$Readings"
def TX2 : u_T := fun k => match k with
  | 0 => ("DeputyTown$Readings", "uses", "[I", true)
  | 1 => ("DeputyTown$Readings", "servers", "[I", true)
  | _ => ("DeputyTown$Readings", "count", "I", false)
def tyX2 : Nat → FieldType := fun k => match k with
  | 0 => .array .int
  | 1 => .array .int
  | _ => .int
abbrev wsX20 : List Cond := u_ws RX2 TX2 3
theorem nmX2 : ∀ a, a < 3 → ∀ b, b < 3 → a ≠ b → (TX2 a).2.1 ≠ (TX2 b).2.1 := by decide +kernel
theorem tyX2_ok : ∀ k, k < 3 → parseFieldDescriptor (TX2 k).2.2.1 = some (tyX2 k) := by decide +kernel
abbrev cX2_init : ByteArray := prog_4_method_1_code
def yX2_init : MethodName := ⟨RX2, "<init>", "()V"⟩
abbrev cX2_add : ByteArray := prog_4_method_2_code
def yX2_add : MethodName := ⟨RX2, "add", "(II)I"⟩
abbrev cX2_areSo : ByteArray := prog_4_method_3_code
def yX2_areSo : MethodName := ⟨RX2, "areSo", "(LDeputyTown$Service;)Z"⟩
def RX3 : String := "DeputyTown$Service"
def TX3 : u_T := fun k => match k with
  | 0 => ("DeputyTown$Service", "folk", "LDeputyTown$Town;", true)
  | 1 => ("DeputyTown$Service", "servers", "[I", true)
  | 2 => ("DeputyTown$Service", "streaks", "[I", true)
  | _ => ("DeputyTown$Service", "standing", "I", false)
def tyX3 : Nat → FieldType := fun k => match k with
  | 0 => .object "DeputyTown$Town"
  | 1 => .array .int
  | 2 => .array .int
  | _ => .int
abbrev wsX30 : List Cond := u_ws RX3 TX3 4
theorem nmX3 : ∀ a, a < 4 → ∀ b, b < 4 → a ≠ b → (TX3 a).2.1 ≠ (TX3 b).2.1 := by decide +kernel
theorem tyX3_ok : ∀ k, k < 4 → parseFieldDescriptor (TX3 k).2.2.1 = some (tyX3 k) := by decide +kernel
abbrev cX3_init : ByteArray := prog_5_method_1_code
def yX3_init : MethodName := ⟨RX3, "<init>", "(LDeputyTown$Town;)V"⟩
abbrev cX3_workUpTo : ByteArray := prog_5_method_2_code
def yX3_workUpTo : MethodName := ⟨RX3, "workUpTo", "(ILDeputyTown$Breaks;)V"⟩
abbrev cX3_workHourZero : ByteArray := prog_5_method_3_code
def yX3_workHourZero : MethodName := ⟨RX3, "workHourZero", "(II)V"⟩
abbrev cX3_forget : ByteArray := prog_5_method_4_code
def yX3_forget : MethodName := ⟨RX3, "forget", "()V"⟩
abbrev cX3_workHour : ByteArray := prog_5_method_5_code
def yX3_workHour : MethodName := ⟨RX3, "workHour", "(II)V"⟩
abbrev cX3_standInFor : ByteArray := prog_5_method_6_code
def yX3_standInFor : MethodName := ⟨RX3, "standInFor", "(III)I"⟩
abbrev cX3_may : ByteArray := prog_5_method_7_code
def yX3_may : MethodName := ⟨RX3, "may", "(LDeputyTown$Thing;II)Z"⟩
abbrev cX3_isPreferred : ByteArray := prog_5_method_8_code
def yX3_isPreferred : MethodName := ⟨RX3, "isPreferred", "(LDeputyTown$Thing;LDeputyTown$Thing;I)Z"⟩
abbrev cX3_serverOf : ByteArray := prog_5_method_9_code
def yX3_serverOf : MethodName := ⟨RX3, "serverOf", "(I)I"⟩
abbrev cX3_undoneUses : ByteArray := prog_5_method_10_code
def yX3_undoneUses : MethodName := ⟨RX3, "undoneUses", "()I"⟩
abbrev cX3_points : ByteArray := prog_5_method_11_code
def yX3_points : MethodName := ⟨RX3, "points", "()I"⟩
def RX4 : String := "DeputyTown$Sheet"
def TX4 : u_T := fun k => match k with
  | 0 => ("DeputyTown$Sheet", "cells", "[I", true)
  | 1 => ("DeputyTown$Sheet", "has", "Z", false)
  | 2 => ("DeputyTown$Sheet", "lane", "I", false)
  | _ => ("DeputyTown$Sheet", "length", "I", false)
def tyX4 : Nat → FieldType := fun k => match k with
  | 0 => .array .int
  | 1 => .boolean
  | 2 => .int
  | _ => .int
abbrev wsX40 : List Cond := u_ws RX4 TX4 4
theorem nmX4 : ∀ a, a < 4 → ∀ b, b < 4 → a ≠ b → (TX4 a).2.1 ≠ (TX4 b).2.1 := by decide +kernel
theorem tyX4_ok : ∀ k, k < 4 → parseFieldDescriptor (TX4 k).2.2.1 = some (tyX4 k) := by decide +kernel
abbrev cX4_init : ByteArray := prog_6_method_1_code
def yX4_init : MethodName := ⟨RX4, "<init>", "()V"⟩
abbrev cX4_renew : ByteArray := prog_6_method_2_code
def yX4_renew : MethodName := ⟨RX4, "renew", "(II)V"⟩
abbrev cX4_rangeFault : ByteArray := prog_6_method_3_code
def yX4_rangeFault : MethodName := ⟨RX4, "rangeFault", "(III)I"⟩
abbrev cX4_isOver : ByteArray := prog_6_method_4_code
def yX4_isOver : MethodName := ⟨RX4, "isOver", "(II)Z"⟩
abbrev cX4_cellAt : ByteArray := prog_6_method_5_code
def yX4_cellAt : MethodName := ⟨RX4, "cellAt", "(I)I"⟩
abbrev cX4_setCell : ByteArray := prog_6_method_6_code
def yX4_setCell : MethodName := ⟨RX4, "setCell", "(II)V"⟩
abbrev cX4_cutToLane : ByteArray := prog_6_method_7_code
def yX4_cutToLane : MethodName := ⟨RX4, "cutToLane", "(I)I"⟩
def RX5 : String := "DeputyTown$Text"
def TX5 : u_T := fun k => match k with
  | _ => ("", "", "", false)
def tyX5 : Nat → FieldType := fun k => match k with
  | _ => .int
abbrev wsX50 : List Cond := u_ws RX5 TX5 0
theorem nmX5 : ∀ a, a < 0 → ∀ b, b < 0 → a ≠ b → (TX5 a).2.1 ≠ (TX5 b).2.1 := by decide +kernel
theorem tyX5_ok : ∀ k, k < 0 → parseFieldDescriptor (TX5 k).2.2.1 = some (tyX5 k) := by decide +kernel
abbrev cX5_thingsIn : ByteArray := prog_7_method_2_code
def yX5_thingsIn : MethodName := ⟨RX5, "thingsIn", "(I)I"⟩
abbrev cX5_placeOf : ByteArray := prog_7_method_3_code
def yX5_placeOf : MethodName := ⟨RX5, "placeOf", "(II)I"⟩
abbrev cX5_firstFault : ByteArray := prog_7_method_4_code
def yX5_firstFault : MethodName := ⟨RX5, "firstFault", "(LDeputyTown$Sheet;II)I"⟩
abbrev cX5_goesOn : ByteArray := prog_7_method_5_code
def yX5_goesOn : MethodName := ⟨RX5, "goesOn", "(II)Z"⟩
abbrev cX5_firstStranger : ByteArray := prog_7_method_6_code
def yX5_firstStranger : MethodName := ⟨RX5, "firstStranger", "(LDeputyTown$Sheet;II)I"⟩
abbrev cX5_kindBy : ByteArray := prog_7_method_7_code
def yX5_kindBy : MethodName := ⟨RX5, "kindBy", "(I)I"⟩
def RX6 : String := "DeputyTown$Thing"
def TX6 : u_T := fun k => match k with
  | 0 => ("DeputyTown$Thing", "number", "I", true)
  | 1 => ("DeputyTown$Thing", "kind", "I", false)
  | 2 => ("DeputyTown$Thing", "deputy", "I", false)
  | 3 => ("DeputyTown$Thing", "fit", "I", false)
  | 4 => ("DeputyTown$Thing", "lasts", "I", false)
  | _ => ("DeputyTown$Thing", "good", "I", false)
def tyX6 : Nat → FieldType := fun k => match k with
  | 0 => .int
  | 1 => .int
  | 2 => .int
  | 3 => .int
  | 4 => .int
  | _ => .int
abbrev wsX60 : List Cond := u_ws RX6 TX6 6
theorem nmX6 : ∀ a, a < 6 → ∀ b, b < 6 → a ≠ b → (TX6 a).2.1 ≠ (TX6 b).2.1 := by decide +kernel
theorem tyX6_ok : ∀ k, k < 6 → parseFieldDescriptor (TX6 k).2.2.1 = some (tyX6 k) := by decide +kernel
abbrev cX6_init : ByteArray := prog_8_method_1_code
def yX6_init : MethodName := ⟨RX6, "<init>", "(I)V"⟩
abbrev cX6_become : ByteArray := prog_8_method_2_code
def yX6_become : MethodName := ⟨RX6, "become", "(IIII)V"⟩
abbrev cX6_goodOf : ByteArray := prog_8_method_3_code
def yX6_goodOf : MethodName := ⟨RX6, "goodOf", "(II)I"⟩
def RX7 : String := "DeputyTown$Town"
def TX7 : u_T := fun k => match k with
  | 0 => ("DeputyTown$Town", "things", "[LDeputyTown$Thing;", true)
  | 1 => ("DeputyTown$Town", "count", "I", false)
  | _ => ("DeputyTown$Town", "law", "I", false)
def tyX7 : Nat → FieldType := fun k => match k with
  | 0 => .array (.object "DeputyTown$Thing")
  | 1 => .int
  | _ => .int
abbrev wsX70 : List Cond := u_ws RX7 TX7 3
theorem nmX7 : ∀ a, a < 3 → ∀ b, b < 3 → a ≠ b → (TX7 a).2.1 ≠ (TX7 b).2.1 := by decide +kernel
theorem tyX7_ok : ∀ k, k < 3 → parseFieldDescriptor (TX7 k).2.2.1 = some (tyX7 k) := by decide +kernel
abbrev cX7_init : ByteArray := prog_9_method_1_code
def yX7_init : MethodName := ⟨RX7, "<init>", "()V"⟩
abbrev cX7_settle : ByteArray := prog_9_method_2_code
def yX7_settle : MethodName := ⟨RX7, "settle", "(LDeputyTown$Sheet;II)V"⟩
abbrev cX7_thingAt : ByteArray := prog_9_method_3_code
def yX7_thingAt : MethodName := ⟨RX7, "thingAt", "(I)LDeputyTown$Thing;"⟩
abbrev cX7_sets : ByteArray := prog_9_method_4_code
def yX7_sets : MethodName := ⟨RX7, "sets", "()I"⟩
abbrev cX7_comesToItself : ByteArray := prog_9_method_5_code
def yX7_comesToItself : MethodName := ⟨RX7, "comesToItself", "(I)Z"⟩
def RX8 : String := "DeputyTown$Trials"
def TX8 : u_T := fun k => match k with
  | 0 => ("DeputyTown$Trials", "folk", "LDeputyTown$Town;", true)
  | 1 => ("DeputyTown$Trials", "service", "LDeputyTown$Service;", true)
  | 2 => ("DeputyTown$Trials", "frailSet", "I", false)
  | 3 => ("DeputyTown$Trials", "frailUndone", "I", false)
  | 4 => ("DeputyTown$Trials", "mendChange", "I", false)
  | 5 => ("DeputyTown$Trials", "mendUndone", "I", false)
  | 6 => ("DeputyTown$Trials", "failedCount", "I", false)
  | 7 => ("DeputyTown$Trials", "failedFewest", "I", false)
  | _ => ("DeputyTown$Trials", "failedCommon", "I", false)
def tyX8 : Nat → FieldType := fun k => match k with
  | 0 => .object "DeputyTown$Town"
  | 1 => .object "DeputyTown$Service"
  | 2 => .int
  | 3 => .int
  | 4 => .int
  | 5 => .int
  | 6 => .int
  | 7 => .int
  | _ => .int
abbrev wsX80 : List Cond := u_ws RX8 TX8 9
theorem nmX8 : ∀ a, a < 9 → ∀ b, b < 9 → a ≠ b → (TX8 a).2.1 ≠ (TX8 b).2.1 := by decide +kernel
theorem tyX8_ok : ∀ k, k < 9 → parseFieldDescriptor (TX8 k).2.2.1 = some (tyX8 k) := by decide +kernel
abbrev cX8_init : ByteArray := prog_10_method_1_code
def yX8_init : MethodName := ⟨RX8, "<init>", "(LDeputyTown$Town;LDeputyTown$Service;)V"⟩
abbrev cX8_seekFrail : ByteArray := prog_10_method_2_code
def yX8_seekFrail : MethodName := ⟨RX8, "seekFrail", "(I)V"⟩
abbrev cX8_plotOn : ByteArray := prog_10_method_3_code
def yX8_plotOn : MethodName := ⟨RX8, "plotOn", "(I)I"⟩
abbrev cX8_seekMend : ByteArray := prog_10_method_4_code
def yX8_seekMend : MethodName := ⟨RX8, "seekMend", "()V"⟩
abbrev cX8_keepMend : ByteArray := prog_10_method_5_code
def yX8_keepMend : MethodName := ⟨RX8, "keepMend", "(I)V"⟩
abbrev cX8_seekFailed : ByteArray := prog_10_method_6_code
def yX8_seekFailed : MethodName := ⟨RX8, "seekFailed", "(LDeputyTown$Readings;)V"⟩
abbrev cX8_setsThatServe : ByteArray := prog_10_method_7_code
def yX8_setsThatServe : MethodName := ⟨RX8, "setsThatServe", "(I)I"⟩
abbrev cX8_isFewer : ByteArray := prog_10_method_8_code
def yX8_isFewer : MethodName := ⟨RX8, "isFewer", "(II)Z"⟩
def RX9 : String := "DeputyTown"
def TX9 : u_T := fun k => match k with
  | 0 => ("DeputyTown", "sheets", "[LDeputyTown$Sheet;", true)
  | 1 => ("DeputyTown", "folk", "LDeputyTown$Town;", true)
  | 2 => ("DeputyTown", "breaks", "LDeputyTown$Breaks;", true)
  | 3 => ("DeputyTown", "readings", "LDeputyTown$Readings;", true)
  | 4 => ("DeputyTown", "service", "LDeputyTown$Service;", true)
  | 5 => ("DeputyTown", "trials", "LDeputyTown$Trials;", true)
  | 6 => ("DeputyTown", "bodies", "LDeputyTown$Bodies;", true)
  | _ => ("DeputyTown", "latestFault", "I", false)
def tyX9 : Nat → FieldType := fun k => match k with
  | 0 => .array (.object "DeputyTown$Sheet")
  | 1 => .object "DeputyTown$Town"
  | 2 => .object "DeputyTown$Breaks"
  | 3 => .object "DeputyTown$Readings"
  | 4 => .object "DeputyTown$Service"
  | 5 => .object "DeputyTown$Trials"
  | 6 => .object "DeputyTown$Bodies"
  | _ => .int
abbrev wsX90 : List Cond := u_ws RX9 TX9 8
theorem nmX9 : ∀ a, a < 8 → ∀ b, b < 8 → a ≠ b → (TX9 a).2.1 ≠ (TX9 b).2.1 := by decide +kernel
theorem tyX9_ok : ∀ k, k < 8 → parseFieldDescriptor (TX9 k).2.2.1 = some (tyX9 k) := by decide +kernel
abbrev cX9_init : ByteArray := prog_1_method_1_code
def yX9_init : MethodName := ⟨RX9, "<init>", "()V"⟩
abbrev cX9_town : ByteArray := prog_1_method_2_code
def yX9_town : MethodName := ⟨RX9, "town", "(IIII)I"⟩
abbrev cX9_ofThing : ByteArray := prog_1_method_3_code
def yX9_ofThing : MethodName := ⟨RX9, "ofThing", "(II)I"⟩
abbrev cX9_law : ByteArray := prog_1_method_4_code
def yX9_law : MethodName := ⟨RX9, "law", "(I)I"⟩
abbrev cX9_depute : ByteArray := prog_1_method_5_code
def yX9_depute : MethodName := ⟨RX9, "depute", "(II)I"⟩
abbrev cX9_smash : ByteArray := prog_1_method_6_code
def yX9_smash : MethodName := ⟨RX9, "smash", "(III)I"⟩
abbrev cX9_glue : ByteArray := prog_1_method_7_code
def yX9_glue : MethodName := ⟨RX9, "glue", "(I)I"⟩
abbrev cX9_by : ByteArray := prog_1_method_8_code
def yX9_by : MethodName := ⟨RX9, "by", "(II)I"⟩
abbrev cX9_undone : ByteArray := prog_1_method_9_code
def yX9_undone : MethodName := ⟨RX9, "undone", "(I)I"⟩
abbrev cX9_serves : ByteArray := prog_1_method_10_code
def yX9_serves : MethodName := ⟨RX9, "serves", "(I)I"⟩
abbrev cX9_ring : ByteArray := prog_1_method_11_code
def yX9_ring : MethodName := ⟨RX9, "ring", "()I"⟩
abbrev cX9_first : ByteArray := prog_1_method_12_code
def yX9_first : MethodName := ⟨RX9, "first", "(I)I"⟩
abbrev cX9_frail : ByteArray := prog_1_method_13_code
def yX9_frail : MethodName := ⟨RX9, "frail", "(II)I"⟩
abbrev cX9_plot : ByteArray := prog_1_method_14_code
def yX9_plot : MethodName := ⟨RX9, "plot", "(I)I"⟩
abbrev cX9_mend : ByteArray := prog_1_method_15_code
def yX9_mend : MethodName := ⟨RX9, "mend", "(I)I"⟩
abbrev cX9_wave : ByteArray := prog_1_method_16_code
def yX9_wave : MethodName := ⟨RX9, "wave", "(I)I"⟩
abbrev cX9_roster : ByteArray := prog_1_method_17_code
def yX9_roster : MethodName := ⟨RX9, "roster", "(IIII)I"⟩
abbrev cX9_reading : ByteArray := prog_1_method_18_code
def yX9_reading : MethodName := ⟨RX9, "reading", "(II)I"⟩
abbrev cX9_back : ByteArray := prog_1_method_19_code
def yX9_back : MethodName := ⟨RX9, "back", "(I)I"⟩
abbrev cX9_failed : ByteArray := prog_1_method_20_code
def yX9_failed : MethodName := ⟨RX9, "failed", "(I)I"⟩
abbrev cX9_laws : ByteArray := prog_1_method_21_code
def yX9_laws : MethodName := ⟨RX9, "laws", "()I"⟩
abbrev cX9_odds : ByteArray := prog_1_method_22_code
def yX9_odds : MethodName := ⟨RX9, "odds", "(II)J"⟩
abbrev cX9_sheet : ByteArray := prog_1_method_23_code
def yX9_sheet : MethodName := ⟨RX9, "sheet", "(III)I"⟩
abbrev cX9_lose : ByteArray := prog_1_method_24_code
def yX9_lose : MethodName := ⟨RX9, "lose", "(I)I"⟩
abbrev cX9_put : ByteArray := prog_1_method_25_code
def yX9_put : MethodName := ⟨RX9, "put", "(III)I"⟩
abbrev cX9_cell : ByteArray := prog_1_method_26_code
def yX9_cell : MethodName := ⟨RX9, "cell", "(III)J"⟩
abbrev cX9_copy : ByteArray := prog_1_method_27_code
def yX9_copy : MethodName := ⟨RX9, "copy", "(IIIII)I"⟩
abbrev cX9_tell : ByteArray := prog_1_method_28_code
def yX9_tell : MethodName := ⟨RX9, "tell", "(I)I"⟩
abbrev cX9_call : ByteArray := prog_1_method_29_code
def yX9_call : MethodName := ⟨RX9, "call", "(I)I"⟩
abbrev cX9_as : ByteArray := prog_1_method_30_code
def yX9_as : MethodName := ⟨RX9, "as", "(II)I"⟩
abbrev cX9_trace : ByteArray := prog_1_method_31_code
def yX9_trace : MethodName := ⟨RX9, "trace", "()I"⟩
abbrev cX9_fault : ByteArray := prog_1_method_32_code
def yX9_fault : MethodName := ⟨RX9, "fault", "()I"⟩
abbrev cX9_many : ByteArray := prog_1_method_33_code
def yX9_many : MethodName := ⟨RX9, "many", "(I)I"⟩
abbrev cX9_sheetAt : ByteArray := prog_1_method_34_code
def yX9_sheetAt : MethodName := ⟨RX9, "sheetAt", "(I)LDeputyTown$Sheet;"⟩
abbrev cX9_refusalOf : ByteArray := prog_1_method_35_code
def yX9_refusalOf : MethodName := ⟨RX9, "refusalOf", "(II)I"⟩
abbrev cX9_cameTo : ByteArray := prog_1_method_36_code
def yX9_cameTo : MethodName := ⟨RX9, "cameTo", "(I)I"⟩
abbrev cX9_namesThings : ByteArray := prog_1_method_37_code
def yX9_namesThings : MethodName := ⟨RX9, "namesThings", "(LDeputyTown$Sheet;I)Z"⟩
abbrev cX9_firstUnlike : ByteArray := prog_1_method_38_code
def yX9_firstUnlike : MethodName := ⟨RX9, "firstUnlike", "(LDeputyTown$Sheet;I)I"⟩
abbrev cX9_isBeyond : ByteArray := prog_1_method_39_code
def yX9_isBeyond : MethodName := ⟨RX9, "isBeyond", "(II)Z"⟩
abbrev cX9_leastOf : ByteArray := prog_1_method_40_code
def yX9_leastOf : MethodName := ⟨RX9, "leastOf", "(I)I"⟩
def RX10 : String := "DeputyTownModel"
def TX10 : u_T := fun k => match k with
  | 0 => ("DeputyTownModel", "fault", "I", false)
  | 1 => ("DeputyTownModel", "things", "I", false)
  | 2 => ("DeputyTownModel", "kindOf", "[I", true)
  | 3 => ("DeputyTownModel", "deputyOf", "[I", true)
  | 4 => ("DeputyTownModel", "fitOf", "[I", true)
  | 5 => ("DeputyTownModel", "lastsOf", "[I", true)
  | 6 => ("DeputyTownModel", "lawNow", "I", false)
  | 7 => ("DeputyTownModel", "readAt", "I", false)
  | 8 => ("DeputyTownModel", "readThings", "I", false)
  | 9 => ("DeputyTownModel", "readKind", "[I", true)
  | 10 => ("DeputyTownModel", "readDeputy", "[I", true)
  | 11 => ("DeputyTownModel", "readFit", "[I", true)
  | 12 => ("DeputyTownModel", "readLasts", "[I", true)
  | 13 => ("DeputyTownModel", "breaks", "I", false)
  | 14 => ("DeputyTownModel", "breakOf", "[I", true)
  | 15 => ("DeputyTownModel", "breakFrom", "[I", true)
  | 16 => ("DeputyTownModel", "breakTo", "[I", true)
  | 17 => ("DeputyTownModel", "servedBy", "[I", true)
  | 18 => ("DeputyTownModel", "stoodIn", "[I", true)
  | 19 => ("DeputyTownModel", "stoodFor", "[I", true)
  | 20 => ("DeputyTownModel", "frailMany", "I", false)
  | 21 => ("DeputyTownModel", "readings", "I", false)
  | 22 => ("DeputyTownModel", "readingOf", "[I", true)
  | 23 => ("DeputyTownModel", "readingBy", "[I", true)
  | 24 => ("DeputyTownModel", "sheetSize", "[I", true)
  | 25 => ("DeputyTownModel", "sheetLane", "[I", true)
  | 26 => ("DeputyTownModel", "sheet", "[I", true)
  | 27 => ("DeputyTownModel", "hands", "[I", true)
  | _ => ("DeputyTownModel", "traceNow", "I", false)
def tyX10 : Nat → FieldType := fun k => match k with
  | 0 => .int
  | 1 => .int
  | 2 => .array .int
  | 3 => .array .int
  | 4 => .array .int
  | 5 => .array .int
  | 6 => .int
  | 7 => .int
  | 8 => .int
  | 9 => .array .int
  | 10 => .array .int
  | 11 => .array .int
  | 12 => .array .int
  | 13 => .int
  | 14 => .array .int
  | 15 => .array .int
  | 16 => .array .int
  | 17 => .array .int
  | 18 => .array .int
  | 19 => .array .int
  | 20 => .int
  | 21 => .int
  | 22 => .array .int
  | 23 => .array .int
  | 24 => .array .int
  | 25 => .array .int
  | 26 => .array .int
  | 27 => .array .int
  | _ => .int
abbrev wsX100 : List Cond := u_ws RX10 TX10 29
theorem nmX10 : ∀ a, a < 29 → ∀ b, b < 29 → a ≠ b → (TX10 a).2.1 ≠ (TX10 b).2.1 := by decide +kernel
theorem tyX10_ok : ∀ k, k < 29 → parseFieldDescriptor (TX10 k).2.2.1 = some (tyX10 k) := by decide +kernel
abbrev cX10_init : ByteArray := prog_12_method_1_code
def yX10_init : MethodName := ⟨RX10, "<init>", "()V"⟩
abbrev cX10_in : ByteArray := prog_12_method_2_code
def yX10_in : MethodName := ⟨RX10, "in", "(JJJ)Z"⟩
abbrev cX10_lost : ByteArray := prog_12_method_3_code
def yX10_lost : MethodName := ⟨RX10, "lost", "()J"⟩
abbrev cX10_isIn : ByteArray := prog_12_method_4_code
def yX10_isIn : MethodName := ⟨RX10, "isIn", "(II)Z"⟩
abbrev cX10_bits : ByteArray := prog_12_method_5_code
def yX10_bits : MethodName := ⟨RX10, "bits", "(I)I"⟩
abbrev cX10_told : ByteArray := prog_12_method_6_code
def yX10_told : MethodName := ⟨RX10, "told", "(JJI)J"⟩
abbrev cX10_refused : ByteArray := prog_12_method_7_code
def yX10_refused : MethodName := ⟨RX10, "refused", "(I)I"⟩
abbrev cX10_faulted : ByteArray := prog_12_method_8_code
def yX10_faulted : MethodName := ⟨RX10, "faulted", "(I)I"⟩
abbrev cX10_faultedLong : ByteArray := prog_12_method_9_code
def yX10_faultedLong : MethodName := ⟨RX10, "faultedLong", "(I)J"⟩
abbrev cX10_noThing : ByteArray := prog_12_method_10_code
def yX10_noThing : MethodName := ⟨RX10, "noThing", "(I)Z"⟩
abbrev cX10_isHour : ByteArray := prog_12_method_11_code
def yX10_isHour : MethodName := ⟨RX10, "isHour", "(I)Z"⟩
abbrev cX10_all : ByteArray := prog_12_method_12_code
def yX10_all : MethodName := ⟨RX10, "all", "()I"⟩
abbrev cX10_codeAt : ByteArray := prog_12_method_13_code
def yX10_codeAt : MethodName := ⟨RX10, "codeAt", "(II)I"⟩
abbrev cX10_figure : ByteArray := prog_12_method_14_code
def yX10_figure : MethodName := ⟨RX10, "figure", "(IIIII)I"⟩
abbrev cX10_readsThing : ByteArray := prog_12_method_15_code
def yX10_readsThing : MethodName := ⟨RX10, "readsThing", "(II)Z"⟩
abbrev cX10_readsTown : ByteArray := prog_12_method_16_code
def yX10_readsTown : MethodName := ⟨RX10, "readsTown", "(II)Z"⟩
abbrev cX10_cellsBarred : ByteArray := prog_12_method_17_code
def yX10_cellsBarred : MethodName := ⟨RX10, "cellsBarred", "(IIIJ)I"⟩
abbrev cX10_town : ByteArray := prog_12_method_18_code
def yX10_town : MethodName := ⟨RX10, "town", "(IIII)I"⟩
abbrev cX10_goodOf : ByteArray := prog_12_method_19_code
def yX10_goodOf : MethodName := ⟨RX10, "goodOf", "(I)I"⟩
abbrev cX10_ofThing : ByteArray := prog_12_method_20_code
def yX10_ofThing : MethodName := ⟨RX10, "ofThing", "(II)I"⟩
abbrev cX10_law : ByteArray := prog_12_method_21_code
def yX10_law : MethodName := ⟨RX10, "law", "(I)I"⟩
abbrev cX10_depute : ByteArray := prog_12_method_22_code
def yX10_depute : MethodName := ⟨RX10, "depute", "(II)I"⟩
abbrev cX10_smash : ByteArray := prog_12_method_23_code
def yX10_smash : MethodName := ⟨RX10, "smash", "(III)I"⟩
abbrev cX10_glue : ByteArray := prog_12_method_24_code
def yX10_glue : MethodName := ⟨RX10, "glue", "(I)I"⟩
abbrev cX10_brokenIn : ByteArray := prog_12_method_25_code
def yX10_brokenIn : MethodName := ⟨RX10, "brokenIn", "(I)I"⟩
abbrev cX10_beginHours : ByteArray := prog_12_method_26_code
def yX10_beginHours : MethodName := ⟨RX10, "beginHours", "()V"⟩
abbrev cX10_isTired : ByteArray := prog_12_method_27_code
def yX10_isTired : MethodName := ⟨RX10, "isTired", "(II)Z"⟩
abbrev cX10_standsAhead : ByteArray := prog_12_method_28_code
def yX10_standsAhead : MethodName := ⟨RX10, "standsAhead", "(II)Z"⟩
abbrev cX10_standsFor : ByteArray := prog_12_method_29_code
def yX10_standsFor : MethodName := ⟨RX10, "standsFor", "(II)I"⟩
abbrev cX10_goHour : ByteArray := prog_12_method_30_code
def yX10_goHour : MethodName := ⟨RX10, "goHour", "(I)V"⟩
abbrev cX10_goTo : ByteArray := prog_12_method_31_code
def yX10_goTo : MethodName := ⟨RX10, "goTo", "(I)V"⟩
abbrev cX10_goFirst : ByteArray := prog_12_method_32_code
def yX10_goFirst : MethodName := ⟨RX10, "goFirst", "(I)V"⟩
abbrev cX10_undoneNow : ByteArray := prog_12_method_33_code
def yX10_undoneNow : MethodName := ⟨RX10, "undoneNow", "()I"⟩
abbrev cX10_servesNow : ByteArray := prog_12_method_34_code
def yX10_servesNow : MethodName := ⟨RX10, "servesNow", "()I"⟩
abbrev cX10_by : ByteArray := prog_12_method_35_code
def yX10_by : MethodName := ⟨RX10, "by", "(II)I"⟩
abbrev cX10_refusedFor : ByteArray := prog_12_method_36_code
def yX10_refusedFor : MethodName := ⟨RX10, "refusedFor", "(I)I"⟩
abbrev cX10_undone : ByteArray := prog_12_method_37_code
def yX10_undone : MethodName := ⟨RX10, "undone", "(I)I"⟩
abbrev cX10_serves : ByteArray := prog_12_method_38_code
def yX10_serves : MethodName := ⟨RX10, "serves", "(I)I"⟩
abbrev cX10_ring : ByteArray := prog_12_method_39_code
def yX10_ring : MethodName := ⟨RX10, "ring", "()I"⟩
abbrev cX10_first : ByteArray := prog_12_method_40_code
def yX10_first : MethodName := ⟨RX10, "first", "(I)I"⟩
abbrev cX10_undoneBy : ByteArray := prog_12_method_41_code
def yX10_undoneBy : MethodName := ⟨RX10, "undoneBy", "(I)I"⟩
abbrev cX10_frailest : ByteArray := prog_12_method_42_code
def yX10_frailest : MethodName := ⟨RX10, "frailest", "(I)I"⟩
abbrev cX10_frail : ByteArray := prog_12_method_43_code
def yX10_frail : MethodName := ⟨RX10, "frail", "(II)I"⟩
abbrev cX10_plot : ByteArray := prog_12_method_44_code
def yX10_plot : MethodName := ⟨RX10, "plot", "(I)I"⟩
abbrev cX10_mend : ByteArray := prog_12_method_45_code
def yX10_mend : MethodName := ⟨RX10, "mend", "(I)I"⟩
abbrev cX10_wave : ByteArray := prog_12_method_46_code
def yX10_wave : MethodName := ⟨RX10, "wave", "(I)I"⟩
abbrev cX10_roster : ByteArray := prog_12_method_47_code
def yX10_roster : MethodName := ⟨RX10, "roster", "(IIII)I"⟩
abbrev cX10_reading : ByteArray := prog_12_method_48_code
def yX10_reading : MethodName := ⟨RX10, "reading", "(II)I"⟩
abbrev cX10_back : ByteArray := prog_12_method_49_code
def yX10_back : MethodName := ⟨RX10, "back", "(I)I"⟩
abbrev cX10_areSo : ByteArray := prog_12_method_50_code
def yX10_areSo : MethodName := ⟨RX10, "areSo", "(I)Z"⟩
abbrev cX10_failed : ByteArray := prog_12_method_51_code
def yX10_failed : MethodName := ⟨RX10, "failed", "(I)I"⟩
abbrev cX10_laws : ByteArray := prog_12_method_52_code
def yX10_laws : MethodName := ⟨RX10, "laws", "()I"⟩
abbrev cX10_odds : ByteArray := prog_12_method_53_code
def yX10_odds : MethodName := ⟨RX10, "odds", "(II)J"⟩
abbrev cX10_noSheet : ByteArray := prog_12_method_54_code
def yX10_noSheet : MethodName := ⟨RX10, "noSheet", "(I)Z"⟩
abbrev cX10_sheet : ByteArray := prog_12_method_55_code
def yX10_sheet : MethodName := ⟨RX10, "sheet", "(III)I"⟩
abbrev cX10_lose : ByteArray := prog_12_method_56_code
def yX10_lose : MethodName := ⟨RX10, "lose", "(I)I"⟩
abbrev cX10_noCell : ByteArray := prog_12_method_57_code
def yX10_noCell : MethodName := ⟨RX10, "noCell", "(II)I"⟩
abbrev cX10_put : ByteArray := prog_12_method_58_code
def yX10_put : MethodName := ⟨RX10, "put", "(III)I"⟩
abbrev cX10_cell : ByteArray := prog_12_method_59_code
def yX10_cell : MethodName := ⟨RX10, "cell", "(III)J"⟩
abbrev cX10_isBeyond : ByteArray := prog_12_method_60_code
def yX10_isBeyond : MethodName := ⟨RX10, "isBeyond", "(IJI)Z"⟩
abbrev cX10_copy : ByteArray := prog_12_method_61_code
def yX10_copy : MethodName := ⟨RX10, "copy", "(IIIII)I"⟩
abbrev cX10_traced : ByteArray := prog_12_method_62_code
def yX10_traced : MethodName := ⟨RX10, "traced", "(I)V"⟩
abbrev cX10_tell : ByteArray := prog_12_method_63_code
def yX10_tell : MethodName := ⟨RX10, "tell", "(I)I"⟩
abbrev cX10_call : ByteArray := prog_12_method_64_code
def yX10_call : MethodName := ⟨RX10, "call", "(I)I"⟩
abbrev cX10_as : ByteArray := prog_12_method_65_code
def yX10_as : MethodName := ⟨RX10, "as", "(II)I"⟩
abbrev cX10_trace : ByteArray := prog_12_method_66_code
def yX10_trace : MethodName := ⟨RX10, "trace", "()I"⟩
abbrev cX10_fault : ByteArray := prog_12_method_67_code
def yX10_fault : MethodName := ⟨RX10, "fault", "()I"⟩
abbrev cX10_many : ByteArray := prog_12_method_68_code
def yX10_many : MethodName := ⟨RX10, "many", "(I)I"⟩
def RJ6 : String := "java/lang/Integer"
abbrev cJ6_bitCount_0f7a4 : ByteArray := prog_13_method_49_code
def yJ6_bitCount_0f7a4 : MethodName := ⟨RJ6, "bitCount", "(I)I"⟩
def RJ9 : String := "java/lang/Math"
abbrev cJ9_min_7cf53 : ByteArray := prog_14_method_69_code
def yJ9_min_7cf53 : MethodName := ⟨RJ9, "min", "(II)I"⟩
def RJ10 : String := "java/lang/System"
def RJ7 : String := "java/util/Arrays"
abbrev cJ7_fill_53178 : ByteArray := prog_16_method_103_code
def yJ7_fill_53178 : MethodName := ⟨RJ7, "fill", "([II)V"⟩
def RL : String := "DeputyTownLaw"
abbrev cL_law : ByteArray := code
abbrev vwCl : List vw_C := [(RX0, TX0, 1), (RX1, TX1, 4), (RX2, TX2, 3), (RX3, TX3, 4), (RX4, TX4, 4), (RX6, TX6, 6), (RX7, TX7, 3), (RX8, TX8, 9), (RX9, TX9, 8), (RX10, TX10, 29)]

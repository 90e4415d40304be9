section
/-- a private method of a class that the tables say can be made, by its rows of tables_1 -/
def lw_okq (q : MethodName × Nat) : Prop := (q.1.cls ≠ "java/lang/invoke/MethodHandle" ∧ q.1.cls ≠ "java/lang/invoke/VarHandle") ∧ Cond.instantiable q.1.cls q.2 ∈ tables_1 ∧ Cond.privateMethod q.1 ∈ tables_1 ∧ Cond.instanceMethod q.1 ∈ tables_1
theorem lw_p0 : lw_okq (⟨"DeputyTown", "sheetAt", "(I)LDeputyTown$Sheet;"⟩, 8) := ⟨⟨by decide +kernel, by decide +kernel⟩, List.mem_of_getElem? (i := 17) (by decide +kernel), List.mem_of_getElem? (i := 248) (by decide +kernel), List.mem_of_getElem? (i := 249) (by decide +kernel)⟩
theorem lw_p1 : lw_okq (⟨"DeputyTown", "cameTo", "(I)I"⟩, 8) := ⟨⟨by decide +kernel, by decide +kernel⟩, List.mem_of_getElem? (i := 17) (by decide +kernel), List.mem_of_getElem? (i := 263) (by decide +kernel), List.mem_of_getElem? (i := 264) (by decide +kernel)⟩
theorem lw_p2 : lw_okq (⟨"DeputyTown$Service", "standInFor", "(III)I"⟩, 4) := ⟨⟨by decide +kernel, by decide +kernel⟩, List.mem_of_getElem? (i := 127) (by decide +kernel), List.mem_of_getElem? (i := 359) (by decide +kernel), List.mem_of_getElem? (i := 360) (by decide +kernel)⟩
theorem lw_p3 : lw_okq (⟨"DeputyTown$Service", "may", "(LDeputyTown$Thing;II)Z"⟩, 4) := ⟨⟨by decide +kernel, by decide +kernel⟩, List.mem_of_getElem? (i := 127) (by decide +kernel), List.mem_of_getElem? (i := 364) (by decide +kernel), List.mem_of_getElem? (i := 365) (by decide +kernel)⟩
theorem lw_p4 : lw_okq (⟨"DeputyTown$Service", "isPreferred", "(LDeputyTown$Thing;LDeputyTown$Thing;I)Z"⟩, 4) := ⟨⟨by decide +kernel, by decide +kernel⟩, List.mem_of_getElem? (i := 127) (by decide +kernel), List.mem_of_getElem? (i := 368) (by decide +kernel), List.mem_of_getElem? (i := 369) (by decide +kernel)⟩
theorem lw_p5 : lw_okq (⟨"DeputyTown", "refusalOf", "(II)I"⟩, 8) := ⟨⟨by decide +kernel, by decide +kernel⟩, List.mem_of_getElem? (i := 17) (by decide +kernel), List.mem_of_getElem? (i := 380) (by decide +kernel), List.mem_of_getElem? (i := 381) (by decide +kernel)⟩
theorem lw_p6 : lw_okq (⟨"DeputyTown$Trials", "keepMend", "(I)V"⟩, 9) := ⟨⟨by decide +kernel, by decide +kernel⟩, List.mem_of_getElem? (i := 146) (by decide +kernel), List.mem_of_getElem? (i := 460) (by decide +kernel), List.mem_of_getElem? (i := 461) (by decide +kernel)⟩
theorem lw_p7 : lw_okq (⟨"DeputyTown", "namesThings", "(LDeputyTown$Sheet;I)Z"⟩, 8) := ⟨⟨by decide +kernel, by decide +kernel⟩, List.mem_of_getElem? (i := 17) (by decide +kernel), List.mem_of_getElem? (i := 473) (by decide +kernel), List.mem_of_getElem? (i := 474) (by decide +kernel)⟩
theorem lw_p8 : lw_okq (⟨"DeputyTown", "firstUnlike", "(LDeputyTown$Sheet;I)I"⟩, 8) := ⟨⟨by decide +kernel, by decide +kernel⟩, List.mem_of_getElem? (i := 17) (by decide +kernel), List.mem_of_getElem? (i := 478) (by decide +kernel), List.mem_of_getElem? (i := 479) (by decide +kernel)⟩
theorem lw_p9 : lw_okq (⟨"DeputyTown$Sheet", "cutToLane", "(I)I"⟩, 4) := ⟨⟨by decide +kernel, by decide +kernel⟩, List.mem_of_getElem? (i := 197) (by decide +kernel), List.mem_of_getElem? (i := 544) (by decide +kernel), List.mem_of_getElem? (i := 545) (by decide +kernel)⟩
theorem lw_p10 : lw_okq (⟨"DeputyTown$Bodies", "mayorTells", "(LDeputyTown$Thing;)I"⟩, 1) := ⟨⟨by decide +kernel, by decide +kernel⟩, List.mem_of_getElem? (i := 187) (by decide +kernel), List.mem_of_getElem? (i := 568) (by decide +kernel), List.mem_of_getElem? (i := 569) (by decide +kernel)⟩
theorem lw_p11 : lw_okq (⟨"DeputyTown$Bodies", "leave", "(I)V"⟩, 1) := ⟨⟨by decide +kernel, by decide +kernel⟩, List.mem_of_getElem? (i := 187) (by decide +kernel), List.mem_of_getElem? (i := 572) (by decide +kernel), List.mem_of_getElem? (i := 573) (by decide +kernel)⟩
theorem lw_p12 : lw_okq (⟨"DeputyTown$Bodies", "swornTells", "(LDeputyTown$Thing;)I"⟩, 1) := ⟨⟨by decide +kernel, by decide +kernel⟩, List.mem_of_getElem? (i := 187) (by decide +kernel), List.mem_of_getElem? (i := 576) (by decide +kernel), List.mem_of_getElem? (i := 577) (by decide +kernel)⟩
theorem lw_p13 : lw_okq (⟨"DeputyTown$Bodies", "thingTells", "(LDeputyTown$Thing;)I"⟩, 1) := ⟨⟨by decide +kernel, by decide +kernel⟩, List.mem_of_getElem? (i := 187) (by decide +kernel), List.mem_of_getElem? (i := 580) (by decide +kernel), List.mem_of_getElem? (i := 581) (by decide +kernel)⟩
theorem lw_p14 : lw_okq (⟨"DeputyTown$Bodies", "mayorRings", "()I"⟩, 1) := ⟨⟨by decide +kernel, by decide +kernel⟩, List.mem_of_getElem? (i := 187) (by decide +kernel), List.mem_of_getElem? (i := 592) (by decide +kernel), List.mem_of_getElem? (i := 593) (by decide +kernel)⟩
theorem lw_p15 : lw_okq (⟨"DeputyTown$Bodies", "lentRings", "(LDeputyTown$Thing;)I"⟩, 1) := ⟨⟨by decide +kernel, by decide +kernel⟩, List.mem_of_getElem? (i := 187) (by decide +kernel), List.mem_of_getElem? (i := 596) (by decide +kernel), List.mem_of_getElem? (i := 597) (by decide +kernel)⟩
def lw_privs_1 : List (MethodName × Nat) := [(⟨"DeputyTown", "sheetAt", "(I)LDeputyTown$Sheet;"⟩, 8), (⟨"DeputyTown", "cameTo", "(I)I"⟩, 8), (⟨"DeputyTown$Service", "standInFor", "(III)I"⟩, 4), (⟨"DeputyTown$Service", "may", "(LDeputyTown$Thing;II)Z"⟩, 4), (⟨"DeputyTown$Service", "isPreferred", "(LDeputyTown$Thing;LDeputyTown$Thing;I)Z"⟩, 4), (⟨"DeputyTown", "refusalOf", "(II)I"⟩, 8), (⟨"DeputyTown$Trials", "keepMend", "(I)V"⟩, 9), (⟨"DeputyTown", "namesThings", "(LDeputyTown$Sheet;I)Z"⟩, 8), (⟨"DeputyTown", "firstUnlike", "(LDeputyTown$Sheet;I)I"⟩, 8), (⟨"DeputyTown$Sheet", "cutToLane", "(I)I"⟩, 4), (⟨"DeputyTown$Bodies", "mayorTells", "(LDeputyTown$Thing;)I"⟩, 1), (⟨"DeputyTown$Bodies", "leave", "(I)V"⟩, 1), (⟨"DeputyTown$Bodies", "swornTells", "(LDeputyTown$Thing;)I"⟩, 1), (⟨"DeputyTown$Bodies", "thingTells", "(LDeputyTown$Thing;)I"⟩, 1), (⟨"DeputyTown$Bodies", "mayorRings", "()I"⟩, 1), (⟨"DeputyTown$Bodies", "lentRings", "(LDeputyTown$Thing;)I"⟩, 1)]
theorem lw_r1 : ∀ q ∈ lw_privs_1, lw_okq q := List.forall_mem_cons.mpr ⟨lw_p0, List.forall_mem_cons.mpr ⟨lw_p1, List.forall_mem_cons.mpr ⟨lw_p2, List.forall_mem_cons.mpr ⟨lw_p3, List.forall_mem_cons.mpr ⟨lw_p4, List.forall_mem_cons.mpr ⟨lw_p5, List.forall_mem_cons.mpr ⟨lw_p6, List.forall_mem_cons.mpr ⟨lw_p7, List.forall_mem_cons.mpr ⟨lw_p8, List.forall_mem_cons.mpr ⟨lw_p9, List.forall_mem_cons.mpr ⟨lw_p10, List.forall_mem_cons.mpr ⟨lw_p11, List.forall_mem_cons.mpr ⟨lw_p12, List.forall_mem_cons.mpr ⟨lw_p13, List.forall_mem_cons.mpr ⟨lw_p14, List.forall_mem_cons.mpr ⟨lw_p15, fun _ h => absurd h List.not_mem_nil⟩⟩⟩⟩⟩⟩⟩⟩⟩⟩⟩⟩⟩⟩⟩⟩
theorem lw_p16 : lw_okq (⟨"DeputyTownModel", "refused", "(I)I"⟩, 29) := ⟨⟨by decide +kernel, by decide +kernel⟩, List.mem_of_getElem? (i := 616) (by decide +kernel), List.mem_of_getElem? (i := 721) (by decide +kernel), List.mem_of_getElem? (i := 722) (by decide +kernel)⟩
theorem lw_p17 : lw_okq (⟨"DeputyTownModel", "cellsBarred", "(IIIJ)I"⟩, 29) := ⟨⟨by decide +kernel, by decide +kernel⟩, List.mem_of_getElem? (i := 616) (by decide +kernel), List.mem_of_getElem? (i := 726) (by decide +kernel), List.mem_of_getElem? (i := 727) (by decide +kernel)⟩
theorem lw_p18 : lw_okq (⟨"DeputyTownModel", "faulted", "(I)I"⟩, 29) := ⟨⟨by decide +kernel, by decide +kernel⟩, List.mem_of_getElem? (i := 616) (by decide +kernel), List.mem_of_getElem? (i := 730) (by decide +kernel), List.mem_of_getElem? (i := 731) (by decide +kernel)⟩
theorem lw_p19 : lw_okq (⟨"DeputyTownModel", "readsTown", "(II)Z"⟩, 29) := ⟨⟨by decide +kernel, by decide +kernel⟩, List.mem_of_getElem? (i := 616) (by decide +kernel), List.mem_of_getElem? (i := 737) (by decide +kernel), List.mem_of_getElem? (i := 738) (by decide +kernel)⟩
theorem lw_p20 : lw_okq (⟨"DeputyTownModel", "codeAt", "(II)I"⟩, 29) := ⟨⟨by decide +kernel, by decide +kernel⟩, List.mem_of_getElem? (i := 616) (by decide +kernel), List.mem_of_getElem? (i := 741) (by decide +kernel), List.mem_of_getElem? (i := 742) (by decide +kernel)⟩
theorem lw_p21 : lw_okq (⟨"DeputyTownModel", "readsThing", "(II)Z"⟩, 29) := ⟨⟨by decide +kernel, by decide +kernel⟩, List.mem_of_getElem? (i := 616) (by decide +kernel), List.mem_of_getElem? (i := 745) (by decide +kernel), List.mem_of_getElem? (i := 746) (by decide +kernel)⟩
theorem lw_p22 : lw_okq (⟨"DeputyTownModel", "figure", "(IIIII)I"⟩, 29) := ⟨⟨by decide +kernel, by decide +kernel⟩, List.mem_of_getElem? (i := 616) (by decide +kernel), List.mem_of_getElem? (i := 749) (by decide +kernel), List.mem_of_getElem? (i := 750) (by decide +kernel)⟩
theorem lw_p23 : lw_okq (⟨"DeputyTownModel", "noThing", "(I)Z"⟩, 29) := ⟨⟨by decide +kernel, by decide +kernel⟩, List.mem_of_getElem? (i := 616) (by decide +kernel), List.mem_of_getElem? (i := 757) (by decide +kernel), List.mem_of_getElem? (i := 758) (by decide +kernel)⟩
theorem lw_p24 : lw_okq (⟨"DeputyTownModel", "goodOf", "(I)I"⟩, 29) := ⟨⟨by decide +kernel, by decide +kernel⟩, List.mem_of_getElem? (i := 616) (by decide +kernel), List.mem_of_getElem? (i := 761) (by decide +kernel), List.mem_of_getElem? (i := 762) (by decide +kernel)⟩
theorem lw_p25 : lw_okq (⟨"DeputyTownModel", "goTo", "(I)V"⟩, 29) := ⟨⟨by decide +kernel, by decide +kernel⟩, List.mem_of_getElem? (i := 616) (by decide +kernel), List.mem_of_getElem? (i := 789) (by decide +kernel), List.mem_of_getElem? (i := 790) (by decide +kernel)⟩
theorem lw_p26 : lw_okq (⟨"DeputyTownModel", "beginHours", "()V"⟩, 29) := ⟨⟨by decide +kernel, by decide +kernel⟩, List.mem_of_getElem? (i := 616) (by decide +kernel), List.mem_of_getElem? (i := 793) (by decide +kernel), List.mem_of_getElem? (i := 794) (by decide +kernel)⟩
theorem lw_p27 : lw_okq (⟨"DeputyTownModel", "brokenIn", "(I)I"⟩, 29) := ⟨⟨by decide +kernel, by decide +kernel⟩, List.mem_of_getElem? (i := 616) (by decide +kernel), List.mem_of_getElem? (i := 797) (by decide +kernel), List.mem_of_getElem? (i := 798) (by decide +kernel)⟩
theorem lw_p28 : lw_okq (⟨"DeputyTownModel", "goHour", "(I)V"⟩, 29) := ⟨⟨by decide +kernel, by decide +kernel⟩, List.mem_of_getElem? (i := 616) (by decide +kernel), List.mem_of_getElem? (i := 801) (by decide +kernel), List.mem_of_getElem? (i := 802) (by decide +kernel)⟩
theorem lw_p29 : lw_okq (⟨"DeputyTownModel", "standsFor", "(II)I"⟩, 29) := ⟨⟨by decide +kernel, by decide +kernel⟩, List.mem_of_getElem? (i := 616) (by decide +kernel), List.mem_of_getElem? (i := 808) (by decide +kernel), List.mem_of_getElem? (i := 809) (by decide +kernel)⟩
theorem lw_p30 : lw_okq (⟨"DeputyTownModel", "isTired", "(II)Z"⟩, 29) := ⟨⟨by decide +kernel, by decide +kernel⟩, List.mem_of_getElem? (i := 616) (by decide +kernel), List.mem_of_getElem? (i := 812) (by decide +kernel), List.mem_of_getElem? (i := 813) (by decide +kernel)⟩
theorem lw_p31 : lw_okq (⟨"DeputyTownModel", "standsAhead", "(II)Z"⟩, 29) := ⟨⟨by decide +kernel, by decide +kernel⟩, List.mem_of_getElem? (i := 616) (by decide +kernel), List.mem_of_getElem? (i := 816) (by decide +kernel), List.mem_of_getElem? (i := 817) (by decide +kernel)⟩
def lw_privs_2 : List (MethodName × Nat) := [(⟨"DeputyTownModel", "refused", "(I)I"⟩, 29), (⟨"DeputyTownModel", "cellsBarred", "(IIIJ)I"⟩, 29), (⟨"DeputyTownModel", "faulted", "(I)I"⟩, 29), (⟨"DeputyTownModel", "readsTown", "(II)Z"⟩, 29), (⟨"DeputyTownModel", "codeAt", "(II)I"⟩, 29), (⟨"DeputyTownModel", "readsThing", "(II)Z"⟩, 29), (⟨"DeputyTownModel", "figure", "(IIIII)I"⟩, 29), (⟨"DeputyTownModel", "noThing", "(I)Z"⟩, 29), (⟨"DeputyTownModel", "goodOf", "(I)I"⟩, 29), (⟨"DeputyTownModel", "goTo", "(I)V"⟩, 29), (⟨"DeputyTownModel", "beginHours", "()V"⟩, 29), (⟨"DeputyTownModel", "brokenIn", "(I)I"⟩, 29), (⟨"DeputyTownModel", "goHour", "(I)V"⟩, 29), (⟨"DeputyTownModel", "standsFor", "(II)I"⟩, 29), (⟨"DeputyTownModel", "isTired", "(II)Z"⟩, 29), (⟨"DeputyTownModel", "standsAhead", "(II)Z"⟩, 29)]
theorem lw_r2 : ∀ q ∈ lw_privs_2, lw_okq q := List.forall_mem_cons.mpr ⟨lw_p16, List.forall_mem_cons.mpr ⟨lw_p17, List.forall_mem_cons.mpr ⟨lw_p18, List.forall_mem_cons.mpr ⟨lw_p19, List.forall_mem_cons.mpr ⟨lw_p20, List.forall_mem_cons.mpr ⟨lw_p21, List.forall_mem_cons.mpr ⟨lw_p22, List.forall_mem_cons.mpr ⟨lw_p23, List.forall_mem_cons.mpr ⟨lw_p24, List.forall_mem_cons.mpr ⟨lw_p25, List.forall_mem_cons.mpr ⟨lw_p26, List.forall_mem_cons.mpr ⟨lw_p27, List.forall_mem_cons.mpr ⟨lw_p28, List.forall_mem_cons.mpr ⟨lw_p29, List.forall_mem_cons.mpr ⟨lw_p30, List.forall_mem_cons.mpr ⟨lw_p31, fun _ h => absurd h List.not_mem_nil⟩⟩⟩⟩⟩⟩⟩⟩⟩⟩⟩⟩⟩⟩⟩⟩
theorem lw_p32 : lw_okq (⟨"DeputyTownModel", "refusedFor", "(I)I"⟩, 29) := ⟨⟨by decide +kernel, by decide +kernel⟩, List.mem_of_getElem? (i := 616) (by decide +kernel), List.mem_of_getElem? (i := 824) (by decide +kernel), List.mem_of_getElem? (i := 825) (by decide +kernel)⟩
theorem lw_p33 : lw_okq (⟨"DeputyTownModel", "undoneNow", "()I"⟩, 29) := ⟨⟨by decide +kernel, by decide +kernel⟩, List.mem_of_getElem? (i := 616) (by decide +kernel), List.mem_of_getElem? (i := 828) (by decide +kernel), List.mem_of_getElem? (i := 829) (by decide +kernel)⟩
theorem lw_p34 : lw_okq (⟨"DeputyTownModel", "servesNow", "()I"⟩, 29) := ⟨⟨by decide +kernel, by decide +kernel⟩, List.mem_of_getElem? (i := 616) (by decide +kernel), List.mem_of_getElem? (i := 836) (by decide +kernel), List.mem_of_getElem? (i := 837) (by decide +kernel)⟩
theorem lw_p35 : lw_okq (⟨"DeputyTownModel", "frailest", "(I)I"⟩, 29) := ⟨⟨by decide +kernel, by decide +kernel⟩, List.mem_of_getElem? (i := 616) (by decide +kernel), List.mem_of_getElem? (i := 852) (by decide +kernel), List.mem_of_getElem? (i := 853) (by decide +kernel)⟩
theorem lw_p36 : lw_okq (⟨"DeputyTownModel", "all", "()I"⟩, 29) := ⟨⟨by decide +kernel, by decide +kernel⟩, List.mem_of_getElem? (i := 616) (by decide +kernel), List.mem_of_getElem? (i := 856) (by decide +kernel), List.mem_of_getElem? (i := 857) (by decide +kernel)⟩
theorem lw_p37 : lw_okq (⟨"DeputyTownModel", "undoneBy", "(I)I"⟩, 29) := ⟨⟨by decide +kernel, by decide +kernel⟩, List.mem_of_getElem? (i := 616) (by decide +kernel), List.mem_of_getElem? (i := 863) (by decide +kernel), List.mem_of_getElem? (i := 864) (by decide +kernel)⟩
theorem lw_p38 : lw_okq (⟨"DeputyTownModel", "goFirst", "(I)V"⟩, 29) := ⟨⟨by decide +kernel, by decide +kernel⟩, List.mem_of_getElem? (i := 616) (by decide +kernel), List.mem_of_getElem? (i := 867) (by decide +kernel), List.mem_of_getElem? (i := 868) (by decide +kernel)⟩
theorem lw_p39 : lw_okq (⟨"DeputyTownModel", "areSo", "(I)Z"⟩, 29) := ⟨⟨by decide +kernel, by decide +kernel⟩, List.mem_of_getElem? (i := 616) (by decide +kernel), List.mem_of_getElem? (i := 899) (by decide +kernel), List.mem_of_getElem? (i := 900) (by decide +kernel)⟩
theorem lw_p40 : lw_okq (⟨"DeputyTownModel", "noCell", "(II)I"⟩, 29) := ⟨⟨by decide +kernel, by decide +kernel⟩, List.mem_of_getElem? (i := 616) (by decide +kernel), List.mem_of_getElem? (i := 930) (by decide +kernel), List.mem_of_getElem? (i := 931) (by decide +kernel)⟩
theorem lw_p41 : lw_okq (⟨"DeputyTownModel", "faultedLong", "(I)J"⟩, 29) := ⟨⟨by decide +kernel, by decide +kernel⟩, List.mem_of_getElem? (i := 616) (by decide +kernel), List.mem_of_getElem? (i := 938) (by decide +kernel), List.mem_of_getElem? (i := 939) (by decide +kernel)⟩
theorem lw_p42 : lw_okq (⟨"DeputyTownModel", "traced", "(I)V"⟩, 29) := ⟨⟨by decide +kernel, by decide +kernel⟩, List.mem_of_getElem? (i := 616) (by decide +kernel), List.mem_of_getElem? (i := 950) (by decide +kernel), List.mem_of_getElem? (i := 951) (by decide +kernel)⟩
def lw_privs_3 : List (MethodName × Nat) := [(⟨"DeputyTownModel", "refusedFor", "(I)I"⟩, 29), (⟨"DeputyTownModel", "undoneNow", "()I"⟩, 29), (⟨"DeputyTownModel", "servesNow", "()I"⟩, 29), (⟨"DeputyTownModel", "frailest", "(I)I"⟩, 29), (⟨"DeputyTownModel", "all", "()I"⟩, 29), (⟨"DeputyTownModel", "undoneBy", "(I)I"⟩, 29), (⟨"DeputyTownModel", "goFirst", "(I)V"⟩, 29), (⟨"DeputyTownModel", "areSo", "(I)Z"⟩, 29), (⟨"DeputyTownModel", "noCell", "(II)I"⟩, 29), (⟨"DeputyTownModel", "faultedLong", "(I)J"⟩, 29), (⟨"DeputyTownModel", "traced", "(I)V"⟩, 29)]
theorem lw_r3 : ∀ q ∈ lw_privs_3, lw_okq q := List.forall_mem_cons.mpr ⟨lw_p32, List.forall_mem_cons.mpr ⟨lw_p33, List.forall_mem_cons.mpr ⟨lw_p34, List.forall_mem_cons.mpr ⟨lw_p35, List.forall_mem_cons.mpr ⟨lw_p36, List.forall_mem_cons.mpr ⟨lw_p37, List.forall_mem_cons.mpr ⟨lw_p38, List.forall_mem_cons.mpr ⟨lw_p39, List.forall_mem_cons.mpr ⟨lw_p40, List.forall_mem_cons.mpr ⟨lw_p41, List.forall_mem_cons.mpr ⟨lw_p42, fun _ h => absurd h List.not_mem_nil⟩⟩⟩⟩⟩⟩⟩⟩⟩⟩⟩
def lw_privs : List (MethodName × Nat) := lw_privs_1 ++ (lw_privs_2 ++ (lw_privs_3))
def lw_tbl : List Cond := k2_sels lw_privs ++ tables_1
theorem lw_privs_ok : ∀ q ∈ lw_privs, lw_okq q := by
  show ∀ q ∈ lw_privs_1 ++ (lw_privs_2 ++ (lw_privs_3)), lw_okq q
  exact List.forall_mem_append.mpr ⟨lw_r1, List.forall_mem_append.mpr ⟨lw_r2, lw_r3⟩⟩
def RX0 : String := "DeputyTown$Bodies"
def TX0 : u_T := fun k => match k with
  | _ => ("DeputyTown$Bodies", "left", "I", false)
def tyX0 : Nat → FieldType := fun k => match k with
  | _ => .int
abbrev wsX00 : List Cond := u_ws RX0 TX0 1
theorem nmX0 : ∀ a, a < 1 → ∀ b, b < 1 → a ≠ b → (TX0 a).2.1 ≠ (TX0 b).2.1 := by decide +kernel
theorem tyX0_ok : ∀ k, k < 1 → parseFieldDescriptor (TX0 k).2.2.1 = some (tyX0 k) := by decide +kernel
abbrev cX0_init : ByteArray := prog_2_method_1_code
def yX0_init : MethodName := ⟨RX0, "<init>", "()V"⟩
abbrev cX0_telling : ByteArray := prog_2_method_2_code
def yX0_telling : MethodName := ⟨RX0, "telling", "(LDeputyTown$Thing;)I"⟩
abbrev cX0_ringing : ByteArray := prog_2_method_3_code
def yX0_ringing : MethodName := ⟨RX0, "ringing", "(LDeputyTown$Thing;)I"⟩
abbrev cX0_thingTells : ByteArray := prog_2_method_4_code
def yX0_thingTells : MethodName := ⟨RX0, "thingTells", "(LDeputyTown$Thing;)I"⟩
abbrev cX0_swornTells : ByteArray := prog_2_method_5_code
def yX0_swornTells : MethodName := ⟨RX0, "swornTells", "(LDeputyTown$Thing;)I"⟩
abbrev cX0_mayorTells : ByteArray := prog_2_method_6_code
def yX0_mayorTells : MethodName := ⟨RX0, "mayorTells", "(LDeputyTown$Thing;)I"⟩
abbrev cX0_lentRings : ByteArray := prog_2_method_7_code
def yX0_lentRings : MethodName := ⟨RX0, "lentRings", "(LDeputyTown$Thing;)I"⟩
abbrev cX0_mayorRings : ByteArray := prog_2_method_8_code
def yX0_mayorRings : MethodName := ⟨RX0, "mayorRings", "()I"⟩
abbrev cX0_leave : ByteArray := prog_2_method_9_code
def yX0_leave : MethodName := ⟨RX0, "leave", "(I)V"⟩
def RX1 : String := "DeputyTown$Breaks"
def TX1 : u_T := fun k => match k with
  | 0 => ("DeputyTown$Breaks", "who", "[I", true)
  | 1 => ("DeputyTown$Breaks", "from", "[I", true)
  | 2 => ("DeputyTown$Breaks", "to", "[I", true)
  | _ => ("DeputyTown$Breaks", "count", "I", false)
def tyX1 : Nat → FieldType := fun k => match k with
  | 0 => .array .int
  | 1 => .array .int
  | 2 => .array .int
  | _ => .int
abbrev wsX10 : List Cond := u_ws RX1 TX1 4
theorem nmX1 : ∀ a, a < 4 → ∀ b, b < 4 → a ≠ b → (TX1 a).2.1 ≠ (TX1 b).2.1 := by decide +kernel
theorem tyX1_ok : ∀ k, k < 4 → parseFieldDescriptor (TX1 k).2.2.1 = some (tyX1 k) := by decide +kernel
abbrev cX1_init : ByteArray := prog_3_method_1_code
def yX1_init : MethodName := ⟨RX1, "<init>", "()V"⟩
abbrev cX1_add : ByteArray := prog_3_method_2_code
def yX1_add : MethodName := ⟨RX1, "add", "(III)I"⟩
abbrev cX1_brokenIn : ByteArray := prog_3_method_3_code
def yX1_brokenIn : MethodName := ⟨RX1, "brokenIn", "(I)I"⟩
def RX2 : String := "DeputyTown$Readings"
def TX2 : u_T := fun k => match k with
  | 0 => ("DeputyTown$Readings", "uses", "[I", true)
  | 1 => ("DeputyTown$Readings", "servers", "[I", true)
  | _ => ("DeputyTown$Readings", "count", "I", false)
def tyX2 : Nat → FieldType := fun k => match k with
  | 0 => .array .int
  | 1 => .array .int
  | _ => .int
abbrev wsX20 : List Cond := u_ws RX2 TX2 3
theorem nmX2 : ∀ a, a < 3 → ∀ b, b < 3 → a ≠ b → (TX2 a).2.1 ≠ (TX2 b).2.1 := by decide +kernel
theorem tyX2_ok : ∀ k, k < 3 → parseFieldDescriptor (TX2 k).2.2.1 = some (tyX2 k) := by decide +kernel
abbrev cX2_init : ByteArray := prog_4_method_1_code
def yX2_init : MethodName := ⟨RX2, "<init>", "()V"⟩
abbrev cX2_add : ByteArray := prog_4_method_2_code
def yX2_add : MethodName := ⟨RX2, "add", "(II)I"⟩
abbrev cX2_areSo : ByteArray := prog_4_method_3_code
def yX2_areSo : MethodName := ⟨RX2, "areSo", "(LDeputyTown$Service;)Z"⟩
def RX3 : String := "DeputyTown$Service"
def TX3 : u_T := fun k => match k with
  | 0 => ("DeputyTown$Service", "folk", "LDeputyTown$Town;", true)
  | 1 => ("DeputyTown$Service", "servers", "[I", true)
  | 2 => ("DeputyTown$Service", "streaks", "[I", true)
  | _ => ("DeputyTown$Service", "standing", "I", false)
def tyX3 : Nat → FieldType := fun k => match k with
  | 0 => .object "DeputyTown$Town"
  | 1 => .array .int
  | 2 => .array .int
  | _ => .int
abbrev wsX30 : List Cond := u_ws RX3 TX3 4
theorem nmX3 : ∀ a, a < 4 → ∀ b, b < 4 → a ≠ b → (TX3 a).2.1 ≠ (TX3 b).2.1 := by decide +kernel
theorem tyX3_ok : ∀ k, k < 4 → parseFieldDescriptor (TX3 k).2.2.1 = some (tyX3 k) := by decide +kernel
abbrev cX3_init : ByteArray := prog_5_method_1_code
def yX3_init : MethodName := ⟨RX3, "<init>", "(LDeputyTown$Town;)V"⟩
abbrev cX3_workUpTo : ByteArray := prog_5_method_2_code
def yX3_workUpTo : MethodName := ⟨RX3, "workUpTo", "(ILDeputyTown$Breaks;)V"⟩
abbrev cX3_workHourZero : ByteArray := prog_5_method_3_code
def yX3_workHourZero : MethodName := ⟨RX3, "workHourZero", "(II)V"⟩
abbrev cX3_forget : ByteArray := prog_5_method_4_code
def yX3_forget : MethodName := ⟨RX3, "forget", "()V"⟩
abbrev cX3_workHour : ByteArray := prog_5_method_5_code
def yX3_workHour : MethodName := ⟨RX3, "workHour", "(II)V"⟩
abbrev cX3_standInFor : ByteArray := prog_5_method_6_code
def yX3_standInFor : MethodName := ⟨RX3, "standInFor", "(III)I"⟩
abbrev cX3_may : ByteArray := prog_5_method_7_code
def yX3_may : MethodName := ⟨RX3, "may", "(LDeputyTown$Thing;II)Z"⟩
abbrev cX3_isPreferred : ByteArray := prog_5_method_8_code
def yX3_isPreferred : MethodName := ⟨RX3, "isPreferred", "(LDeputyTown$Thing;LDeputyTown$Thing;I)Z"⟩
abbrev cX3_serverOf : ByteArray := prog_5_method_9_code
def yX3_serverOf : MethodName := ⟨RX3, "serverOf", "(I)I"⟩
abbrev cX3_undoneUses : ByteArray := prog_5_method_10_code
def yX3_undoneUses : MethodName := ⟨RX3, "undoneUses", "()I"⟩
abbrev cX3_points : ByteArray := prog_5_method_11_code
def yX3_points : MethodName := ⟨RX3, "points", "()I"⟩
def RX4 : String := "DeputyTown$Sheet"
def TX4 : u_T := fun k => match k with
  | 0 => ("DeputyTown$Sheet", "cells", "[I", true)
  | 1 => ("DeputyTown$Sheet", "has", "Z", false)
  | 2 => ("DeputyTown$Sheet", "lane", "I", false)
  | _ => ("DeputyTown$Sheet", "length", "I", false)
def tyX4 : Nat → FieldType := fun k => match k with
  | 0 => .array .int
  | 1 => .boolean
  | 2 => .int
  | _ => .int
abbrev wsX40 : List Cond := u_ws RX4 TX4 4
theorem nmX4 : ∀ a, a < 4 → ∀ b, b < 4 → a ≠ b → (TX4 a).2.1 ≠ (TX4 b).2.1 := by decide +kernel
theorem tyX4_ok : ∀ k, k < 4 → parseFieldDescriptor (TX4 k).2.2.1 = some (tyX4 k) := by decide +kernel
abbrev cX4_init : ByteArray := prog_6_method_1_code
def yX4_init : MethodName := ⟨RX4, "<init>", "()V"⟩
abbrev cX4_renew : ByteArray := prog_6_method_2_code
def yX4_renew : MethodName := ⟨RX4, "renew", "(II)V"⟩
abbrev cX4_rangeFault : ByteArray := prog_6_method_3_code
def yX4_rangeFault : MethodName := ⟨RX4, "rangeFault", "(III)I"⟩
abbrev cX4_isOver : ByteArray := prog_6_method_4_code
def yX4_isOver : MethodName := ⟨RX4, "isOver", "(II)Z"⟩
abbrev cX4_cellAt : ByteArray := prog_6_method_5_code
def yX4_cellAt : MethodName := ⟨RX4, "cellAt", "(I)I"⟩
abbrev cX4_setCell : ByteArray := prog_6_method_6_code
def yX4_setCell : MethodName := ⟨RX4, "setCell", "(II)V"⟩
abbrev cX4_cutToLane : ByteArray := prog_6_method_7_code
def yX4_cutToLane : MethodName := ⟨RX4, "cutToLane", "(I)I"⟩
def RX5 : String := "DeputyTown$Text"
def TX5 : u_T := fun k => match k with
  | _ => ("", "", "", false)
def tyX5 : Nat → FieldType := fun k => match k with
  | _ => .int
abbrev wsX50 : List Cond := u_ws RX5 TX5 0
theorem nmX5 : ∀ a, a < 0 → ∀ b, b < 0 → a ≠ b → (TX5 a).2.1 ≠ (TX5 b).2.1 := by decide +kernel
theorem tyX5_ok : ∀ k, k < 0 → parseFieldDescriptor (TX5 k).2.2.1 = some (tyX5 k) := by decide +kernel
abbrev cX5_thingsIn : ByteArray := prog_7_method_2_code
def yX5_thingsIn : MethodName := ⟨RX5, "thingsIn", "(I)I"⟩
abbrev cX5_placeOf : ByteArray := prog_7_method_3_code
def yX5_placeOf : MethodName := ⟨RX5, "placeOf", "(II)I"⟩
abbrev cX5_firstFault : ByteArray := prog_7_method_4_code
def yX5_firstFault : MethodName := ⟨RX5, "firstFault", "(LDeputyTown$Sheet;II)I"⟩
abbrev cX5_goesOn : ByteArray := prog_7_method_5_code
def yX5_goesOn : MethodName := ⟨RX5, "goesOn", "(II)Z"⟩
abbrev cX5_firstStranger : ByteArray := prog_7_method_6_code
def yX5_firstStranger : MethodName := ⟨RX5, "firstStranger", "(LDeputyTown$Sheet;II)I"⟩
abbrev cX5_kindBy : ByteArray := prog_7_method_7_code
def yX5_kindBy : MethodName := ⟨RX5, "kindBy", "(I)I"⟩
def RX6 : String := "DeputyTown$Thing"
def TX6 : u_T := fun k => match k with
  | 0 => ("DeputyTown$Thing", "number", "I", true)
  | 1 => ("DeputyTown$Thing", "kind", "I", false)
  | 2 => ("DeputyTown$Thing", "deputy", "I", false)
  | 3 => ("DeputyTown$Thing", "fit", "I", false)
  | 4 => ("DeputyTown$Thing", "lasts", "I", false)
  | _ => ("DeputyTown$Thing", "good", "I", false)
def tyX6 : Nat → FieldType := fun k => match k with
  | 0 => .int
  | 1 => .int
  | 2 => .int
  | 3 => .int
  | 4 => .int
  | _ => .int
abbrev wsX60 : List Cond := u_ws RX6 TX6 6
theorem nmX6 : ∀ a, a < 6 → ∀ b, b < 6 → a ≠ b → (TX6 a).2.1 ≠ (TX6 b).2.1 := by decide +kernel
theorem tyX6_ok : ∀ k, k < 6 → parseFieldDescriptor (TX6 k).2.2.1 = some (tyX6 k) := by decide +kernel
abbrev cX6_init : ByteArray := prog_8_method_1_code
def yX6_init : MethodName := ⟨RX6, "<init>", "(I)V"⟩
abbrev cX6_become : ByteArray := prog_8_method_2_code
def yX6_become : MethodName := ⟨RX6, "become", "(IIII)V"⟩
abbrev cX6_goodOf : ByteArray := prog_8_method_3_code
def yX6_goodOf : MethodName := ⟨RX6, "goodOf", "(II)I"⟩
def RX7 : String := "DeputyTown$Town"
def TX7 : u_T := fun k => match k with
  | 0 => ("DeputyTown$Town", "things", "[LDeputyTown$Thing;", true)
  | 1 => ("DeputyTown$Town", "count", "I", false)
  | _ => ("DeputyTown$Town", "law", "I", false)
def tyX7 : Nat → FieldType := fun k => match k with
  | 0 => .array (.object "DeputyTown$Thing")
  | 1 => .int
  | _ => .int
abbrev wsX70 : List Cond := u_ws RX7 TX7 3
theorem nmX7 : ∀ a, a < 3 → ∀ b, b < 3 → a ≠ b → (TX7 a).2.1 ≠ (TX7 b).2.1 := by decide +kernel
theorem tyX7_ok : ∀ k, k < 3 → parseFieldDescriptor (TX7 k).2.2.1 = some (tyX7 k) := by decide +kernel
abbrev cX7_init : ByteArray := prog_9_method_1_code
def yX7_init : MethodName := ⟨RX7, "<init>", "()V"⟩
abbrev cX7_settle : ByteArray := prog_9_method_2_code
def yX7_settle : MethodName := ⟨RX7, "settle", "(LDeputyTown$Sheet;II)V"⟩
abbrev cX7_thingAt : ByteArray := prog_9_method_3_code
def yX7_thingAt : MethodName := ⟨RX7, "thingAt", "(I)LDeputyTown$Thing;"⟩
abbrev cX7_sets : ByteArray := prog_9_method_4_code
def yX7_sets : MethodName := ⟨RX7, "sets", "()I"⟩
abbrev cX7_comesToItself : ByteArray := prog_9_method_5_code
def yX7_comesToItself : MethodName := ⟨RX7, "comesToItself", "(I)Z"⟩
def RX8 : String := "DeputyTown$Trials"
def TX8 : u_T := fun k => match k with
  | 0 => ("DeputyTown$Trials", "folk", "LDeputyTown$Town;", true)
  | 1 => ("DeputyTown$Trials", "service", "LDeputyTown$Service;", true)
  | 2 => ("DeputyTown$Trials", "frailSet", "I", false)
  | 3 => ("DeputyTown$Trials", "frailUndone", "I", false)
  | 4 => ("DeputyTown$Trials", "mendChange", "I", false)
  | 5 => ("DeputyTown$Trials", "mendUndone", "I", false)
  | 6 => ("DeputyTown$Trials", "failedCount", "I", false)
  | 7 => ("DeputyTown$Trials", "failedFewest", "I", false)
  | _ => ("DeputyTown$Trials", "failedCommon", "I", false)
def tyX8 : Nat → FieldType := fun k => match k with
  | 0 => .object "DeputyTown$Town"
  | 1 => .object "DeputyTown$Service"
  | 2 => .int
  | 3 => .int
  | 4 => .int
  | 5 => .int
  | 6 => .int
  | 7 => .int
  | _ => .int
abbrev wsX80 : List Cond := u_ws RX8 TX8 9
theorem nmX8 : ∀ a, a < 9 → ∀ b, b < 9 → a ≠ b → (TX8 a).2.1 ≠ (TX8 b).2.1 := by decide +kernel
theorem tyX8_ok : ∀ k, k < 9 → parseFieldDescriptor (TX8 k).2.2.1 = some (tyX8 k) := by decide +kernel
abbrev cX8_init : ByteArray := prog_10_method_1_code
def yX8_init : MethodName := ⟨RX8, "<init>", "(LDeputyTown$Town;LDeputyTown$Service;)V"⟩
abbrev cX8_seekFrail : ByteArray := prog_10_method_2_code
def yX8_seekFrail : MethodName := ⟨RX8, "seekFrail", "(I)V"⟩
abbrev cX8_plotOn : ByteArray := prog_10_method_3_code
def yX8_plotOn : MethodName := ⟨RX8, "plotOn", "(I)I"⟩
abbrev cX8_seekMend : ByteArray := prog_10_method_4_code
def yX8_seekMend : MethodName := ⟨RX8, "seekMend", "()V"⟩
abbrev cX8_keepMend : ByteArray := prog_10_method_5_code
def yX8_keepMend : MethodName := ⟨RX8, "keepMend", "(I)V"⟩
abbrev cX8_seekFailed : ByteArray := prog_10_method_6_code
def yX8_seekFailed : MethodName := ⟨RX8, "seekFailed", "(LDeputyTown$Readings;)V"⟩
abbrev cX8_setsThatServe : ByteArray := prog_10_method_7_code
def yX8_setsThatServe : MethodName := ⟨RX8, "setsThatServe", "(I)I"⟩
abbrev cX8_isFewer : ByteArray := prog_10_method_8_code
def yX8_isFewer : MethodName := ⟨RX8, "isFewer", "(II)Z"⟩
def RX9 : String := "DeputyTown"
def TX9 : u_T := fun k => match k with
  | 0 => ("DeputyTown", "sheets", "[LDeputyTown$Sheet;", true)
  | 1 => ("DeputyTown", "folk", "LDeputyTown$Town;", true)
  | 2 => ("DeputyTown", "breaks", "LDeputyTown$Breaks;", true)
  | 3 => ("DeputyTown", "readings", "LDeputyTown$Readings;", true)
  | 4 => ("DeputyTown", "service", "LDeputyTown$Service;", true)
  | 5 => ("DeputyTown", "trials", "LDeputyTown$Trials;", true)
  | 6 => ("DeputyTown", "bodies", "LDeputyTown$Bodies;", true)
  | _ => ("DeputyTown", "latestFault", "I", false)
def tyX9 : Nat → FieldType := fun k => match k with
  | 0 => .array (.object "DeputyTown$Sheet")
  | 1 => .object "DeputyTown$Town"
  | 2 => .object "DeputyTown$Breaks"
  | 3 => .object "DeputyTown$Readings"
  | 4 => .object "DeputyTown$Service"
  | 5 => .object "DeputyTown$Trials"
  | 6 => .object "DeputyTown$Bodies"
  | _ => .int
abbrev wsX90 : List Cond := u_ws RX9 TX9 8
theorem nmX9 : ∀ a, a < 8 → ∀ b, b < 8 → a ≠ b → (TX9 a).2.1 ≠ (TX9 b).2.1 := by decide +kernel
theorem tyX9_ok : ∀ k, k < 8 → parseFieldDescriptor (TX9 k).2.2.1 = some (tyX9 k) := by decide +kernel
abbrev cX9_init : ByteArray := prog_1_method_1_code
def yX9_init : MethodName := ⟨RX9, "<init>", "()V"⟩
abbrev cX9_town : ByteArray := prog_1_method_2_code
def yX9_town : MethodName := ⟨RX9, "town", "(IIII)I"⟩
abbrev cX9_ofThing : ByteArray := prog_1_method_3_code
def yX9_ofThing : MethodName := ⟨RX9, "ofThing", "(II)I"⟩
abbrev cX9_law : ByteArray := prog_1_method_4_code
def yX9_law : MethodName := ⟨RX9, "law", "(I)I"⟩
abbrev cX9_depute : ByteArray := prog_1_method_5_code
def yX9_depute : MethodName := ⟨RX9, "depute", "(II)I"⟩
abbrev cX9_smash : ByteArray := prog_1_method_6_code
def yX9_smash : MethodName := ⟨RX9, "smash", "(III)I"⟩
abbrev cX9_glue : ByteArray := prog_1_method_7_code
def yX9_glue : MethodName := ⟨RX9, "glue", "(I)I"⟩
abbrev cX9_by : ByteArray := prog_1_method_8_code
def yX9_by : MethodName := ⟨RX9, "by", "(II)I"⟩
abbrev cX9_undone : ByteArray := prog_1_method_9_code
def yX9_undone : MethodName := ⟨RX9, "undone", "(I)I"⟩
abbrev cX9_serves : ByteArray := prog_1_method_10_code
def yX9_serves : MethodName := ⟨RX9, "serves", "(I)I"⟩
abbrev cX9_ring : ByteArray := prog_1_method_11_code
def yX9_ring : MethodName := ⟨RX9, "ring", "()I"⟩
abbrev cX9_first : ByteArray := prog_1_method_12_code
def yX9_first : MethodName := ⟨RX9, "first", "(I)I"⟩
abbrev cX9_frail : ByteArray := prog_1_method_13_code
def yX9_frail : MethodName := ⟨RX9, "frail", "(II)I"⟩
abbrev cX9_plot : ByteArray := prog_1_method_14_code
def yX9_plot : MethodName := ⟨RX9, "plot", "(I)I"⟩
abbrev cX9_mend : ByteArray := prog_1_method_15_code
def yX9_mend : MethodName := ⟨RX9, "mend", "(I)I"⟩
abbrev cX9_wave : ByteArray := prog_1_method_16_code
def yX9_wave : MethodName := ⟨RX9, "wave", "(I)I"⟩
abbrev cX9_roster : ByteArray := prog_1_method_17_code
def yX9_roster : MethodName := ⟨RX9, "roster", "(IIII)I"⟩
abbrev cX9_reading : ByteArray := prog_1_method_18_code
def yX9_reading : MethodName := ⟨RX9, "reading", "(II)I"⟩
abbrev cX9_back : ByteArray := prog_1_method_19_code
def yX9_back : MethodName := ⟨RX9, "back", "(I)I"⟩
abbrev cX9_failed : ByteArray := prog_1_method_20_code
def yX9_failed : MethodName := ⟨RX9, "failed", "(I)I"⟩
abbrev cX9_laws : ByteArray := prog_1_method_21_code
def yX9_laws : MethodName := ⟨RX9, "laws", "()I"⟩
abbrev cX9_odds : ByteArray := prog_1_method_22_code
def yX9_odds : MethodName := ⟨RX9, "odds", "(II)J"⟩
abbrev cX9_sheet : ByteArray := prog_1_method_23_code
def yX9_sheet : MethodName := ⟨RX9, "sheet", "(III)I"⟩
abbrev cX9_lose : ByteArray := prog_1_method_24_code
def yX9_lose : MethodName := ⟨RX9, "lose", "(I)I"⟩
abbrev cX9_put : ByteArray := prog_1_method_25_code
def yX9_put : MethodName := ⟨RX9, "put", "(III)I"⟩
abbrev cX9_cell : ByteArray := prog_1_method_26_code
def yX9_cell : MethodName := ⟨RX9, "cell", "(III)J"⟩
abbrev cX9_copy : ByteArray := prog_1_method_27_code
def yX9_copy : MethodName := ⟨RX9, "copy", "(IIIII)I"⟩
abbrev cX9_tell : ByteArray := prog_1_method_28_code
def yX9_tell : MethodName := ⟨RX9, "tell", "(I)I"⟩
abbrev cX9_call : ByteArray := prog_1_method_29_code
def yX9_call : MethodName := ⟨RX9, "call", "(I)I"⟩
abbrev cX9_as : ByteArray := prog_1_method_30_code
def yX9_as : MethodName := ⟨RX9, "as", "(II)I"⟩
abbrev cX9_trace : ByteArray := prog_1_method_31_code
def yX9_trace : MethodName := ⟨RX9, "trace", "()I"⟩
abbrev cX9_fault : ByteArray := prog_1_method_32_code
def yX9_fault : MethodName := ⟨RX9, "fault", "()I"⟩
abbrev cX9_many : ByteArray := prog_1_method_33_code
def yX9_many : MethodName := ⟨RX9, "many", "(I)I"⟩
abbrev cX9_sheetAt : ByteArray := prog_1_method_34_code
def yX9_sheetAt : MethodName := ⟨RX9, "sheetAt", "(I)LDeputyTown$Sheet;"⟩
abbrev cX9_refusalOf : ByteArray := prog_1_method_35_code
def yX9_refusalOf : MethodName := ⟨RX9, "refusalOf", "(II)I"⟩
abbrev cX9_cameTo : ByteArray := prog_1_method_36_code
def yX9_cameTo : MethodName := ⟨RX9, "cameTo", "(I)I"⟩
abbrev cX9_namesThings : ByteArray := prog_1_method_37_code
def yX9_namesThings : MethodName := ⟨RX9, "namesThings", "(LDeputyTown$Sheet;I)Z"⟩
abbrev cX9_firstUnlike : ByteArray := prog_1_method_38_code
def yX9_firstUnlike : MethodName := ⟨RX9, "firstUnlike", "(LDeputyTown$Sheet;I)I"⟩
abbrev cX9_isBeyond : ByteArray := prog_1_method_39_code
def yX9_isBeyond : MethodName := ⟨RX9, "isBeyond", "(II)Z"⟩
abbrev cX9_leastOf : ByteArray := prog_1_method_40_code
def yX9_leastOf : MethodName := ⟨RX9, "leastOf", "(I)I"⟩
def RX10 : String := "DeputyTownModel"
def TX10 : u_T := fun k => match k with
  | 0 => ("DeputyTownModel", "fault", "I", false)
  | 1 => ("DeputyTownModel", "things", "I", false)
  | 2 => ("DeputyTownModel", "kindOf", "[I", true)
  | 3 => ("DeputyTownModel", "deputyOf", "[I", true)
  | 4 => ("DeputyTownModel", "fitOf", "[I", true)
  | 5 => ("DeputyTownModel", "lastsOf", "[I", true)
  | 6 => ("DeputyTownModel", "lawNow", "I", false)
  | 7 => ("DeputyTownModel", "readAt", "I", false)
  | 8 => ("DeputyTownModel", "readThings", "I", false)
  | 9 => ("DeputyTownModel", "readKind", "[I", true)
  | 10 => ("DeputyTownModel", "readDeputy", "[I", true)
  | 11 => ("DeputyTownModel", "readFit", "[I", true)
  | 12 => ("DeputyTownModel", "readLasts", "[I", true)
  | 13 => ("DeputyTownModel", "breaks", "I", false)
  | 14 => ("DeputyTownModel", "breakOf", "[I", true)
  | 15 => ("DeputyTownModel", "breakFrom", "[I", true)
  | 16 => ("DeputyTownModel", "breakTo", "[I", true)
  | 17 => ("DeputyTownModel", "servedBy", "[I", true)
  | 18 => ("DeputyTownModel", "stoodIn", "[I", true)
  | 19 => ("DeputyTownModel", "stoodFor", "[I", true)
  | 20 => ("DeputyTownModel", "frailMany", "I", false)
  | 21 => ("DeputyTownModel", "readings", "I", false)
  | 22 => ("DeputyTownModel", "readingOf", "[I", true)
  | 23 => ("DeputyTownModel", "readingBy", "[I", true)
  | 24 => ("DeputyTownModel", "sheetSize", "[I", true)
  | 25 => ("DeputyTownModel", "sheetLane", "[I", true)
  | 26 => ("DeputyTownModel", "sheet", "[I", true)
  | 27 => ("DeputyTownModel", "hands", "[I", true)
  | _ => ("DeputyTownModel", "traceNow", "I", false)
def tyX10 : Nat → FieldType := fun k => match k with
  | 0 => .int
  | 1 => .int
  | 2 => .array .int
  | 3 => .array .int
  | 4 => .array .int
  | 5 => .array .int
  | 6 => .int
  | 7 => .int
  | 8 => .int
  | 9 => .array .int
  | 10 => .array .int
  | 11 => .array .int
  | 12 => .array .int
  | 13 => .int
  | 14 => .array .int
  | 15 => .array .int
  | 16 => .array .int
  | 17 => .array .int
  | 18 => .array .int
  | 19 => .array .int
  | 20 => .int
  | 21 => .int
  | 22 => .array .int
  | 23 => .array .int
  | 24 => .array .int
  | 25 => .array .int
  | 26 => .array .int
  | 27 => .array .int
  | _ => .int
abbrev wsX100 : List Cond := u_ws RX10 TX10 29
theorem nmX10 : ∀ a, a < 29 → ∀ b, b < 29 → a ≠ b → (TX10 a).2.1 ≠ (TX10 b).2.1 := by decide +kernel
theorem tyX10_ok : ∀ k, k < 29 → parseFieldDescriptor (TX10 k).2.2.1 = some (tyX10 k) := by decide +kernel
abbrev cX10_init : ByteArray := prog_12_method_1_code
def yX10_init : MethodName := ⟨RX10, "<init>", "()V"⟩
abbrev cX10_in : ByteArray := prog_12_method_2_code
def yX10_in : MethodName := ⟨RX10, "in", "(JJJ)Z"⟩
abbrev cX10_lost : ByteArray := prog_12_method_3_code
def yX10_lost : MethodName := ⟨RX10, "lost", "()J"⟩
abbrev cX10_isIn : ByteArray := prog_12_method_4_code
def yX10_isIn : MethodName := ⟨RX10, "isIn", "(II)Z"⟩
abbrev cX10_bits : ByteArray := prog_12_method_5_code
def yX10_bits : MethodName := ⟨RX10, "bits", "(I)I"⟩
abbrev cX10_told : ByteArray := prog_12_method_6_code
def yX10_told : MethodName := ⟨RX10, "told", "(JJI)J"⟩
abbrev cX10_refused : ByteArray := prog_12_method_7_code
def yX10_refused : MethodName := ⟨RX10, "refused", "(I)I"⟩
abbrev cX10_faulted : ByteArray := prog_12_method_8_code
def yX10_faulted : MethodName := ⟨RX10, "faulted", "(I)I"⟩
abbrev cX10_faultedLong : ByteArray := prog_12_method_9_code
def yX10_faultedLong : MethodName := ⟨RX10, "faultedLong", "(I)J"⟩
abbrev cX10_noThing : ByteArray := prog_12_method_10_code
def yX10_noThing : MethodName := ⟨RX10, "noThing", "(I)Z"⟩
abbrev cX10_isHour : ByteArray := prog_12_method_11_code
def yX10_isHour : MethodName := ⟨RX10, "isHour", "(I)Z"⟩
abbrev cX10_all : ByteArray := prog_12_method_12_code
def yX10_all : MethodName := ⟨RX10, "all", "()I"⟩
abbrev cX10_codeAt : ByteArray := prog_12_method_13_code
def yX10_codeAt : MethodName := ⟨RX10, "codeAt", "(II)I"⟩
abbrev cX10_figure : ByteArray := prog_12_method_14_code
def yX10_figure : MethodName := ⟨RX10, "figure", "(IIIII)I"⟩
abbrev cX10_readsThing : ByteArray := prog_12_method_15_code
def yX10_readsThing : MethodName := ⟨RX10, "readsThing", "(II)Z"⟩
abbrev cX10_readsTown : ByteArray := prog_12_method_16_code
def yX10_readsTown : MethodName := ⟨RX10, "readsTown", "(II)Z"⟩
abbrev cX10_cellsBarred : ByteArray := prog_12_method_17_code
def yX10_cellsBarred : MethodName := ⟨RX10, "cellsBarred", "(IIIJ)I"⟩
abbrev cX10_town : ByteArray := prog_12_method_18_code
def yX10_town : MethodName := ⟨RX10, "town", "(IIII)I"⟩
abbrev cX10_goodOf : ByteArray := prog_12_method_19_code
def yX10_goodOf : MethodName := ⟨RX10, "goodOf", "(I)I"⟩
abbrev cX10_ofThing : ByteArray := prog_12_method_20_code
def yX10_ofThing : MethodName := ⟨RX10, "ofThing", "(II)I"⟩
abbrev cX10_law : ByteArray := prog_12_method_21_code
def yX10_law : MethodName := ⟨RX10, "law", "(I)I"⟩
abbrev cX10_depute : ByteArray := prog_12_method_22_code
def yX10_depute : MethodName := ⟨RX10, "depute", "(II)I"⟩
abbrev cX10_smash : ByteArray := prog_12_method_23_code
def yX10_smash : MethodName := ⟨RX10, "smash", "(III)I"⟩
abbrev cX10_glue : ByteArray := prog_12_method_24_code
def yX10_glue : MethodName := ⟨RX10, "glue", "(I)I"⟩
abbrev cX10_brokenIn : ByteArray := prog_12_method_25_code
def yX10_brokenIn : MethodName := ⟨RX10, "brokenIn", "(I)I"⟩
abbrev cX10_beginHours : ByteArray := prog_12_method_26_code
def yX10_beginHours : MethodName := ⟨RX10, "beginHours", "()V"⟩
abbrev cX10_isTired : ByteArray := prog_12_method_27_code
def yX10_isTired : MethodName := ⟨RX10, "isTired", "(II)Z"⟩
abbrev cX10_standsAhead : ByteArray := prog_12_method_28_code
def yX10_standsAhead : MethodName := ⟨RX10, "standsAhead", "(II)Z"⟩
abbrev cX10_standsFor : ByteArray := prog_12_method_29_code
def yX10_standsFor : MethodName := ⟨RX10, "standsFor", "(II)I"⟩
abbrev cX10_goHour : ByteArray := prog_12_method_30_code
def yX10_goHour : MethodName := ⟨RX10, "goHour", "(I)V"⟩
abbrev cX10_goTo : ByteArray := prog_12_method_31_code
def yX10_goTo : MethodName := ⟨RX10, "goTo", "(I)V"⟩
abbrev cX10_goFirst : ByteArray := prog_12_method_32_code
def yX10_goFirst : MethodName := ⟨RX10, "goFirst", "(I)V"⟩
abbrev cX10_undoneNow : ByteArray := prog_12_method_33_code
def yX10_undoneNow : MethodName := ⟨RX10, "undoneNow", "()I"⟩
abbrev cX10_servesNow : ByteArray := prog_12_method_34_code
def yX10_servesNow : MethodName := ⟨RX10, "servesNow", "()I"⟩
abbrev cX10_by : ByteArray := prog_12_method_35_code
def yX10_by : MethodName := ⟨RX10, "by", "(II)I"⟩
abbrev cX10_refusedFor : ByteArray := prog_12_method_36_code
def yX10_refusedFor : MethodName := ⟨RX10, "refusedFor", "(I)I"⟩
abbrev cX10_undone : ByteArray := prog_12_method_37_code
def yX10_undone : MethodName := ⟨RX10, "undone", "(I)I"⟩
abbrev cX10_serves : ByteArray := prog_12_method_38_code
def yX10_serves : MethodName := ⟨RX10, "serves", "(I)I"⟩
abbrev cX10_ring : ByteArray := prog_12_method_39_code
def yX10_ring : MethodName := ⟨RX10, "ring", "()I"⟩
abbrev cX10_first : ByteArray := prog_12_method_40_code
def yX10_first : MethodName := ⟨RX10, "first", "(I)I"⟩
abbrev cX10_undoneBy : ByteArray := prog_12_method_41_code
def yX10_undoneBy : MethodName := ⟨RX10, "undoneBy", "(I)I"⟩
abbrev cX10_frailest : ByteArray := prog_12_method_42_code
def yX10_frailest : MethodName := ⟨RX10, "frailest", "(I)I"⟩
abbrev cX10_frail : ByteArray := prog_12_method_43_code
def yX10_frail : MethodName := ⟨RX10, "frail", "(II)I"⟩
abbrev cX10_plot : ByteArray := prog_12_method_44_code
def yX10_plot : MethodName := ⟨RX10, "plot", "(I)I"⟩
abbrev cX10_mend : ByteArray := prog_12_method_45_code
def yX10_mend : MethodName := ⟨RX10, "mend", "(I)I"⟩
abbrev cX10_wave : ByteArray := prog_12_method_46_code
def yX10_wave : MethodName := ⟨RX10, "wave", "(I)I"⟩
abbrev cX10_roster : ByteArray := prog_12_method_47_code
def yX10_roster : MethodName := ⟨RX10, "roster", "(IIII)I"⟩
abbrev cX10_reading : ByteArray := prog_12_method_48_code
def yX10_reading : MethodName := ⟨RX10, "reading", "(II)I"⟩
abbrev cX10_back : ByteArray := prog_12_method_49_code
def yX10_back : MethodName := ⟨RX10, "back", "(I)I"⟩
abbrev cX10_areSo : ByteArray := prog_12_method_50_code
def yX10_areSo : MethodName := ⟨RX10, "areSo", "(I)Z"⟩
abbrev cX10_failed : ByteArray := prog_12_method_51_code
def yX10_failed : MethodName := ⟨RX10, "failed", "(I)I"⟩
abbrev cX10_laws : ByteArray := prog_12_method_52_code
def yX10_laws : MethodName := ⟨RX10, "laws", "()I"⟩
abbrev cX10_odds : ByteArray := prog_12_method_53_code
def yX10_odds : MethodName := ⟨RX10, "odds", "(II)J"⟩
abbrev cX10_noSheet : ByteArray := prog_12_method_54_code
def yX10_noSheet : MethodName := ⟨RX10, "noSheet", "(I)Z"⟩
abbrev cX10_sheet : ByteArray := prog_12_method_55_code
def yX10_sheet : MethodName := ⟨RX10, "sheet", "(III)I"⟩
abbrev cX10_lose : ByteArray := prog_12_method_56_code
def yX10_lose : MethodName := ⟨RX10, "lose", "(I)I"⟩
abbrev cX10_noCell : ByteArray := prog_12_method_57_code
def yX10_noCell : MethodName := ⟨RX10, "noCell", "(II)I"⟩
abbrev cX10_put : ByteArray := prog_12_method_58_code
def yX10_put : MethodName := ⟨RX10, "put", "(III)I"⟩
abbrev cX10_cell : ByteArray := prog_12_method_59_code
def yX10_cell : MethodName := ⟨RX10, "cell", "(III)J"⟩
abbrev cX10_isBeyond : ByteArray := prog_12_method_60_code
def yX10_isBeyond : MethodName := ⟨RX10, "isBeyond", "(IJI)Z"⟩
abbrev cX10_copy : ByteArray := prog_12_method_61_code
def yX10_copy : MethodName := ⟨RX10, "copy", "(IIIII)I"⟩
abbrev cX10_traced : ByteArray := prog_12_method_62_code
def yX10_traced : MethodName := ⟨RX10, "traced", "(I)V"⟩
abbrev cX10_tell : ByteArray := prog_12_method_63_code
def yX10_tell : MethodName := ⟨RX10, "tell", "(I)I"⟩
abbrev cX10_call : ByteArray := prog_12_method_64_code
def yX10_call : MethodName := ⟨RX10, "call", "(I)I"⟩
abbrev cX10_as : ByteArray := prog_12_method_65_code
def yX10_as : MethodName := ⟨RX10, "as", "(II)I"⟩
abbrev cX10_trace : ByteArray := prog_12_method_66_code
def yX10_trace : MethodName := ⟨RX10, "trace", "()I"⟩
abbrev cX10_fault : ByteArray := prog_12_method_67_code
def yX10_fault : MethodName := ⟨RX10, "fault", "()I"⟩
abbrev cX10_many : ByteArray := prog_12_method_68_code
def yX10_many : MethodName := ⟨RX10, "many", "(I)I"⟩
def RJ6 : String := "java/lang/Integer"
abbrev cJ6_bitCount_0f7a4 : ByteArray := prog_13_method_49_code
def yJ6_bitCount_0f7a4 : MethodName := ⟨RJ6, "bitCount", "(I)I"⟩
def RJ9 : String := "java/lang/Math"
abbrev cJ9_min_7cf53 : ByteArray := prog_14_method_69_code
def yJ9_min_7cf53 : MethodName := ⟨RJ9, "min", "(II)I"⟩
def RJ10 : String := "java/lang/System"
def RJ7 : String := "java/util/Arrays"
abbrev cJ7_fill_53178 : ByteArray := prog_16_method_103_code
def yJ7_fill_53178 : MethodName := ⟨RJ7, "fill", "([II)V"⟩
def RL : String := "DeputyTownLaw"
abbrev cL_law : ByteArray := code
abbrev vwCl : List vw_C := [(RX0, TX0, 1), (RX1, TX1, 4), (RX2, TX2, 3), (RX3, TX3, 4), (RX4, TX4, 4), (RX6, TX6, 6), (RX7, TX7, 3), (RX8, TX8, 9), (RX9, TX9, 8), (RX10, TX10, 29)]
end
section
set_option maxRecDepth 20000 in
theorem dX0_init_0 : decode cX0_init 0 = .ok (.aload_n 0, 1) := by decide +kernel
set_option maxRecDepth 20000 in
theorem dX0_init_1 : decode cX0_init 1 = .ok (.invokespecial 3, 3) := by decide +kernel
set_option maxRecDepth 20000 in
theorem dX0_init_4 : decode cX0_init 4 = .ok (.aload_n 0, 1) := by decide +kernel
set_option maxRecDepth 20000 in
theorem dX0_init_5 : decode cX0_init 5 = .ok (.iconst 0, 1) := by decide +kernel
set_option maxRecDepth 20000 in
theorem dX0_init_6 : decode cX0_init 6 = .ok (.putfield 9, 3) := by decide +kernel
set_option maxRecDepth 20000 in
theorem dX0_init_9 : decode cX0_init 9 = .ok (.return_, 1) := by decide +kernel
set_option maxRecDepth 20000 in
theorem dX0_telling_0 : decode cX0_telling 0 = .ok (.aload_n 1, 1) := by decide +kernel
set_option maxRecDepth 20000 in
theorem dX0_telling_1 : decode cX0_telling 1 = .ok (.getfield 15, 3) := by decide +kernel
set_option maxRecDepth 20000 in
theorem dX0_telling_4 : decode cX0_telling 4 = .ok (.lookupswitch 40 #[(1, 34), (2, 28)], 28) := by decide +kernel
set_option maxRecDepth 20000 in
theorem dX0_telling_32 : decode cX0_telling 32 = .ok (.aload_n 0, 1) := by decide +kernel
set_option maxRecDepth 20000 in
theorem dX0_telling_33 : decode cX0_telling 33 = .ok (.aload_n 1, 1) := by decide +kernel
set_option maxRecDepth 20000 in
theorem dX0_telling_34 : decode cX0_telling 34 = .ok (.invokevirtual 20, 3) := by decide +kernel
set_option maxRecDepth 20000 in
theorem dX0_telling_37 : decode cX0_telling 37 = .ok (.ireturn, 1) := by decide +kernel
set_option maxRecDepth 20000 in
theorem dX0_telling_38 : decode cX0_telling 38 = .ok (.aload_n 0, 1) := by decide +kernel
set_option maxRecDepth 20000 in
theorem dX0_telling_39 : decode cX0_telling 39 = .ok (.aload_n 1, 1) := by decide +kernel
set_option maxRecDepth 20000 in
theorem dX0_telling_40 : decode cX0_telling 40 = .ok (.invokevirtual 24, 3) := by decide +kernel
set_option maxRecDepth 20000 in
theorem dX0_telling_43 : decode cX0_telling 43 = .ok (.ireturn, 1) := by decide +kernel
set_option maxRecDepth 20000 in
theorem dX0_telling_44 : decode cX0_telling 44 = .ok (.aload_n 0, 1) := by decide +kernel
set_option maxRecDepth 20000 in
theorem dX0_telling_45 : decode cX0_telling 45 = .ok (.aload_n 1, 1) := by decide +kernel
set_option maxRecDepth 20000 in
theorem dX0_telling_46 : decode cX0_telling 46 = .ok (.invokevirtual 27, 3) := by decide +kernel
set_option maxRecDepth 20000 in
theorem dX0_telling_49 : decode cX0_telling 49 = .ok (.ireturn, 1) := by decide +kernel
set_option maxRecDepth 20000 in
theorem dX0_ringing_0 : decode cX0_ringing 0 = .ok (.aload_n 1, 1) := by decide +kernel
set_option maxRecDepth 20000 in
theorem dX0_ringing_1 : decode cX0_ringing 1 = .ok (.getfield 15, 3) := by decide +kernel
set_option maxRecDepth 20000 in
theorem dX0_ringing_4 : decode cX0_ringing 4 = .ok (.iconst 2, 1) := by decide +kernel
set_option maxRecDepth 20000 in
theorem dX0_ringing_5 : decode cX0_ringing 5 = .ok (.if_icmp .ne 10, 3) := by decide +kernel
set_option maxRecDepth 20000 in
theorem dX0_ringing_8 : decode cX0_ringing 8 = .ok (.aload_n 0, 1) := by decide +kernel
set_option maxRecDepth 20000 in
theorem dX0_ringing_9 : decode cX0_ringing 9 = .ok (.invokevirtual 30, 3) := by decide +kernel
set_option maxRecDepth 20000 in
theorem dX0_ringing_12 : decode cX0_ringing 12 = .ok (.goto 8, 3) := by decide +kernel
set_option maxRecDepth 20000 in
theorem dX0_ringing_15 : decode cX0_ringing 15 = .ok (.aload_n 0, 1) := by decide +kernel
set_option maxRecDepth 20000 in
theorem dX0_ringing_16 : decode cX0_ringing 16 = .ok (.aload_n 1, 1) := by decide +kernel
set_option maxRecDepth 20000 in
theorem dX0_ringing_17 : decode cX0_ringing 17 = .ok (.invokevirtual 34, 3) := by decide +kernel
set_option maxRecDepth 20000 in
theorem dX0_ringing_20 : decode cX0_ringing 20 = .ok (.ireturn, 1) := by decide +kernel
set_option maxRecDepth 20000 in
theorem dX0_thingTells_0 : decode cX0_thingTells 0 = .ok (.aload_n 0, 1) := by decide +kernel
set_option maxRecDepth 20000 in
theorem dX0_thingTells_1 : decode cX0_thingTells 1 = .ok (.iconst 1, 1) := by decide +kernel
set_option maxRecDepth 20000 in
theorem dX0_thingTells_2 : decode cX0_thingTells 2 = .ok (.invokevirtual 37, 3) := by decide +kernel
set_option maxRecDepth 20000 in
theorem dX0_thingTells_5 : decode cX0_thingTells 5 = .ok (.aload_n 1, 1) := by decide +kernel
set_option maxRecDepth 20000 in
theorem dX0_thingTells_6 : decode cX0_thingTells 6 = .ok (.getfield 41, 3) := by decide +kernel
set_option maxRecDepth 20000 in
theorem dX0_thingTells_9 : decode cX0_thingTells 9 = .ok (.ireturn, 1) := by decide +kernel
set_option maxRecDepth 20000 in
theorem dX0_swornTells_0 : decode cX0_swornTells 0 = .ok (.aload_n 0, 1) := by decide +kernel
set_option maxRecDepth 20000 in
theorem dX0_swornTells_1 : decode cX0_swornTells 1 = .ok (.iconst 2, 1) := by decide +kernel
set_option maxRecDepth 20000 in
theorem dX0_swornTells_2 : decode cX0_swornTells 2 = .ok (.invokevirtual 37, 3) := by decide +kernel
set_option maxRecDepth 20000 in
theorem dX0_swornTells_5 : decode cX0_swornTells 5 = .ok (.aload_n 0, 1) := by decide +kernel
set_option maxRecDepth 20000 in
theorem dX0_swornTells_6 : decode cX0_swornTells 6 = .ok (.aload_n 1, 1) := by decide +kernel
set_option maxRecDepth 20000 in
theorem dX0_swornTells_7 : decode cX0_swornTells 7 = .ok (.invokevirtual 27, 3) := by decide +kernel
set_option maxRecDepth 20000 in
theorem dX0_swornTells_10 : decode cX0_swornTells 10 = .ok (.bipush 100, 2) := by decide +kernel
set_option maxRecDepth 20000 in
theorem dX0_swornTells_12 : decode cX0_swornTells 12 = .ok (.iadd, 1) := by decide +kernel
set_option maxRecDepth 20000 in
theorem dX0_swornTells_13 : decode cX0_swornTells 13 = .ok (.ireturn, 1) := by decide +kernel
set_option maxRecDepth 20000 in
theorem dX0_mayorTells_0 : decode cX0_mayorTells 0 = .ok (.aload_n 0, 1) := by decide +kernel
set_option maxRecDepth 20000 in
theorem dX0_mayorTells_1 : decode cX0_mayorTells 1 = .ok (.iconst 3, 1) := by decide +kernel
set_option maxRecDepth 20000 in
theorem dX0_mayorTells_2 : decode cX0_mayorTells 2 = .ok (.invokevirtual 37, 3) := by decide +kernel
set_option maxRecDepth 20000 in
theorem dX0_mayorTells_5 : decode cX0_mayorTells 5 = .ok (.aload_n 0, 1) := by decide +kernel
set_option maxRecDepth 20000 in
theorem dX0_mayorTells_6 : decode cX0_mayorTells 6 = .ok (.aload_n 1, 1) := by decide +kernel
set_option maxRecDepth 20000 in
theorem dX0_mayorTells_7 : decode cX0_mayorTells 7 = .ok (.invokevirtual 24, 3) := by decide +kernel
set_option maxRecDepth 20000 in
theorem dX0_mayorTells_10 : decode cX0_mayorTells 10 = .ok (.istore_n 2, 1) := by decide +kernel
set_option maxRecDepth 20000 in
theorem dX0_mayorTells_11 : decode cX0_mayorTells 11 = .ok (.iload_n 2, 1) := by decide +kernel
set_option maxRecDepth 20000 in
theorem dX0_mayorTells_12 : decode cX0_mayorTells 12 = .ok (.aload_n 0, 1) := by decide +kernel
set_option maxRecDepth 20000 in
theorem dX0_mayorTells_13 : decode cX0_mayorTells 13 = .ok (.aload_n 1, 1) := by decide +kernel
set_option maxRecDepth 20000 in
theorem dX0_mayorTells_14 : decode cX0_mayorTells 14 = .ok (.invokevirtual 27, 3) := by decide +kernel
set_option maxRecDepth 20000 in
theorem dX0_mayorTells_17 : decode cX0_mayorTells 17 = .ok (.iadd, 1) := by decide +kernel
set_option maxRecDepth 20000 in
theorem dX0_mayorTells_18 : decode cX0_mayorTells 18 = .ok (.ireturn, 1) := by decide +kernel
set_option maxRecDepth 20000 in
theorem dX0_lentRings_0 : decode cX0_lentRings 0 = .ok (.aload_n 0, 1) := by decide +kernel
set_option maxRecDepth 20000 in
theorem dX0_lentRings_1 : decode cX0_lentRings 1 = .ok (.iconst 4, 1) := by decide +kernel
set_option maxRecDepth 20000 in
theorem dX0_lentRings_2 : decode cX0_lentRings 2 = .ok (.invokevirtual 37, 3) := by decide +kernel
set_option maxRecDepth 20000 in
theorem dX0_lentRings_5 : decode cX0_lentRings 5 = .ok (.aload_n 1, 1) := by decide +kernel
set_option maxRecDepth 20000 in
theorem dX0_lentRings_6 : decode cX0_lentRings 6 = .ok (.getfield 44, 3) := by decide +kernel
set_option maxRecDepth 20000 in
theorem dX0_lentRings_9 : decode cX0_lentRings 9 = .ok (.ireturn, 1) := by decide +kernel
set_option maxRecDepth 20000 in
theorem dX0_mayorRings_0 : decode cX0_mayorRings 0 = .ok (.aload_n 0, 1) := by decide +kernel
set_option maxRecDepth 20000 in
theorem dX0_mayorRings_1 : decode cX0_mayorRings 1 = .ok (.iconst 5, 1) := by decide +kernel
set_option maxRecDepth 20000 in
theorem dX0_mayorRings_2 : decode cX0_mayorRings 2 = .ok (.invokevirtual 37, 3) := by decide +kernel
set_option maxRecDepth 20000 in
theorem dX0_mayorRings_5 : decode cX0_mayorRings 5 = .ok (.bipush 20, 2) := by decide +kernel
set_option maxRecDepth 20000 in
theorem dX0_mayorRings_7 : decode cX0_mayorRings 7 = .ok (.ireturn, 1) := by decide +kernel
set_option maxRecDepth 20000 in
theorem dX0_leave_0 : decode cX0_leave 0 = .ok (.aload_n 0, 1) := by decide +kernel
set_option maxRecDepth 20000 in
theorem dX0_leave_1 : decode cX0_leave 1 = .ok (.bipush 31, 2) := by decide +kernel
set_option maxRecDepth 20000 in
theorem dX0_leave_3 : decode cX0_leave 3 = .ok (.aload_n 0, 1) := by decide +kernel
set_option maxRecDepth 20000 in
theorem dX0_leave_4 : decode cX0_leave 4 = .ok (.getfield 9, 3) := by decide +kernel
set_option maxRecDepth 20000 in
theorem dX0_leave_7 : decode cX0_leave 7 = .ok (.imul, 1) := by decide +kernel
set_option maxRecDepth 20000 in
theorem dX0_leave_8 : decode cX0_leave 8 = .ok (.iload_n 1, 1) := by decide +kernel
set_option maxRecDepth 20000 in
theorem dX0_leave_9 : decode cX0_leave 9 = .ok (.iadd, 1) := by decide +kernel
set_option maxRecDepth 20000 in
theorem dX0_leave_10 : decode cX0_leave 10 = .ok (.putfield 9, 3) := by decide +kernel
set_option maxRecDepth 20000 in
theorem dX0_leave_13 : decode cX0_leave 13 = .ok (.return_, 1) := by decide +kernel
set_option maxRecDepth 20000 in
theorem dX1_init_0 : decode cX1_init 0 = .ok (.aload_n 0, 1) := by decide +kernel
set_option maxRecDepth 20000 in
theorem dX1_init_1 : decode cX1_init 1 = .ok (.invokespecial 3, 3) := by decide +kernel
set_option maxRecDepth 20000 in
theorem dX1_init_4 : decode cX1_init 4 = .ok (.aload_n 0, 1) := by decide +kernel
set_option maxRecDepth 20000 in
theorem dX1_init_5 : decode cX1_init 5 = .ok (.bipush 8, 2) := by decide +kernel
set_option maxRecDepth 20000 in
theorem dX1_init_7 : decode cX1_init 7 = .ok (.newarray .int, 2) := by decide +kernel
set_option maxRecDepth 20000 in
theorem dX1_init_9 : decode cX1_init 9 = .ok (.putfield 9, 3) := by decide +kernel
set_option maxRecDepth 20000 in
theorem dX1_init_12 : decode cX1_init 12 = .ok (.aload_n 0, 1) := by decide +kernel
set_option maxRecDepth 20000 in
theorem dX1_init_13 : decode cX1_init 13 = .ok (.bipush 8, 2) := by decide +kernel
set_option maxRecDepth 20000 in
theorem dX1_init_15 : decode cX1_init 15 = .ok (.newarray .int, 2) := by decide +kernel
set_option maxRecDepth 20000 in
theorem dX1_init_17 : decode cX1_init 17 = .ok (.putfield 15, 3) := by decide +kernel
set_option maxRecDepth 20000 in
theorem dX1_init_20 : decode cX1_init 20 = .ok (.aload_n 0, 1) := by decide +kernel
set_option maxRecDepth 20000 in
theorem dX1_init_21 : decode cX1_init 21 = .ok (.bipush 8, 2) := by decide +kernel
set_option maxRecDepth 20000 in
theorem dX1_init_23 : decode cX1_init 23 = .ok (.newarray .int, 2) := by decide +kernel
set_option maxRecDepth 20000 in
theorem dX1_init_25 : decode cX1_init 25 = .ok (.putfield 18, 3) := by decide +kernel
set_option maxRecDepth 20000 in
theorem dX1_init_28 : decode cX1_init 28 = .ok (.aload_n 0, 1) := by decide +kernel
set_option maxRecDepth 20000 in
theorem dX1_init_29 : decode cX1_init 29 = .ok (.iconst 0, 1) := by decide +kernel
set_option maxRecDepth 20000 in
theorem dX1_init_30 : decode cX1_init 30 = .ok (.putfield 21, 3) := by decide +kernel
set_option maxRecDepth 20000 in
theorem dX1_init_33 : decode cX1_init 33 = .ok (.return_, 1) := by decide +kernel
set_option maxRecDepth 20000 in
theorem dX1_add_0 : decode cX1_add 0 = .ok (.aload_n 0, 1) := by decide +kernel
set_option maxRecDepth 20000 in
theorem dX1_add_1 : decode cX1_add 1 = .ok (.getfield 21, 3) := by decide +kernel
set_option maxRecDepth 20000 in
theorem dX1_add_4 : decode cX1_add 4 = .ok (.ifCond .lt 12, 3) := by decide +kernel
set_option maxRecDepth 20000 in
theorem dX1_add_7 : decode cX1_add 7 = .ok (.aload_n 0, 1) := by decide +kernel
set_option maxRecDepth 20000 in
theorem dX1_add_8 : decode cX1_add 8 = .ok (.getfield 21, 3) := by decide +kernel
set_option maxRecDepth 20000 in
theorem dX1_add_11 : decode cX1_add 11 = .ok (.bipush 8, 2) := by decide +kernel
set_option maxRecDepth 20000 in
theorem dX1_add_13 : decode cX1_add 13 = .ok (.if_icmp .lt 6, 3) := by decide +kernel
set_option maxRecDepth 20000 in
theorem dX1_add_16 : decode cX1_add 16 = .ok (.bipush (-4), 2) := by decide +kernel
set_option maxRecDepth 20000 in
theorem dX1_add_18 : decode cX1_add 18 = .ok (.ireturn, 1) := by decide +kernel
set_option maxRecDepth 20000 in
theorem dX1_add_19 : decode cX1_add 19 = .ok (.aload_n 0, 1) := by decide +kernel
set_option maxRecDepth 20000 in
theorem dX1_add_20 : decode cX1_add 20 = .ok (.getfield 9, 3) := by decide +kernel
set_option maxRecDepth 20000 in
theorem dX1_add_23 : decode cX1_add 23 = .ok (.aload_n 0, 1) := by decide +kernel
set_option maxRecDepth 20000 in
theorem dX1_add_24 : decode cX1_add 24 = .ok (.getfield 21, 3) := by decide +kernel
set_option maxRecDepth 20000 in
theorem dX1_add_27 : decode cX1_add 27 = .ok (.iload_n 1, 1) := by decide +kernel
set_option maxRecDepth 20000 in
theorem dX1_add_28 : decode cX1_add 28 = .ok (.iastore, 1) := by decide +kernel
set_option maxRecDepth 20000 in
theorem dX1_add_29 : decode cX1_add 29 = .ok (.aload_n 0, 1) := by decide +kernel
set_option maxRecDepth 20000 in
theorem dX1_add_30 : decode cX1_add 30 = .ok (.getfield 15, 3) := by decide +kernel
set_option maxRecDepth 20000 in
theorem dX1_add_33 : decode cX1_add 33 = .ok (.aload_n 0, 1) := by decide +kernel
set_option maxRecDepth 20000 in
theorem dX1_add_34 : decode cX1_add 34 = .ok (.getfield 21, 3) := by decide +kernel
set_option maxRecDepth 20000 in
theorem dX1_add_37 : decode cX1_add 37 = .ok (.iload_n 2, 1) := by decide +kernel
set_option maxRecDepth 20000 in
theorem dX1_add_38 : decode cX1_add 38 = .ok (.iastore, 1) := by decide +kernel
set_option maxRecDepth 20000 in
theorem dX1_add_39 : decode cX1_add 39 = .ok (.aload_n 0, 1) := by decide +kernel
set_option maxRecDepth 20000 in
theorem dX1_add_40 : decode cX1_add 40 = .ok (.getfield 18, 3) := by decide +kernel
set_option maxRecDepth 20000 in
theorem dX1_add_43 : decode cX1_add 43 = .ok (.aload_n 0, 1) := by decide +kernel
set_option maxRecDepth 20000 in
theorem dX1_add_44 : decode cX1_add 44 = .ok (.getfield 21, 3) := by decide +kernel
set_option maxRecDepth 20000 in
theorem dX1_add_47 : decode cX1_add 47 = .ok (.iload_n 3, 1) := by decide +kernel
set_option maxRecDepth 20000 in
theorem dX1_add_48 : decode cX1_add 48 = .ok (.iastore, 1) := by decide +kernel
set_option maxRecDepth 20000 in
theorem dX1_add_49 : decode cX1_add 49 = .ok (.aload_n 0, 1) := by decide +kernel
set_option maxRecDepth 20000 in
theorem dX1_add_50 : decode cX1_add 50 = .ok (.dup, 1) := by decide +kernel
set_option maxRecDepth 20000 in
theorem dX1_add_51 : decode cX1_add 51 = .ok (.getfield 21, 3) := by decide +kernel
set_option maxRecDepth 20000 in
theorem dX1_add_54 : decode cX1_add 54 = .ok (.iconst 1, 1) := by decide +kernel
set_option maxRecDepth 20000 in
theorem dX1_add_55 : decode cX1_add 55 = .ok (.iadd, 1) := by decide +kernel
set_option maxRecDepth 20000 in
theorem dX1_add_56 : decode cX1_add 56 = .ok (.putfield 21, 3) := by decide +kernel
set_option maxRecDepth 20000 in
theorem dX1_add_59 : decode cX1_add 59 = .ok (.aload_n 0, 1) := by decide +kernel
set_option maxRecDepth 20000 in
theorem dX1_add_60 : decode cX1_add 60 = .ok (.getfield 21, 3) := by decide +kernel
set_option maxRecDepth 20000 in
theorem dX1_add_63 : decode cX1_add 63 = .ok (.iconst 1, 1) := by decide +kernel
set_option maxRecDepth 20000 in
theorem dX1_add_64 : decode cX1_add 64 = .ok (.isub, 1) := by decide +kernel
set_option maxRecDepth 20000 in
theorem dX1_add_65 : decode cX1_add 65 = .ok (.ireturn, 1) := by decide +kernel
set_option maxRecDepth 20000 in
theorem dX1_brokenIn_0 : decode cX1_brokenIn 0 = .ok (.iconst 0, 1) := by decide +kernel
set_option maxRecDepth 20000 in
theorem dX1_brokenIn_1 : decode cX1_brokenIn 1 = .ok (.istore_n 2, 1) := by decide +kernel
set_option maxRecDepth 20000 in
theorem dX1_brokenIn_2 : decode cX1_brokenIn 2 = .ok (.iconst 0, 1) := by decide +kernel
set_option maxRecDepth 20000 in
theorem dX1_brokenIn_3 : decode cX1_brokenIn 3 = .ok (.istore_n 3, 1) := by decide +kernel
set_option maxRecDepth 20000 in
theorem dX1_brokenIn_4 : decode cX1_brokenIn 4 = .ok (.iload_n 3, 1) := by decide +kernel
set_option maxRecDepth 20000 in
theorem dX1_brokenIn_5 : decode cX1_brokenIn 5 = .ok (.aload_n 0, 1) := by decide +kernel
set_option maxRecDepth 20000 in
theorem dX1_brokenIn_6 : decode cX1_brokenIn 6 = .ok (.getfield 21, 3) := by decide +kernel
set_option maxRecDepth 20000 in
theorem dX1_brokenIn_9 : decode cX1_brokenIn 9 = .ok (.if_icmp .ge 46, 3) := by decide +kernel
set_option maxRecDepth 20000 in
theorem dX1_brokenIn_12 : decode cX1_brokenIn 12 = .ok (.iload_n 3, 1) := by decide +kernel
set_option maxRecDepth 20000 in
theorem dX1_brokenIn_13 : decode cX1_brokenIn 13 = .ok (.bipush 8, 2) := by decide +kernel
set_option maxRecDepth 20000 in
theorem dX1_brokenIn_15 : decode cX1_brokenIn 15 = .ok (.if_icmp .ge 40, 3) := by decide +kernel
set_option maxRecDepth 20000 in
theorem dX1_brokenIn_18 : decode cX1_brokenIn 18 = .ok (.aload_n 0, 1) := by decide +kernel
set_option maxRecDepth 20000 in
theorem dX1_brokenIn_19 : decode cX1_brokenIn 19 = .ok (.getfield 15, 3) := by decide +kernel
set_option maxRecDepth 20000 in
theorem dX1_brokenIn_22 : decode cX1_brokenIn 22 = .ok (.iload_n 3, 1) := by decide +kernel
set_option maxRecDepth 20000 in
theorem dX1_brokenIn_23 : decode cX1_brokenIn 23 = .ok (.iaload, 1) := by decide +kernel
set_option maxRecDepth 20000 in
theorem dX1_brokenIn_24 : decode cX1_brokenIn 24 = .ok (.iload_n 1, 1) := by decide +kernel
set_option maxRecDepth 20000 in
theorem dX1_brokenIn_25 : decode cX1_brokenIn 25 = .ok (.if_icmp .gt 24, 3) := by decide +kernel
set_option maxRecDepth 20000 in
theorem dX1_brokenIn_28 : decode cX1_brokenIn 28 = .ok (.iload_n 1, 1) := by decide +kernel
set_option maxRecDepth 20000 in
theorem dX1_brokenIn_29 : decode cX1_brokenIn 29 = .ok (.aload_n 0, 1) := by decide +kernel
set_option maxRecDepth 20000 in
theorem dX1_brokenIn_30 : decode cX1_brokenIn 30 = .ok (.getfield 18, 3) := by decide +kernel
set_option maxRecDepth 20000 in
theorem dX1_brokenIn_33 : decode cX1_brokenIn 33 = .ok (.iload_n 3, 1) := by decide +kernel
set_option maxRecDepth 20000 in
theorem dX1_brokenIn_34 : decode cX1_brokenIn 34 = .ok (.iaload, 1) := by decide +kernel
set_option maxRecDepth 20000 in
theorem dX1_brokenIn_35 : decode cX1_brokenIn 35 = .ok (.if_icmp .gt 14, 3) := by decide +kernel
set_option maxRecDepth 20000 in
theorem dX1_brokenIn_38 : decode cX1_brokenIn 38 = .ok (.iload_n 2, 1) := by decide +kernel
set_option maxRecDepth 20000 in
theorem dX1_brokenIn_39 : decode cX1_brokenIn 39 = .ok (.iconst 1, 1) := by decide +kernel
set_option maxRecDepth 20000 in
theorem dX1_brokenIn_40 : decode cX1_brokenIn 40 = .ok (.aload_n 0, 1) := by decide +kernel
set_option maxRecDepth 20000 in
theorem dX1_brokenIn_41 : decode cX1_brokenIn 41 = .ok (.getfield 9, 3) := by decide +kernel
set_option maxRecDepth 20000 in
theorem dX1_brokenIn_44 : decode cX1_brokenIn 44 = .ok (.iload_n 3, 1) := by decide +kernel
set_option maxRecDepth 20000 in
theorem dX1_brokenIn_45 : decode cX1_brokenIn 45 = .ok (.iaload, 1) := by decide +kernel
set_option maxRecDepth 20000 in
theorem dX1_brokenIn_46 : decode cX1_brokenIn 46 = .ok (.ishl, 1) := by decide +kernel
set_option maxRecDepth 20000 in
theorem dX1_brokenIn_47 : decode cX1_brokenIn 47 = .ok (.ior, 1) := by decide +kernel
set_option maxRecDepth 20000 in
theorem dX1_brokenIn_48 : decode cX1_brokenIn 48 = .ok (.istore_n 2, 1) := by decide +kernel
set_option maxRecDepth 20000 in
theorem dX1_brokenIn_49 : decode cX1_brokenIn 49 = .ok (.iinc 3 1, 3) := by decide +kernel
set_option maxRecDepth 20000 in
theorem dX1_brokenIn_52 : decode cX1_brokenIn 52 = .ok (.goto (-48), 3) := by decide +kernel
set_option maxRecDepth 20000 in
theorem dX1_brokenIn_55 : decode cX1_brokenIn 55 = .ok (.iload_n 2, 1) := by decide +kernel
set_option maxRecDepth 20000 in
theorem dX1_brokenIn_56 : decode cX1_brokenIn 56 = .ok (.ireturn, 1) := by decide +kernel
set_option maxRecDepth 20000 in
theorem dX2_init_0 : decode cX2_init 0 = .ok (.aload_n 0, 1) := by decide +kernel
set_option maxRecDepth 20000 in
theorem dX2_init_1 : decode cX2_init 1 = .ok (.invokespecial 3, 3) := by decide +kernel
set_option maxRecDepth 20000 in
theorem dX2_init_4 : decode cX2_init 4 = .ok (.aload_n 0, 1) := by decide +kernel
set_option maxRecDepth 20000 in
theorem dX2_init_5 : decode cX2_init 5 = .ok (.bipush 8, 2) := by decide +kernel
set_option maxRecDepth 20000 in
theorem dX2_init_7 : decode cX2_init 7 = .ok (.newarray .int, 2) := by decide +kernel
set_option maxRecDepth 20000 in
theorem dX2_init_9 : decode cX2_init 9 = .ok (.putfield 9, 3) := by decide +kernel
set_option maxRecDepth 20000 in
theorem dX2_init_12 : decode cX2_init 12 = .ok (.aload_n 0, 1) := by decide +kernel
set_option maxRecDepth 20000 in
theorem dX2_init_13 : decode cX2_init 13 = .ok (.bipush 8, 2) := by decide +kernel
set_option maxRecDepth 20000 in
theorem dX2_init_15 : decode cX2_init 15 = .ok (.newarray .int, 2) := by decide +kernel
set_option maxRecDepth 20000 in
theorem dX2_init_17 : decode cX2_init 17 = .ok (.putfield 15, 3) := by decide +kernel
set_option maxRecDepth 20000 in
theorem dX2_init_20 : decode cX2_init 20 = .ok (.aload_n 0, 1) := by decide +kernel
set_option maxRecDepth 20000 in
theorem dX2_init_21 : decode cX2_init 21 = .ok (.iconst 0, 1) := by decide +kernel
set_option maxRecDepth 20000 in
theorem dX2_init_22 : decode cX2_init 22 = .ok (.putfield 18, 3) := by decide +kernel
set_option maxRecDepth 20000 in
theorem dX2_init_25 : decode cX2_init 25 = .ok (.return_, 1) := by decide +kernel
set_option maxRecDepth 20000 in
theorem dX2_add_0 : decode cX2_add 0 = .ok (.aload_n 0, 1) := by decide +kernel
set_option maxRecDepth 20000 in
theorem dX2_add_1 : decode cX2_add 1 = .ok (.getfield 18, 3) := by decide +kernel
set_option maxRecDepth 20000 in
theorem dX2_add_4 : decode cX2_add 4 = .ok (.ifCond .lt 12, 3) := by decide +kernel
set_option maxRecDepth 20000 in
theorem dX2_add_7 : decode cX2_add 7 = .ok (.aload_n 0, 1) := by decide +kernel
set_option maxRecDepth 20000 in
theorem dX2_add_8 : decode cX2_add 8 = .ok (.getfield 18, 3) := by decide +kernel
set_option maxRecDepth 20000 in
theorem dX2_add_11 : decode cX2_add 11 = .ok (.bipush 8, 2) := by decide +kernel
set_option maxRecDepth 20000 in
theorem dX2_add_13 : decode cX2_add 13 = .ok (.if_icmp .lt 6, 3) := by decide +kernel
set_option maxRecDepth 20000 in
theorem dX2_add_16 : decode cX2_add 16 = .ok (.bipush (-4), 2) := by decide +kernel
set_option maxRecDepth 20000 in
theorem dX2_add_18 : decode cX2_add 18 = .ok (.ireturn, 1) := by decide +kernel
set_option maxRecDepth 20000 in
theorem dX2_add_19 : decode cX2_add 19 = .ok (.aload_n 0, 1) := by decide +kernel
set_option maxRecDepth 20000 in
theorem dX2_add_20 : decode cX2_add 20 = .ok (.getfield 9, 3) := by decide +kernel
set_option maxRecDepth 20000 in
theorem dX2_add_23 : decode cX2_add 23 = .ok (.aload_n 0, 1) := by decide +kernel
set_option maxRecDepth 20000 in
theorem dX2_add_24 : decode cX2_add 24 = .ok (.getfield 18, 3) := by decide +kernel
set_option maxRecDepth 20000 in
theorem dX2_add_27 : decode cX2_add 27 = .ok (.iload_n 1, 1) := by decide +kernel
set_option maxRecDepth 20000 in
theorem dX2_add_28 : decode cX2_add 28 = .ok (.iastore, 1) := by decide +kernel
set_option maxRecDepth 20000 in
theorem dX2_add_29 : decode cX2_add 29 = .ok (.aload_n 0, 1) := by decide +kernel
set_option maxRecDepth 20000 in
theorem dX2_add_30 : decode cX2_add 30 = .ok (.getfield 15, 3) := by decide +kernel
set_option maxRecDepth 20000 in
theorem dX2_add_33 : decode cX2_add 33 = .ok (.aload_n 0, 1) := by decide +kernel
set_option maxRecDepth 20000 in
theorem dX2_add_34 : decode cX2_add 34 = .ok (.getfield 18, 3) := by decide +kernel
set_option maxRecDepth 20000 in
theorem dX2_add_37 : decode cX2_add 37 = .ok (.iload_n 2, 1) := by decide +kernel
set_option maxRecDepth 20000 in
theorem dX2_add_38 : decode cX2_add 38 = .ok (.iastore, 1) := by decide +kernel
set_option maxRecDepth 20000 in
theorem dX2_add_39 : decode cX2_add 39 = .ok (.aload_n 0, 1) := by decide +kernel
set_option maxRecDepth 20000 in
theorem dX2_add_40 : decode cX2_add 40 = .ok (.dup, 1) := by decide +kernel
set_option maxRecDepth 20000 in
theorem dX2_add_41 : decode cX2_add 41 = .ok (.getfield 18, 3) := by decide +kernel
set_option maxRecDepth 20000 in
theorem dX2_add_44 : decode cX2_add 44 = .ok (.iconst 1, 1) := by decide +kernel
set_option maxRecDepth 20000 in
theorem dX2_add_45 : decode cX2_add 45 = .ok (.iadd, 1) := by decide +kernel
set_option maxRecDepth 20000 in
theorem dX2_add_46 : decode cX2_add 46 = .ok (.putfield 18, 3) := by decide +kernel
set_option maxRecDepth 20000 in
theorem dX2_add_49 : decode cX2_add 49 = .ok (.aload_n 0, 1) := by decide +kernel
set_option maxRecDepth 20000 in
theorem dX2_add_50 : decode cX2_add 50 = .ok (.getfield 18, 3) := by decide +kernel
set_option maxRecDepth 20000 in
theorem dX2_add_53 : decode cX2_add 53 = .ok (.iconst 1, 1) := by decide +kernel
set_option maxRecDepth 20000 in
theorem dX2_add_54 : decode cX2_add 54 = .ok (.isub, 1) := by decide +kernel
set_option maxRecDepth 20000 in
theorem dX2_add_55 : decode cX2_add 55 = .ok (.ireturn, 1) := by decide +kernel
set_option maxRecDepth 20000 in
theorem dX2_areSo_0 : decode cX2_areSo 0 = .ok (.iconst 0, 1) := by decide +kernel
set_option maxRecDepth 20000 in
theorem dX2_areSo_1 : decode cX2_areSo 1 = .ok (.istore_n 2, 1) := by decide +kernel
set_option maxRecDepth 20000 in
theorem dX2_areSo_2 : decode cX2_areSo 2 = .ok (.iload_n 2, 1) := by decide +kernel
set_option maxRecDepth 20000 in
theorem dX2_areSo_3 : decode cX2_areSo 3 = .ok (.aload_n 0, 1) := by decide +kernel
set_option maxRecDepth 20000 in
theorem dX2_areSo_4 : decode cX2_areSo 4 = .ok (.getfield 18, 3) := by decide +kernel
set_option maxRecDepth 20000 in
theorem dX2_areSo_7 : decode cX2_areSo 7 = .ok (.if_icmp .ge 36, 3) := by decide +kernel
set_option maxRecDepth 20000 in
theorem dX2_areSo_10 : decode cX2_areSo 10 = .ok (.iload_n 2, 1) := by decide +kernel
set_option maxRecDepth 20000 in
theorem dX2_areSo_11 : decode cX2_areSo 11 = .ok (.bipush 8, 2) := by decide +kernel
set_option maxRecDepth 20000 in
theorem dX2_areSo_13 : decode cX2_areSo 13 = .ok (.if_icmp .ge 30, 3) := by decide +kernel
set_option maxRecDepth 20000 in
theorem dX2_areSo_16 : decode cX2_areSo 16 = .ok (.aload_n 1, 1) := by decide +kernel
set_option maxRecDepth 20000 in
theorem dX2_areSo_17 : decode cX2_areSo 17 = .ok (.aload_n 0, 1) := by decide +kernel
set_option maxRecDepth 20000 in
theorem dX2_areSo_18 : decode cX2_areSo 18 = .ok (.getfield 9, 3) := by decide +kernel
set_option maxRecDepth 20000 in
theorem dX2_areSo_21 : decode cX2_areSo 21 = .ok (.iload_n 2, 1) := by decide +kernel
set_option maxRecDepth 20000 in
theorem dX2_areSo_22 : decode cX2_areSo 22 = .ok (.iaload, 1) := by decide +kernel
set_option maxRecDepth 20000 in
theorem dX2_areSo_23 : decode cX2_areSo 23 = .ok (.invokevirtual 22, 3) := by decide +kernel
set_option maxRecDepth 20000 in
theorem dX2_areSo_26 : decode cX2_areSo 26 = .ok (.aload_n 0, 1) := by decide +kernel
set_option maxRecDepth 20000 in
theorem dX2_areSo_27 : decode cX2_areSo 27 = .ok (.getfield 15, 3) := by decide +kernel
set_option maxRecDepth 20000 in
theorem dX2_areSo_30 : decode cX2_areSo 30 = .ok (.iload_n 2, 1) := by decide +kernel
set_option maxRecDepth 20000 in
theorem dX2_areSo_31 : decode cX2_areSo 31 = .ok (.iaload, 1) := by decide +kernel
set_option maxRecDepth 20000 in
theorem dX2_areSo_32 : decode cX2_areSo 32 = .ok (.if_icmp .eq 5, 3) := by decide +kernel
set_option maxRecDepth 20000 in
theorem dX2_areSo_35 : decode cX2_areSo 35 = .ok (.iconst 0, 1) := by decide +kernel
set_option maxRecDepth 20000 in
theorem dX2_areSo_36 : decode cX2_areSo 36 = .ok (.ireturn, 1) := by decide +kernel
set_option maxRecDepth 20000 in
theorem dX2_areSo_37 : decode cX2_areSo 37 = .ok (.iinc 2 1, 3) := by decide +kernel
set_option maxRecDepth 20000 in
theorem dX2_areSo_40 : decode cX2_areSo 40 = .ok (.goto (-38), 3) := by decide +kernel
set_option maxRecDepth 20000 in
theorem dX2_areSo_43 : decode cX2_areSo 43 = .ok (.iconst 1, 1) := by decide +kernel
set_option maxRecDepth 20000 in
theorem dX2_areSo_44 : decode cX2_areSo 44 = .ok (.ireturn, 1) := by decide +kernel
set_option maxRecDepth 20000 in
theorem dX3_init_0 : decode cX3_init 0 = .ok (.aload_n 0, 1) := by decide +kernel
set_option maxRecDepth 20000 in
theorem dX3_init_1 : decode cX3_init 1 = .ok (.invokespecial 3, 3) := by decide +kernel
set_option maxRecDepth 20000 in
theorem dX3_init_4 : decode cX3_init 4 = .ok (.aload_n 0, 1) := by decide +kernel
set_option maxRecDepth 20000 in
theorem dX3_init_5 : decode cX3_init 5 = .ok (.bipush 8, 2) := by decide +kernel
set_option maxRecDepth 20000 in
theorem dX3_init_7 : decode cX3_init 7 = .ok (.newarray .int, 2) := by decide +kernel
set_option maxRecDepth 20000 in
theorem dX3_init_9 : decode cX3_init 9 = .ok (.putfield 9, 3) := by decide +kernel
set_option maxRecDepth 20000 in
theorem dX3_init_12 : decode cX3_init 12 = .ok (.aload_n 0, 1) := by decide +kernel
set_option maxRecDepth 20000 in
theorem dX3_init_13 : decode cX3_init 13 = .ok (.bipush 8, 2) := by decide +kernel
set_option maxRecDepth 20000 in
theorem dX3_init_15 : decode cX3_init 15 = .ok (.newarray .int, 2) := by decide +kernel
set_option maxRecDepth 20000 in
theorem dX3_init_17 : decode cX3_init 17 = .ok (.putfield 15, 3) := by decide +kernel
set_option maxRecDepth 20000 in
theorem dX3_init_20 : decode cX3_init 20 = .ok (.aload_n 0, 1) := by decide +kernel
set_option maxRecDepth 20000 in
theorem dX3_init_21 : decode cX3_init 21 = .ok (.iconst 0, 1) := by decide +kernel
set_option maxRecDepth 20000 in
theorem dX3_init_22 : decode cX3_init 22 = .ok (.putfield 18, 3) := by decide +kernel
set_option maxRecDepth 20000 in
theorem dX3_init_25 : decode cX3_init 25 = .ok (.aload_n 0, 1) := by decide +kernel
set_option maxRecDepth 20000 in
theorem dX3_init_26 : decode cX3_init 26 = .ok (.aload_n 1, 1) := by decide +kernel
set_option maxRecDepth 20000 in
theorem dX3_init_27 : decode cX3_init 27 = .ok (.putfield 22, 3) := by decide +kernel
set_option maxRecDepth 20000 in
theorem dX3_init_30 : decode cX3_init 30 = .ok (.return_, 1) := by decide +kernel
set_option maxRecDepth 20000 in
theorem dX3_workUpTo_0 : decode cX3_workUpTo 0 = .ok (.aload_n 0, 1) := by decide +kernel
set_option maxRecDepth 20000 in
theorem dX3_workUpTo_1 : decode cX3_workUpTo 1 = .ok (.invokevirtual 26, 3) := by decide +kernel
set_option maxRecDepth 20000 in
theorem dX3_workUpTo_4 : decode cX3_workUpTo 4 = .ok (.iconst 0, 1) := by decide +kernel
set_option maxRecDepth 20000 in
theorem dX3_workUpTo_5 : decode cX3_workUpTo 5 = .ok (.istore_n 3, 1) := by decide +kernel
set_option maxRecDepth 20000 in
theorem dX3_workUpTo_6 : decode cX3_workUpTo 6 = .ok (.iload_n 3, 1) := by decide +kernel
set_option maxRecDepth 20000 in
theorem dX3_workUpTo_7 : decode cX3_workUpTo 7 = .ok (.iload_n 1, 1) := by decide +kernel
set_option maxRecDepth 20000 in
theorem dX3_workUpTo_8 : decode cX3_workUpTo 8 = .ok (.if_icmp .gt 31, 3) := by decide +kernel
set_option maxRecDepth 20000 in
theorem dX3_workUpTo_11 : decode cX3_workUpTo 11 = .ok (.iload_n 3, 1) := by decide +kernel
set_option maxRecDepth 20000 in
theorem dX3_workUpTo_12 : decode cX3_workUpTo 12 = .ok (.bipush 30, 2) := by decide +kernel
set_option maxRecDepth 20000 in
theorem dX3_workUpTo_14 : decode cX3_workUpTo 14 = .ok (.if_icmp .ge 25, 3) := by decide +kernel
set_option maxRecDepth 20000 in
theorem dX3_workUpTo_17 : decode cX3_workUpTo 17 = .ok (.aload_n 0, 1) := by decide +kernel
set_option maxRecDepth 20000 in
theorem dX3_workUpTo_18 : decode cX3_workUpTo 18 = .ok (.aload_n 0, 1) := by decide +kernel
set_option maxRecDepth 20000 in
theorem dX3_workUpTo_19 : decode cX3_workUpTo 19 = .ok (.getfield 22, 3) := by decide +kernel
set_option maxRecDepth 20000 in
theorem dX3_workUpTo_22 : decode cX3_workUpTo 22 = .ok (.getfield 29, 3) := by decide +kernel
set_option maxRecDepth 20000 in
theorem dX3_workUpTo_25 : decode cX3_workUpTo 25 = .ok (.aload_n 2, 1) := by decide +kernel
set_option maxRecDepth 20000 in
theorem dX3_workUpTo_26 : decode cX3_workUpTo 26 = .ok (.iload_n 3, 1) := by decide +kernel
set_option maxRecDepth 20000 in
theorem dX3_workUpTo_27 : decode cX3_workUpTo 27 = .ok (.invokevirtual 34, 3) := by decide +kernel
set_option maxRecDepth 20000 in
theorem dX3_workUpTo_30 : decode cX3_workUpTo 30 = .ok (.invokevirtual 40, 3) := by decide +kernel
set_option maxRecDepth 20000 in
theorem dX3_workUpTo_33 : decode cX3_workUpTo 33 = .ok (.iinc 3 1, 3) := by decide +kernel
set_option maxRecDepth 20000 in
theorem dX3_workUpTo_36 : decode cX3_workUpTo 36 = .ok (.goto (-30), 3) := by decide +kernel
set_option maxRecDepth 20000 in
theorem dX3_workUpTo_39 : decode cX3_workUpTo 39 = .ok (.return_, 1) := by decide +kernel
set_option maxRecDepth 20000 in
theorem dX3_workHourZero_0 : decode cX3_workHourZero 0 = .ok (.aload_n 0, 1) := by decide +kernel
set_option maxRecDepth 20000 in
theorem dX3_workHourZero_1 : decode cX3_workHourZero 1 = .ok (.invokevirtual 26, 3) := by decide +kernel
set_option maxRecDepth 20000 in
theorem dX3_workHourZero_4 : decode cX3_workHourZero 4 = .ok (.aload_n 0, 1) := by decide +kernel
set_option maxRecDepth 20000 in
theorem dX3_workHourZero_5 : decode cX3_workHourZero 5 = .ok (.iload_n 1, 1) := by decide +kernel
set_option maxRecDepth 20000 in
theorem dX3_workHourZero_6 : decode cX3_workHourZero 6 = .ok (.iload_n 2, 1) := by decide +kernel
set_option maxRecDepth 20000 in
theorem dX3_workHourZero_7 : decode cX3_workHourZero 7 = .ok (.invokevirtual 40, 3) := by decide +kernel
set_option maxRecDepth 20000 in
theorem dX3_workHourZero_10 : decode cX3_workHourZero 10 = .ok (.return_, 1) := by decide +kernel
set_option maxRecDepth 20000 in
theorem dX3_forget_0 : decode cX3_forget 0 = .ok (.aload_n 0, 1) := by decide +kernel
set_option maxRecDepth 20000 in
theorem dX3_forget_1 : decode cX3_forget 1 = .ok (.getfield 9, 3) := by decide +kernel
set_option maxRecDepth 20000 in
theorem dX3_forget_4 : decode cX3_forget 4 = .ok (.bipush (-9), 2) := by decide +kernel
set_option maxRecDepth 20000 in
theorem dX3_forget_6 : decode cX3_forget 6 = .ok (.invokestatic 44, 3) := by decide +kernel
set_option maxRecDepth 20000 in
theorem dX3_forget_9 : decode cX3_forget 9 = .ok (.aload_n 0, 1) := by decide +kernel
set_option maxRecDepth 20000 in
theorem dX3_forget_10 : decode cX3_forget 10 = .ok (.getfield 15, 3) := by decide +kernel
set_option maxRecDepth 20000 in
theorem dX3_forget_13 : decode cX3_forget 13 = .ok (.iconst 0, 1) := by decide +kernel
set_option maxRecDepth 20000 in
theorem dX3_forget_14 : decode cX3_forget 14 = .ok (.invokestatic 44, 3) := by decide +kernel
set_option maxRecDepth 20000 in
theorem dX3_forget_17 : decode cX3_forget 17 = .ok (.return_, 1) := by decide +kernel
set_option maxRecDepth 20000 in
theorem dX3_workHour_0 : decode cX3_workHour 0 = .ok (.aload_n 0, 1) := by decide +kernel
set_option maxRecDepth 20000 in
theorem dX3_workHour_1 : decode cX3_workHour 1 = .ok (.iconst 0, 1) := by decide +kernel
set_option maxRecDepth 20000 in
theorem dX3_workHour_2 : decode cX3_workHour 2 = .ok (.putfield 18, 3) := by decide +kernel
set_option maxRecDepth 20000 in
theorem dX3_workHour_5 : decode cX3_workHour 5 = .ok (.iconst 0, 1) := by decide +kernel
set_option maxRecDepth 20000 in
theorem dX3_workHour_6 : decode cX3_workHour 6 = .ok (.istore_n 3, 1) := by decide +kernel
set_option maxRecDepth 20000 in
theorem dX3_workHour_7 : decode cX3_workHour 7 = .ok (.iload_n 3, 1) := by decide +kernel
set_option maxRecDepth 20000 in
theorem dX3_workHour_8 : decode cX3_workHour 8 = .ok (.aload_n 0, 1) := by decide +kernel
set_option maxRecDepth 20000 in
theorem dX3_workHour_9 : decode cX3_workHour 9 = .ok (.getfield 22, 3) := by decide +kernel
set_option maxRecDepth 20000 in
theorem dX3_workHour_12 : decode cX3_workHour 12 = .ok (.getfield 50, 3) := by decide +kernel
set_option maxRecDepth 20000 in
theorem dX3_workHour_15 : decode cX3_workHour 15 = .ok (.if_icmp .ge 120, 3) := by decide +kernel
set_option maxRecDepth 20000 in
theorem dX3_workHour_18 : decode cX3_workHour 18 = .ok (.iload_n 3, 1) := by decide +kernel
set_option maxRecDepth 20000 in
theorem dX3_workHour_19 : decode cX3_workHour 19 = .ok (.bipush 8, 2) := by decide +kernel
set_option maxRecDepth 20000 in
theorem dX3_workHour_21 : decode cX3_workHour 21 = .ok (.if_icmp .ge 114, 3) := by decide +kernel
set_option maxRecDepth 20000 in
theorem dX3_workHour_24 : decode cX3_workHour 24 = .ok (.iload_n 2, 1) := by decide +kernel
set_option maxRecDepth 20000 in
theorem dX3_workHour_25 : decode cX3_workHour 25 = .ok (.iload_n 3, 1) := by decide +kernel
set_option maxRecDepth 20000 in
theorem dX3_workHour_26 : decode cX3_workHour 26 = .ok (.ishr, 1) := by decide +kernel
set_option maxRecDepth 20000 in
theorem dX3_workHour_27 : decode cX3_workHour 27 = .ok (.iconst 1, 1) := by decide +kernel
set_option maxRecDepth 20000 in
theorem dX3_workHour_28 : decode cX3_workHour 28 = .ok (.iand, 1) := by decide +kernel
set_option maxRecDepth 20000 in
theorem dX3_workHour_29 : decode cX3_workHour 29 = .ok (.ifCond .ne 7, 3) := by decide +kernel
set_option maxRecDepth 20000 in
theorem dX3_workHour_32 : decode cX3_workHour 32 = .ok (.iconst 1, 1) := by decide +kernel
set_option maxRecDepth 20000 in
theorem dX3_workHour_33 : decode cX3_workHour 33 = .ok (.goto 4, 3) := by decide +kernel
set_option maxRecDepth 20000 in
theorem dX3_workHour_36 : decode cX3_workHour 36 = .ok (.iconst 0, 1) := by decide +kernel
set_option maxRecDepth 20000 in
theorem dX3_workHour_37 : decode cX3_workHour 37 = .ok (.istore 4, 2) := by decide +kernel
set_option maxRecDepth 20000 in
theorem dX3_workHour_39 : decode cX3_workHour 39 = .ok (.iload 4, 2) := by decide +kernel
set_option maxRecDepth 20000 in
theorem dX3_workHour_41 : decode cX3_workHour 41 = .ok (.ifCond .eq 7, 3) := by decide +kernel
set_option maxRecDepth 20000 in
theorem dX3_workHour_44 : decode cX3_workHour 44 = .ok (.iload_n 3, 1) := by decide +kernel
set_option maxRecDepth 20000 in
theorem dX3_workHour_45 : decode cX3_workHour 45 = .ok (.goto 10, 3) := by decide +kernel
set_option maxRecDepth 20000 in
theorem dX3_workHour_48 : decode cX3_workHour 48 = .ok (.aload_n 0, 1) := by decide +kernel
set_option maxRecDepth 20000 in
theorem dX3_workHour_49 : decode cX3_workHour 49 = .ok (.iload_n 3, 1) := by decide +kernel
set_option maxRecDepth 20000 in
theorem dX3_workHour_50 : decode cX3_workHour 50 = .ok (.iload_n 1, 1) := by decide +kernel
set_option maxRecDepth 20000 in
theorem dX3_workHour_51 : decode cX3_workHour 51 = .ok (.iload_n 2, 1) := by decide +kernel
set_option maxRecDepth 20000 in
theorem dX3_workHour_52 : decode cX3_workHour 52 = .ok (.invokevirtual 53, 3) := by decide +kernel
set_option maxRecDepth 20000 in
theorem dX3_workHour_55 : decode cX3_workHour 55 = .ok (.istore 5, 2) := by decide +kernel
set_option maxRecDepth 20000 in
theorem dX3_workHour_57 : decode cX3_workHour 57 = .ok (.iload 4, 2) := by decide +kernel
set_option maxRecDepth 20000 in
theorem dX3_workHour_59 : decode cX3_workHour 59 = .ok (.ifCond .ne 10, 3) := by decide +kernel
set_option maxRecDepth 20000 in
theorem dX3_workHour_62 : decode cX3_workHour 62 = .ok (.iload 5, 2) := by decide +kernel
set_option maxRecDepth 20000 in
theorem dX3_workHour_64 : decode cX3_workHour 64 = .ok (.bipush (-9), 2) := by decide +kernel
set_option maxRecDepth 20000 in
theorem dX3_workHour_66 : decode cX3_workHour 66 = .ok (.if_icmp .ne 13, 3) := by decide +kernel
set_option maxRecDepth 20000 in
theorem dX3_workHour_69 : decode cX3_workHour 69 = .ok (.aload_n 0, 1) := by decide +kernel
set_option maxRecDepth 20000 in
theorem dX3_workHour_70 : decode cX3_workHour 70 = .ok (.getfield 15, 3) := by decide +kernel
set_option maxRecDepth 20000 in
theorem dX3_workHour_73 : decode cX3_workHour 73 = .ok (.iload_n 3, 1) := by decide +kernel
set_option maxRecDepth 20000 in
theorem dX3_workHour_74 : decode cX3_workHour 74 = .ok (.iconst 0, 1) := by decide +kernel
set_option maxRecDepth 20000 in
theorem dX3_workHour_75 : decode cX3_workHour 75 = .ok (.iastore, 1) := by decide +kernel
set_option maxRecDepth 20000 in
theorem dX3_workHour_76 : decode cX3_workHour 76 = .ok (.goto 45, 3) := by decide +kernel
set_option maxRecDepth 20000 in
theorem dX3_workHour_79 : decode cX3_workHour 79 = .ok (.aload_n 0, 1) := by decide +kernel
set_option maxRecDepth 20000 in
theorem dX3_workHour_80 : decode cX3_workHour 80 = .ok (.getfield 15, 3) := by decide +kernel
set_option maxRecDepth 20000 in
theorem dX3_workHour_83 : decode cX3_workHour 83 = .ok (.iload_n 3, 1) := by decide +kernel
set_option maxRecDepth 20000 in
theorem dX3_workHour_84 : decode cX3_workHour 84 = .ok (.iload 5, 2) := by decide +kernel
set_option maxRecDepth 20000 in
theorem dX3_workHour_86 : decode cX3_workHour 86 = .ok (.aload_n 0, 1) := by decide +kernel
set_option maxRecDepth 20000 in
theorem dX3_workHour_87 : decode cX3_workHour 87 = .ok (.getfield 9, 3) := by decide +kernel
set_option maxRecDepth 20000 in
theorem dX3_workHour_90 : decode cX3_workHour 90 = .ok (.iload_n 3, 1) := by decide +kernel
set_option maxRecDepth 20000 in
theorem dX3_workHour_91 : decode cX3_workHour 91 = .ok (.iaload, 1) := by decide +kernel
set_option maxRecDepth 20000 in
theorem dX3_workHour_92 : decode cX3_workHour 92 = .ok (.if_icmp .ne 14, 3) := by decide +kernel
set_option maxRecDepth 20000 in
theorem dX3_workHour_95 : decode cX3_workHour 95 = .ok (.aload_n 0, 1) := by decide +kernel
set_option maxRecDepth 20000 in
theorem dX3_workHour_96 : decode cX3_workHour 96 = .ok (.getfield 15, 3) := by decide +kernel
set_option maxRecDepth 20000 in
theorem dX3_workHour_99 : decode cX3_workHour 99 = .ok (.iload_n 3, 1) := by decide +kernel
set_option maxRecDepth 20000 in
theorem dX3_workHour_100 : decode cX3_workHour 100 = .ok (.iaload, 1) := by decide +kernel
set_option maxRecDepth 20000 in
theorem dX3_workHour_101 : decode cX3_workHour 101 = .ok (.iconst 1, 1) := by decide +kernel
set_option maxRecDepth 20000 in
theorem dX3_workHour_102 : decode cX3_workHour 102 = .ok (.iadd, 1) := by decide +kernel
set_option maxRecDepth 20000 in
theorem dX3_workHour_103 : decode cX3_workHour 103 = .ok (.goto 4, 3) := by decide +kernel
set_option maxRecDepth 20000 in
theorem dX3_workHour_106 : decode cX3_workHour 106 = .ok (.iconst 1, 1) := by decide +kernel
set_option maxRecDepth 20000 in
theorem dX3_workHour_107 : decode cX3_workHour 107 = .ok (.iastore, 1) := by decide +kernel
set_option maxRecDepth 20000 in
theorem dX3_workHour_108 : decode cX3_workHour 108 = .ok (.aload_n 0, 1) := by decide +kernel
set_option maxRecDepth 20000 in
theorem dX3_workHour_109 : decode cX3_workHour 109 = .ok (.dup, 1) := by decide +kernel
set_option maxRecDepth 20000 in
theorem dX3_workHour_110 : decode cX3_workHour 110 = .ok (.getfield 18, 3) := by decide +kernel
set_option maxRecDepth 20000 in
theorem dX3_workHour_113 : decode cX3_workHour 113 = .ok (.iconst 1, 1) := by decide +kernel
set_option maxRecDepth 20000 in
theorem dX3_workHour_114 : decode cX3_workHour 114 = .ok (.iload 5, 2) := by decide +kernel
set_option maxRecDepth 20000 in
theorem dX3_workHour_116 : decode cX3_workHour 116 = .ok (.ishl, 1) := by decide +kernel
set_option maxRecDepth 20000 in
theorem dX3_workHour_117 : decode cX3_workHour 117 = .ok (.ior, 1) := by decide +kernel
set_option maxRecDepth 20000 in
theorem dX3_workHour_118 : decode cX3_workHour 118 = .ok (.putfield 18, 3) := by decide +kernel
set_option maxRecDepth 20000 in
theorem dX3_workHour_121 : decode cX3_workHour 121 = .ok (.aload_n 0, 1) := by decide +kernel
set_option maxRecDepth 20000 in
theorem dX3_workHour_122 : decode cX3_workHour 122 = .ok (.getfield 9, 3) := by decide +kernel
set_option maxRecDepth 20000 in
theorem dX3_workHour_125 : decode cX3_workHour 125 = .ok (.iload_n 3, 1) := by decide +kernel
set_option maxRecDepth 20000 in
theorem dX3_workHour_126 : decode cX3_workHour 126 = .ok (.iload 5, 2) := by decide +kernel
set_option maxRecDepth 20000 in
theorem dX3_workHour_128 : decode cX3_workHour 128 = .ok (.iastore, 1) := by decide +kernel
set_option maxRecDepth 20000 in
theorem dX3_workHour_129 : decode cX3_workHour 129 = .ok (.iinc 3 1, 3) := by decide +kernel
set_option maxRecDepth 20000 in
theorem dX3_workHour_132 : decode cX3_workHour 132 = .ok (.goto (-125), 3) := by decide +kernel
set_option maxRecDepth 20000 in
theorem dX3_workHour_135 : decode cX3_workHour 135 = .ok (.return_, 1) := by decide +kernel
set_option maxRecDepth 20000 in
theorem dX3_standInFor_0 : decode cX3_standInFor 0 = .ok (.aconst_null, 1) := by decide +kernel
set_option maxRecDepth 20000 in
theorem dX3_standInFor_1 : decode cX3_standInFor 1 = .ok (.astore 4, 2) := by decide +kernel
set_option maxRecDepth 20000 in
theorem dX3_standInFor_3 : decode cX3_standInFor 3 = .ok (.aload_n 0, 1) := by decide +kernel
set_option maxRecDepth 20000 in
theorem dX3_standInFor_4 : decode cX3_standInFor 4 = .ok (.getfield 22, 3) := by decide +kernel
set_option maxRecDepth 20000 in
theorem dX3_standInFor_7 : decode cX3_standInFor 7 = .ok (.iload_n 1, 1) := by decide +kernel
set_option maxRecDepth 20000 in
theorem dX3_standInFor_8 : decode cX3_standInFor 8 = .ok (.invokevirtual 57, 3) := by decide +kernel
set_option maxRecDepth 20000 in
theorem dX3_standInFor_11 : decode cX3_standInFor 11 = .ok (.astore 5, 2) := by decide +kernel
set_option maxRecDepth 20000 in
theorem dX3_standInFor_13 : decode cX3_standInFor 13 = .ok (.iconst 1, 1) := by decide +kernel
set_option maxRecDepth 20000 in
theorem dX3_standInFor_14 : decode cX3_standInFor 14 = .ok (.iload_n 1, 1) := by decide +kernel
set_option maxRecDepth 20000 in
theorem dX3_standInFor_15 : decode cX3_standInFor 15 = .ok (.ishl, 1) := by decide +kernel
set_option maxRecDepth 20000 in
theorem dX3_standInFor_16 : decode cX3_standInFor 16 = .ok (.istore 6, 2) := by decide +kernel
set_option maxRecDepth 20000 in
theorem dX3_standInFor_18 : decode cX3_standInFor 18 = .ok (.iconst 0, 1) := by decide +kernel
set_option maxRecDepth 20000 in
theorem dX3_standInFor_19 : decode cX3_standInFor 19 = .ok (.istore 7, 2) := by decide +kernel
set_option maxRecDepth 20000 in
theorem dX3_standInFor_21 : decode cX3_standInFor 21 = .ok (.iload 7, 2) := by decide +kernel
set_option maxRecDepth 20000 in
theorem dX3_standInFor_23 : decode cX3_standInFor 23 = .ok (.bipush 8, 2) := by decide +kernel
set_option maxRecDepth 20000 in
theorem dX3_standInFor_25 : decode cX3_standInFor 25 = .ok (.if_icmp .ge 92, 3) := by decide +kernel
set_option maxRecDepth 20000 in
theorem dX3_standInFor_28 : decode cX3_standInFor 28 = .ok (.aload 5, 2) := by decide +kernel
set_option maxRecDepth 20000 in
theorem dX3_standInFor_30 : decode cX3_standInFor 30 = .ok (.ifnull 87, 3) := by decide +kernel
set_option maxRecDepth 20000 in
theorem dX3_standInFor_33 : decode cX3_standInFor 33 = .ok (.aload_n 0, 1) := by decide +kernel
set_option maxRecDepth 20000 in
theorem dX3_standInFor_34 : decode cX3_standInFor 34 = .ok (.getfield 22, 3) := by decide +kernel
set_option maxRecDepth 20000 in
theorem dX3_standInFor_37 : decode cX3_standInFor 37 = .ok (.aload 5, 2) := by decide +kernel
set_option maxRecDepth 20000 in
theorem dX3_standInFor_39 : decode cX3_standInFor 39 = .ok (.getfield 61, 3) := by decide +kernel
set_option maxRecDepth 20000 in
theorem dX3_standInFor_42 : decode cX3_standInFor 42 = .ok (.invokevirtual 57, 3) := by decide +kernel
set_option maxRecDepth 20000 in
theorem dX3_standInFor_45 : decode cX3_standInFor 45 = .ok (.astore 8, 2) := by decide +kernel
set_option maxRecDepth 20000 in
theorem dX3_standInFor_47 : decode cX3_standInFor 47 = .ok (.aload 8, 2) := by decide +kernel
set_option maxRecDepth 20000 in
theorem dX3_standInFor_49 : decode cX3_standInFor 49 = .ok (.ifnull 68, 3) := by decide +kernel
set_option maxRecDepth 20000 in
theorem dX3_standInFor_52 : decode cX3_standInFor 52 = .ok (.iload 6, 2) := by decide +kernel
set_option maxRecDepth 20000 in
theorem dX3_standInFor_54 : decode cX3_standInFor 54 = .ok (.aload 8, 2) := by decide +kernel
set_option maxRecDepth 20000 in
theorem dX3_standInFor_56 : decode cX3_standInFor 56 = .ok (.getfield 66, 3) := by decide +kernel
set_option maxRecDepth 20000 in
theorem dX3_standInFor_59 : decode cX3_standInFor 59 = .ok (.ishr, 1) := by decide +kernel
set_option maxRecDepth 20000 in
theorem dX3_standInFor_60 : decode cX3_standInFor 60 = .ok (.iconst 1, 1) := by decide +kernel
set_option maxRecDepth 20000 in
theorem dX3_standInFor_61 : decode cX3_standInFor 61 = .ok (.iand, 1) := by decide +kernel
set_option maxRecDepth 20000 in
theorem dX3_standInFor_62 : decode cX3_standInFor 62 = .ok (.ifCond .eq 6, 3) := by decide +kernel
set_option maxRecDepth 20000 in
theorem dX3_standInFor_65 : decode cX3_standInFor 65 = .ok (.goto 52, 3) := by decide +kernel
set_option maxRecDepth 20000 in
theorem dX3_standInFor_68 : decode cX3_standInFor 68 = .ok (.iload 6, 2) := by decide +kernel
set_option maxRecDepth 20000 in
theorem dX3_standInFor_70 : decode cX3_standInFor 70 = .ok (.iconst 1, 1) := by decide +kernel
set_option maxRecDepth 20000 in
theorem dX3_standInFor_71 : decode cX3_standInFor 71 = .ok (.aload 8, 2) := by decide +kernel
set_option maxRecDepth 20000 in
theorem dX3_standInFor_73 : decode cX3_standInFor 73 = .ok (.getfield 66, 3) := by decide +kernel
set_option maxRecDepth 20000 in
theorem dX3_standInFor_76 : decode cX3_standInFor 76 = .ok (.ishl, 1) := by decide +kernel
set_option maxRecDepth 20000 in
theorem dX3_standInFor_77 : decode cX3_standInFor 77 = .ok (.ior, 1) := by decide +kernel
set_option maxRecDepth 20000 in
theorem dX3_standInFor_78 : decode cX3_standInFor 78 = .ok (.istore 6, 2) := by decide +kernel
set_option maxRecDepth 20000 in
theorem dX3_standInFor_80 : decode cX3_standInFor 80 = .ok (.aload_n 0, 1) := by decide +kernel
set_option maxRecDepth 20000 in
theorem dX3_standInFor_81 : decode cX3_standInFor 81 = .ok (.aload 8, 2) := by decide +kernel
set_option maxRecDepth 20000 in
theorem dX3_standInFor_83 : decode cX3_standInFor 83 = .ok (.iload_n 1, 1) := by decide +kernel
set_option maxRecDepth 20000 in
theorem dX3_standInFor_84 : decode cX3_standInFor 84 = .ok (.iload_n 3, 1) := by decide +kernel
set_option maxRecDepth 20000 in
theorem dX3_standInFor_85 : decode cX3_standInFor 85 = .ok (.invokevirtual 69, 3) := by decide +kernel
set_option maxRecDepth 20000 in
theorem dX3_standInFor_88 : decode cX3_standInFor 88 = .ok (.ifCond .eq 19, 3) := by decide +kernel
set_option maxRecDepth 20000 in
theorem dX3_standInFor_91 : decode cX3_standInFor 91 = .ok (.aload_n 0, 1) := by decide +kernel
set_option maxRecDepth 20000 in
theorem dX3_standInFor_92 : decode cX3_standInFor 92 = .ok (.aload 8, 2) := by decide +kernel
set_option maxRecDepth 20000 in
theorem dX3_standInFor_94 : decode cX3_standInFor 94 = .ok (.aload 4, 2) := by decide +kernel
set_option maxRecDepth 20000 in
theorem dX3_standInFor_96 : decode cX3_standInFor 96 = .ok (.iload_n 2, 1) := by decide +kernel
set_option maxRecDepth 20000 in
theorem dX3_standInFor_97 : decode cX3_standInFor 97 = .ok (.invokevirtual 73, 3) := by decide +kernel
set_option maxRecDepth 20000 in
theorem dX3_standInFor_100 : decode cX3_standInFor 100 = .ok (.ifCond .eq 7, 3) := by decide +kernel
set_option maxRecDepth 20000 in
theorem dX3_standInFor_103 : decode cX3_standInFor 103 = .ok (.aload 8, 2) := by decide +kernel
set_option maxRecDepth 20000 in
theorem dX3_standInFor_105 : decode cX3_standInFor 105 = .ok (.astore 4, 2) := by decide +kernel
set_option maxRecDepth 20000 in
theorem dX3_standInFor_107 : decode cX3_standInFor 107 = .ok (.aload 8, 2) := by decide +kernel
set_option maxRecDepth 20000 in
theorem dX3_standInFor_109 : decode cX3_standInFor 109 = .ok (.astore 5, 2) := by decide +kernel
set_option maxRecDepth 20000 in
theorem dX3_standInFor_111 : decode cX3_standInFor 111 = .ok (.iinc 7 1, 3) := by decide +kernel
set_option maxRecDepth 20000 in
theorem dX3_standInFor_114 : decode cX3_standInFor 114 = .ok (.goto (-93), 3) := by decide +kernel
set_option maxRecDepth 20000 in
theorem dX3_standInFor_117 : decode cX3_standInFor 117 = .ok (.aload 4, 2) := by decide +kernel
set_option maxRecDepth 20000 in
theorem dX3_standInFor_119 : decode cX3_standInFor 119 = .ok (.ifnonnull 8, 3) := by decide +kernel
set_option maxRecDepth 20000 in
theorem dX3_standInFor_122 : decode cX3_standInFor 122 = .ok (.bipush (-9), 2) := by decide +kernel
set_option maxRecDepth 20000 in
theorem dX3_standInFor_124 : decode cX3_standInFor 124 = .ok (.goto 8, 3) := by decide +kernel
set_option maxRecDepth 20000 in
theorem dX3_standInFor_127 : decode cX3_standInFor 127 = .ok (.aload 4, 2) := by decide +kernel
set_option maxRecDepth 20000 in
theorem dX3_standInFor_129 : decode cX3_standInFor 129 = .ok (.getfield 66, 3) := by decide +kernel
set_option maxRecDepth 20000 in
theorem dX3_standInFor_132 : decode cX3_standInFor 132 = .ok (.ireturn, 1) := by decide +kernel
set_option maxRecDepth 20000 in
theorem dX3_may_0 : decode cX3_may 0 = .ok (.iload_n 3, 1) := by decide +kernel
set_option maxRecDepth 20000 in
theorem dX3_may_1 : decode cX3_may 1 = .ok (.aload_n 1, 1) := by decide +kernel
set_option maxRecDepth 20000 in
theorem dX3_may_2 : decode cX3_may 2 = .ok (.getfield 66, 3) := by decide +kernel
set_option maxRecDepth 20000 in
theorem dX3_may_5 : decode cX3_may 5 = .ok (.ishr, 1) := by decide +kernel
set_option maxRecDepth 20000 in
theorem dX3_may_6 : decode cX3_may 6 = .ok (.iconst 1, 1) := by decide +kernel
set_option maxRecDepth 20000 in
theorem dX3_may_7 : decode cX3_may 7 = .ok (.iand, 1) := by decide +kernel
set_option maxRecDepth 20000 in
theorem dX3_may_8 : decode cX3_may 8 = .ok (.ifCond .ne 13, 3) := by decide +kernel
set_option maxRecDepth 20000 in
theorem dX3_may_11 : decode cX3_may 11 = .ok (.iload_n 2, 1) := by decide +kernel
set_option maxRecDepth 20000 in
theorem dX3_may_12 : decode cX3_may 12 = .ok (.ifCond .lt 9, 3) := by decide +kernel
set_option maxRecDepth 20000 in
theorem dX3_may_15 : decode cX3_may 15 = .ok (.iload_n 2, 1) := by decide +kernel
set_option maxRecDepth 20000 in
theorem dX3_may_16 : decode cX3_may 16 = .ok (.bipush 8, 2) := by decide +kernel
set_option maxRecDepth 20000 in
theorem dX3_may_18 : decode cX3_may 18 = .ok (.if_icmp .lt 5, 3) := by decide +kernel
set_option maxRecDepth 20000 in
theorem dX3_may_21 : decode cX3_may 21 = .ok (.iconst 0, 1) := by decide +kernel
set_option maxRecDepth 20000 in
theorem dX3_may_22 : decode cX3_may 22 = .ok (.ireturn, 1) := by decide +kernel
set_option maxRecDepth 20000 in
theorem dX3_may_23 : decode cX3_may 23 = .ok (.aload_n 0, 1) := by decide +kernel
set_option maxRecDepth 20000 in
theorem dX3_may_24 : decode cX3_may 24 = .ok (.getfield 9, 3) := by decide +kernel
set_option maxRecDepth 20000 in
theorem dX3_may_27 : decode cX3_may 27 = .ok (.iload_n 2, 1) := by decide +kernel
set_option maxRecDepth 20000 in
theorem dX3_may_28 : decode cX3_may 28 = .ok (.iaload, 1) := by decide +kernel
set_option maxRecDepth 20000 in
theorem dX3_may_29 : decode cX3_may 29 = .ok (.aload_n 1, 1) := by decide +kernel
set_option maxRecDepth 20000 in
theorem dX3_may_30 : decode cX3_may 30 = .ok (.getfield 66, 3) := by decide +kernel
set_option maxRecDepth 20000 in
theorem dX3_may_33 : decode cX3_may 33 = .ok (.if_icmp .ne 20, 3) := by decide +kernel
set_option maxRecDepth 20000 in
theorem dX3_may_36 : decode cX3_may 36 = .ok (.aload_n 0, 1) := by decide +kernel
set_option maxRecDepth 20000 in
theorem dX3_may_37 : decode cX3_may 37 = .ok (.getfield 15, 3) := by decide +kernel
set_option maxRecDepth 20000 in
theorem dX3_may_40 : decode cX3_may 40 = .ok (.iload_n 2, 1) := by decide +kernel
set_option maxRecDepth 20000 in
theorem dX3_may_41 : decode cX3_may 41 = .ok (.iaload, 1) := by decide +kernel
set_option maxRecDepth 20000 in
theorem dX3_may_42 : decode cX3_may 42 = .ok (.aload_n 1, 1) := by decide +kernel
set_option maxRecDepth 20000 in
theorem dX3_may_43 : decode cX3_may 43 = .ok (.getfield 77, 3) := by decide +kernel
set_option maxRecDepth 20000 in
theorem dX3_may_46 : decode cX3_may 46 = .ok (.if_icmp .lt 7, 3) := by decide +kernel
set_option maxRecDepth 20000 in
theorem dX3_may_49 : decode cX3_may 49 = .ok (.iconst 1, 1) := by decide +kernel
set_option maxRecDepth 20000 in
theorem dX3_may_50 : decode cX3_may 50 = .ok (.goto 4, 3) := by decide +kernel
set_option maxRecDepth 20000 in
theorem dX3_may_53 : decode cX3_may 53 = .ok (.iconst 0, 1) := by decide +kernel
set_option maxRecDepth 20000 in
theorem dX3_may_54 : decode cX3_may 54 = .ok (.istore 4, 2) := by decide +kernel
set_option maxRecDepth 20000 in
theorem dX3_may_56 : decode cX3_may 56 = .ok (.iload 4, 2) := by decide +kernel
set_option maxRecDepth 20000 in
theorem dX3_may_58 : decode cX3_may 58 = .ok (.ifCond .ne 7, 3) := by decide +kernel
set_option maxRecDepth 20000 in
theorem dX3_may_61 : decode cX3_may 61 = .ok (.iconst 1, 1) := by decide +kernel
set_option maxRecDepth 20000 in
theorem dX3_may_62 : decode cX3_may 62 = .ok (.goto 4, 3) := by decide +kernel
set_option maxRecDepth 20000 in
theorem dX3_may_65 : decode cX3_may 65 = .ok (.iconst 0, 1) := by decide +kernel
set_option maxRecDepth 20000 in
theorem dX3_may_66 : decode cX3_may 66 = .ok (.ireturn, 1) := by decide +kernel
set_option maxRecDepth 20000 in
theorem dX3_isPreferred_0 : decode cX3_isPreferred 0 = .ok (.iload_n 3, 1) := by decide +kernel
set_option maxRecDepth 20000 in
theorem dX3_isPreferred_1 : decode cX3_isPreferred 1 = .ok (.lookupswitch 72 #[(1, 27), (2, 51)], 27) := by decide +kernel
set_option maxRecDepth 20000 in
theorem dX3_isPreferred_28 : decode cX3_isPreferred 28 = .ok (.aload_n 2, 1) := by decide +kernel
set_option maxRecDepth 20000 in
theorem dX3_isPreferred_29 : decode cX3_isPreferred 29 = .ok (.ifnonnull 21, 3) := by decide +kernel
set_option maxRecDepth 20000 in
theorem dX3_isPreferred_32 : decode cX3_isPreferred 32 = .ok (.aload_n 0, 1) := by decide +kernel
set_option maxRecDepth 20000 in
theorem dX3_isPreferred_33 : decode cX3_isPreferred 33 = .ok (.getfield 18, 3) := by decide +kernel
set_option maxRecDepth 20000 in
theorem dX3_isPreferred_36 : decode cX3_isPreferred 36 = .ok (.aload_n 1, 1) := by decide +kernel
set_option maxRecDepth 20000 in
theorem dX3_isPreferred_37 : decode cX3_isPreferred 37 = .ok (.getfield 66, 3) := by decide +kernel
set_option maxRecDepth 20000 in
theorem dX3_isPreferred_40 : decode cX3_isPreferred 40 = .ok (.ishr, 1) := by decide +kernel
set_option maxRecDepth 20000 in
theorem dX3_isPreferred_41 : decode cX3_isPreferred 41 = .ok (.iconst 1, 1) := by decide +kernel
set_option maxRecDepth 20000 in
theorem dX3_isPreferred_42 : decode cX3_isPreferred 42 = .ok (.iand, 1) := by decide +kernel
set_option maxRecDepth 20000 in
theorem dX3_isPreferred_43 : decode cX3_isPreferred 43 = .ok (.ifCond .ne 7, 3) := by decide +kernel
set_option maxRecDepth 20000 in
theorem dX3_isPreferred_46 : decode cX3_isPreferred 46 = .ok (.iconst 1, 1) := by decide +kernel
set_option maxRecDepth 20000 in
theorem dX3_isPreferred_47 : decode cX3_isPreferred 47 = .ok (.goto 4, 3) := by decide +kernel
set_option maxRecDepth 20000 in
theorem dX3_isPreferred_50 : decode cX3_isPreferred 50 = .ok (.iconst 0, 1) := by decide +kernel
set_option maxRecDepth 20000 in
theorem dX3_isPreferred_51 : decode cX3_isPreferred 51 = .ok (.ireturn, 1) := by decide +kernel
set_option maxRecDepth 20000 in
theorem dX3_isPreferred_52 : decode cX3_isPreferred 52 = .ok (.aload_n 2, 1) := by decide +kernel
set_option maxRecDepth 20000 in
theorem dX3_isPreferred_53 : decode cX3_isPreferred 53 = .ok (.ifnull 14, 3) := by decide +kernel
set_option maxRecDepth 20000 in
theorem dX3_isPreferred_56 : decode cX3_isPreferred 56 = .ok (.aload_n 1, 1) := by decide +kernel
set_option maxRecDepth 20000 in
theorem dX3_isPreferred_57 : decode cX3_isPreferred 57 = .ok (.getfield 80, 3) := by decide +kernel
set_option maxRecDepth 20000 in
theorem dX3_isPreferred_60 : decode cX3_isPreferred 60 = .ok (.aload_n 2, 1) := by decide +kernel
set_option maxRecDepth 20000 in
theorem dX3_isPreferred_61 : decode cX3_isPreferred 61 = .ok (.getfield 80, 3) := by decide +kernel
set_option maxRecDepth 20000 in
theorem dX3_isPreferred_64 : decode cX3_isPreferred 64 = .ok (.if_icmp .le 7, 3) := by decide +kernel
set_option maxRecDepth 20000 in
theorem dX3_isPreferred_67 : decode cX3_isPreferred 67 = .ok (.iconst 1, 1) := by decide +kernel
set_option maxRecDepth 20000 in
theorem dX3_isPreferred_68 : decode cX3_isPreferred 68 = .ok (.goto 4, 3) := by decide +kernel
set_option maxRecDepth 20000 in
theorem dX3_isPreferred_71 : decode cX3_isPreferred 71 = .ok (.iconst 0, 1) := by decide +kernel
set_option maxRecDepth 20000 in
theorem dX3_isPreferred_72 : decode cX3_isPreferred 72 = .ok (.ireturn, 1) := by decide +kernel
set_option maxRecDepth 20000 in
theorem dX3_isPreferred_73 : decode cX3_isPreferred 73 = .ok (.aload_n 2, 1) := by decide +kernel
set_option maxRecDepth 20000 in
theorem dX3_isPreferred_74 : decode cX3_isPreferred 74 = .ok (.ifnonnull 7, 3) := by decide +kernel
set_option maxRecDepth 20000 in
theorem dX3_isPreferred_77 : decode cX3_isPreferred 77 = .ok (.iconst 1, 1) := by decide +kernel
set_option maxRecDepth 20000 in
theorem dX3_isPreferred_78 : decode cX3_isPreferred 78 = .ok (.goto 4, 3) := by decide +kernel
set_option maxRecDepth 20000 in
theorem dX3_isPreferred_81 : decode cX3_isPreferred 81 = .ok (.iconst 0, 1) := by decide +kernel
set_option maxRecDepth 20000 in
theorem dX3_isPreferred_82 : decode cX3_isPreferred 82 = .ok (.ireturn, 1) := by decide +kernel
set_option maxRecDepth 20000 in
theorem dX3_serverOf_0 : decode cX3_serverOf 0 = .ok (.iload_n 1, 1) := by decide +kernel
set_option maxRecDepth 20000 in
theorem dX3_serverOf_1 : decode cX3_serverOf 1 = .ok (.ifCond .lt 18, 3) := by decide +kernel
set_option maxRecDepth 20000 in
theorem dX3_serverOf_4 : decode cX3_serverOf 4 = .ok (.iload_n 1, 1) := by decide +kernel
set_option maxRecDepth 20000 in
theorem dX3_serverOf_5 : decode cX3_serverOf 5 = .ok (.bipush 8, 2) := by decide +kernel
set_option maxRecDepth 20000 in
theorem dX3_serverOf_7 : decode cX3_serverOf 7 = .ok (.if_icmp .ge 12, 3) := by decide +kernel
set_option maxRecDepth 20000 in
theorem dX3_serverOf_10 : decode cX3_serverOf 10 = .ok (.aload_n 0, 1) := by decide +kernel
set_option maxRecDepth 20000 in
theorem dX3_serverOf_11 : decode cX3_serverOf 11 = .ok (.getfield 9, 3) := by decide +kernel
set_option maxRecDepth 20000 in
theorem dX3_serverOf_14 : decode cX3_serverOf 14 = .ok (.iload_n 1, 1) := by decide +kernel
set_option maxRecDepth 20000 in
theorem dX3_serverOf_15 : decode cX3_serverOf 15 = .ok (.iaload, 1) := by decide +kernel
set_option maxRecDepth 20000 in
theorem dX3_serverOf_16 : decode cX3_serverOf 16 = .ok (.goto 5, 3) := by decide +kernel
set_option maxRecDepth 20000 in
theorem dX3_serverOf_19 : decode cX3_serverOf 19 = .ok (.bipush (-9), 2) := by decide +kernel
set_option maxRecDepth 20000 in
theorem dX3_serverOf_21 : decode cX3_serverOf 21 = .ok (.ireturn, 1) := by decide +kernel
set_option maxRecDepth 20000 in
theorem dX3_undoneUses_0 : decode cX3_undoneUses 0 = .ok (.iconst 0, 1) := by decide +kernel
set_option maxRecDepth 20000 in
theorem dX3_undoneUses_1 : decode cX3_undoneUses 1 = .ok (.istore_n 1, 1) := by decide +kernel
set_option maxRecDepth 20000 in
theorem dX3_undoneUses_2 : decode cX3_undoneUses 2 = .ok (.iconst 0, 1) := by decide +kernel
set_option maxRecDepth 20000 in
theorem dX3_undoneUses_3 : decode cX3_undoneUses 3 = .ok (.istore_n 2, 1) := by decide +kernel
set_option maxRecDepth 20000 in
theorem dX3_undoneUses_4 : decode cX3_undoneUses 4 = .ok (.iload_n 2, 1) := by decide +kernel
set_option maxRecDepth 20000 in
theorem dX3_undoneUses_5 : decode cX3_undoneUses 5 = .ok (.aload_n 0, 1) := by decide +kernel
set_option maxRecDepth 20000 in
theorem dX3_undoneUses_6 : decode cX3_undoneUses 6 = .ok (.getfield 22, 3) := by decide +kernel
set_option maxRecDepth 20000 in
theorem dX3_undoneUses_9 : decode cX3_undoneUses 9 = .ok (.getfield 50, 3) := by decide +kernel
set_option maxRecDepth 20000 in
theorem dX3_undoneUses_12 : decode cX3_undoneUses 12 = .ok (.if_icmp .ge 32, 3) := by decide +kernel
set_option maxRecDepth 20000 in
theorem dX3_undoneUses_15 : decode cX3_undoneUses 15 = .ok (.iload_n 2, 1) := by decide +kernel
set_option maxRecDepth 20000 in
theorem dX3_undoneUses_16 : decode cX3_undoneUses 16 = .ok (.bipush 8, 2) := by decide +kernel
set_option maxRecDepth 20000 in
theorem dX3_undoneUses_18 : decode cX3_undoneUses 18 = .ok (.if_icmp .ge 26, 3) := by decide +kernel
set_option maxRecDepth 20000 in
theorem dX3_undoneUses_21 : decode cX3_undoneUses 21 = .ok (.aload_n 0, 1) := by decide +kernel
set_option maxRecDepth 20000 in
theorem dX3_undoneUses_22 : decode cX3_undoneUses 22 = .ok (.getfield 9, 3) := by decide +kernel
set_option maxRecDepth 20000 in
theorem dX3_undoneUses_25 : decode cX3_undoneUses 25 = .ok (.iload_n 2, 1) := by decide +kernel
set_option maxRecDepth 20000 in
theorem dX3_undoneUses_26 : decode cX3_undoneUses 26 = .ok (.iaload, 1) := by decide +kernel
set_option maxRecDepth 20000 in
theorem dX3_undoneUses_27 : decode cX3_undoneUses 27 = .ok (.bipush (-9), 2) := by decide +kernel
set_option maxRecDepth 20000 in
theorem dX3_undoneUses_29 : decode cX3_undoneUses 29 = .ok (.if_icmp .ne 9, 3) := by decide +kernel
set_option maxRecDepth 20000 in
theorem dX3_undoneUses_32 : decode cX3_undoneUses 32 = .ok (.iload_n 1, 1) := by decide +kernel
set_option maxRecDepth 20000 in
theorem dX3_undoneUses_33 : decode cX3_undoneUses 33 = .ok (.iconst 1, 1) := by decide +kernel
set_option maxRecDepth 20000 in
theorem dX3_undoneUses_34 : decode cX3_undoneUses 34 = .ok (.iload_n 2, 1) := by decide +kernel
set_option maxRecDepth 20000 in
theorem dX3_undoneUses_35 : decode cX3_undoneUses 35 = .ok (.ishl, 1) := by decide +kernel
set_option maxRecDepth 20000 in
theorem dX3_undoneUses_36 : decode cX3_undoneUses 36 = .ok (.ior, 1) := by decide +kernel
set_option maxRecDepth 20000 in
theorem dX3_undoneUses_37 : decode cX3_undoneUses 37 = .ok (.istore_n 1, 1) := by decide +kernel
set_option maxRecDepth 20000 in
theorem dX3_undoneUses_38 : decode cX3_undoneUses 38 = .ok (.iinc 2 1, 3) := by decide +kernel
set_option maxRecDepth 20000 in
theorem dX3_undoneUses_41 : decode cX3_undoneUses 41 = .ok (.goto (-37), 3) := by decide +kernel
set_option maxRecDepth 20000 in
theorem dX3_undoneUses_44 : decode cX3_undoneUses 44 = .ok (.iload_n 1, 1) := by decide +kernel
set_option maxRecDepth 20000 in
theorem dX3_undoneUses_45 : decode cX3_undoneUses 45 = .ok (.ireturn, 1) := by decide +kernel
set_option maxRecDepth 20000 in
theorem dX3_points_0 : decode cX3_points 0 = .ok (.iconst 0, 1) := by decide +kernel
set_option maxRecDepth 20000 in
theorem dX3_points_1 : decode cX3_points 1 = .ok (.istore_n 1, 1) := by decide +kernel
set_option maxRecDepth 20000 in
theorem dX3_points_2 : decode cX3_points 2 = .ok (.iconst 0, 1) := by decide +kernel
set_option maxRecDepth 20000 in
theorem dX3_points_3 : decode cX3_points 3 = .ok (.istore_n 2, 1) := by decide +kernel
set_option maxRecDepth 20000 in
theorem dX3_points_4 : decode cX3_points 4 = .ok (.iload_n 2, 1) := by decide +kernel
set_option maxRecDepth 20000 in
theorem dX3_points_5 : decode cX3_points 5 = .ok (.aload_n 0, 1) := by decide +kernel
set_option maxRecDepth 20000 in
theorem dX3_points_6 : decode cX3_points 6 = .ok (.getfield 22, 3) := by decide +kernel
set_option maxRecDepth 20000 in
theorem dX3_points_9 : decode cX3_points 9 = .ok (.getfield 50, 3) := by decide +kernel
set_option maxRecDepth 20000 in
theorem dX3_points_12 : decode cX3_points 12 = .ok (.if_icmp .ge 61, 3) := by decide +kernel
set_option maxRecDepth 20000 in
theorem dX3_points_15 : decode cX3_points 15 = .ok (.iload_n 2, 1) := by decide +kernel
set_option maxRecDepth 20000 in
theorem dX3_points_16 : decode cX3_points 16 = .ok (.bipush 8, 2) := by decide +kernel
set_option maxRecDepth 20000 in
theorem dX3_points_18 : decode cX3_points 18 = .ok (.if_icmp .ge 55, 3) := by decide +kernel
set_option maxRecDepth 20000 in
theorem dX3_points_21 : decode cX3_points 21 = .ok (.aload_n 0, 1) := by decide +kernel
set_option maxRecDepth 20000 in
theorem dX3_points_22 : decode cX3_points 22 = .ok (.getfield 22, 3) := by decide +kernel
set_option maxRecDepth 20000 in
theorem dX3_points_25 : decode cX3_points 25 = .ok (.aload_n 0, 1) := by decide +kernel
set_option maxRecDepth 20000 in
theorem dX3_points_26 : decode cX3_points 26 = .ok (.getfield 9, 3) := by decide +kernel
set_option maxRecDepth 20000 in
theorem dX3_points_29 : decode cX3_points 29 = .ok (.iload_n 2, 1) := by decide +kernel
set_option maxRecDepth 20000 in
theorem dX3_points_30 : decode cX3_points 30 = .ok (.iaload, 1) := by decide +kernel
set_option maxRecDepth 20000 in
theorem dX3_points_31 : decode cX3_points 31 = .ok (.invokevirtual 57, 3) := by decide +kernel
set_option maxRecDepth 20000 in
theorem dX3_points_34 : decode cX3_points 34 = .ok (.astore_n 3, 1) := by decide +kernel
set_option maxRecDepth 20000 in
theorem dX3_points_35 : decode cX3_points 35 = .ok (.aload_n 3, 1) := by decide +kernel
set_option maxRecDepth 20000 in
theorem dX3_points_36 : decode cX3_points 36 = .ok (.ifnull 31, 3) := by decide +kernel
set_option maxRecDepth 20000 in
theorem dX3_points_39 : decode cX3_points 39 = .ok (.iload_n 1, 1) := by decide +kernel
set_option maxRecDepth 20000 in
theorem dX3_points_40 : decode cX3_points 40 = .ok (.aload_n 3, 1) := by decide +kernel
set_option maxRecDepth 20000 in
theorem dX3_points_41 : decode cX3_points 41 = .ok (.getfield 66, 3) := by decide +kernel
set_option maxRecDepth 20000 in
theorem dX3_points_44 : decode cX3_points 44 = .ok (.iload_n 2, 1) := by decide +kernel
set_option maxRecDepth 20000 in
theorem dX3_points_45 : decode cX3_points 45 = .ok (.if_icmp .ne 8, 3) := by decide +kernel
set_option maxRecDepth 20000 in
theorem dX3_points_48 : decode cX3_points 48 = .ok (.bipush 100, 2) := by decide +kernel
set_option maxRecDepth 20000 in
theorem dX3_points_50 : decode cX3_points 50 = .ok (.goto 15, 3) := by decide +kernel
set_option maxRecDepth 20000 in
theorem dX3_points_53 : decode cX3_points 53 = .ok (.bipush 10, 2) := by decide +kernel
set_option maxRecDepth 20000 in
theorem dX3_points_55 : decode cX3_points 55 = .ok (.aload_n 3, 1) := by decide +kernel
set_option maxRecDepth 20000 in
theorem dX3_points_56 : decode cX3_points 56 = .ok (.getfield 80, 3) := by decide +kernel
set_option maxRecDepth 20000 in
theorem dX3_points_59 : decode cX3_points 59 = .ok (.imul, 1) := by decide +kernel
set_option maxRecDepth 20000 in
theorem dX3_points_60 : decode cX3_points 60 = .ok (.bipush 99, 2) := by decide +kernel
set_option maxRecDepth 20000 in
theorem dX3_points_62 : decode cX3_points 62 = .ok (.invokestatic 83, 3) := by decide +kernel
set_option maxRecDepth 20000 in
theorem dX3_points_65 : decode cX3_points 65 = .ok (.iadd, 1) := by decide +kernel
set_option maxRecDepth 20000 in
theorem dX3_points_66 : decode cX3_points 66 = .ok (.istore_n 1, 1) := by decide +kernel
set_option maxRecDepth 20000 in
theorem dX3_points_67 : decode cX3_points 67 = .ok (.iinc 2 1, 3) := by decide +kernel
set_option maxRecDepth 20000 in
theorem dX3_points_70 : decode cX3_points 70 = .ok (.goto (-66), 3) := by decide +kernel
set_option maxRecDepth 20000 in
theorem dX3_points_73 : decode cX3_points 73 = .ok (.iload_n 1, 1) := by decide +kernel
set_option maxRecDepth 20000 in
theorem dX3_points_74 : decode cX3_points 74 = .ok (.ireturn, 1) := by decide +kernel
set_option maxRecDepth 20000 in
theorem dX4_init_0 : decode cX4_init 0 = .ok (.aload_n 0, 1) := by decide +kernel
set_option maxRecDepth 20000 in
theorem dX4_init_1 : decode cX4_init 1 = .ok (.invokespecial 3, 3) := by decide +kernel
set_option maxRecDepth 20000 in
theorem dX4_init_4 : decode cX4_init 4 = .ok (.aload_n 0, 1) := by decide +kernel
set_option maxRecDepth 20000 in
theorem dX4_init_5 : decode cX4_init 5 = .ok (.bipush 60, 2) := by decide +kernel
set_option maxRecDepth 20000 in
theorem dX4_init_7 : decode cX4_init 7 = .ok (.newarray .int, 2) := by decide +kernel
set_option maxRecDepth 20000 in
theorem dX4_init_9 : decode cX4_init 9 = .ok (.putfield 9, 3) := by decide +kernel
set_option maxRecDepth 20000 in
theorem dX4_init_12 : decode cX4_init 12 = .ok (.aload_n 0, 1) := by decide +kernel
set_option maxRecDepth 20000 in
theorem dX4_init_13 : decode cX4_init 13 = .ok (.iconst 0, 1) := by decide +kernel
set_option maxRecDepth 20000 in
theorem dX4_init_14 : decode cX4_init 14 = .ok (.putfield 15, 3) := by decide +kernel
set_option maxRecDepth 20000 in
theorem dX4_init_17 : decode cX4_init 17 = .ok (.aload_n 0, 1) := by decide +kernel
set_option maxRecDepth 20000 in
theorem dX4_init_18 : decode cX4_init 18 = .ok (.iconst 0, 1) := by decide +kernel
set_option maxRecDepth 20000 in
theorem dX4_init_19 : decode cX4_init 19 = .ok (.putfield 19, 3) := by decide +kernel
set_option maxRecDepth 20000 in
theorem dX4_init_22 : decode cX4_init 22 = .ok (.aload_n 0, 1) := by decide +kernel
set_option maxRecDepth 20000 in
theorem dX4_init_23 : decode cX4_init 23 = .ok (.iconst 0, 1) := by decide +kernel
set_option maxRecDepth 20000 in
theorem dX4_init_24 : decode cX4_init 24 = .ok (.putfield 23, 3) := by decide +kernel
set_option maxRecDepth 20000 in
theorem dX4_init_27 : decode cX4_init 27 = .ok (.return_, 1) := by decide +kernel
set_option maxRecDepth 20000 in
theorem dX4_renew_0 : decode cX4_renew 0 = .ok (.aload_n 0, 1) := by decide +kernel
set_option maxRecDepth 20000 in
theorem dX4_renew_1 : decode cX4_renew 1 = .ok (.iconst 1, 1) := by decide +kernel
set_option maxRecDepth 20000 in
theorem dX4_renew_2 : decode cX4_renew 2 = .ok (.putfield 15, 3) := by decide +kernel
set_option maxRecDepth 20000 in
theorem dX4_renew_5 : decode cX4_renew 5 = .ok (.aload_n 0, 1) := by decide +kernel
set_option maxRecDepth 20000 in
theorem dX4_renew_6 : decode cX4_renew 6 = .ok (.iload_n 1, 1) := by decide +kernel
set_option maxRecDepth 20000 in
theorem dX4_renew_7 : decode cX4_renew 7 = .ok (.putfield 19, 3) := by decide +kernel
set_option maxRecDepth 20000 in
theorem dX4_renew_10 : decode cX4_renew 10 = .ok (.aload_n 0, 1) := by decide +kernel
set_option maxRecDepth 20000 in
theorem dX4_renew_11 : decode cX4_renew 11 = .ok (.iload_n 2, 1) := by decide +kernel
set_option maxRecDepth 20000 in
theorem dX4_renew_12 : decode cX4_renew 12 = .ok (.bipush 60, 2) := by decide +kernel
set_option maxRecDepth 20000 in
theorem dX4_renew_14 : decode cX4_renew 14 = .ok (.invokestatic 26, 3) := by decide +kernel
set_option maxRecDepth 20000 in
theorem dX4_renew_17 : decode cX4_renew 17 = .ok (.putfield 23, 3) := by decide +kernel
set_option maxRecDepth 20000 in
theorem dX4_renew_20 : decode cX4_renew 20 = .ok (.aload_n 0, 1) := by decide +kernel
set_option maxRecDepth 20000 in
theorem dX4_renew_21 : decode cX4_renew 21 = .ok (.getfield 9, 3) := by decide +kernel
set_option maxRecDepth 20000 in
theorem dX4_renew_24 : decode cX4_renew 24 = .ok (.iconst 0, 1) := by decide +kernel
set_option maxRecDepth 20000 in
theorem dX4_renew_25 : decode cX4_renew 25 = .ok (.invokestatic 32, 3) := by decide +kernel
set_option maxRecDepth 20000 in
theorem dX4_renew_28 : decode cX4_renew 28 = .ok (.return_, 1) := by decide +kernel
set_option maxRecDepth 20000 in
theorem dX4_rangeFault_0 : decode cX4_rangeFault 0 = .ok (.aload_n 0, 1) := by decide +kernel
set_option maxRecDepth 20000 in
theorem dX4_rangeFault_1 : decode cX4_rangeFault 1 = .ok (.getfield 15, 3) := by decide +kernel
set_option maxRecDepth 20000 in
theorem dX4_rangeFault_4 : decode cX4_rangeFault 4 = .ok (.ifCond .ne 5, 3) := by decide +kernel
set_option maxRecDepth 20000 in
theorem dX4_rangeFault_7 : decode cX4_rangeFault 7 = .ok (.iconst 1, 1) := by decide +kernel
set_option maxRecDepth 20000 in
theorem dX4_rangeFault_8 : decode cX4_rangeFault 8 = .ok (.ireturn, 1) := by decide +kernel
set_option maxRecDepth 20000 in
theorem dX4_rangeFault_9 : decode cX4_rangeFault 9 = .ok (.aload_n 0, 1) := by decide +kernel
set_option maxRecDepth 20000 in
theorem dX4_rangeFault_10 : decode cX4_rangeFault 10 = .ok (.getfield 19, 3) := by decide +kernel
set_option maxRecDepth 20000 in
theorem dX4_rangeFault_13 : decode cX4_rangeFault 13 = .ok (.iload_n 1, 1) := by decide +kernel
set_option maxRecDepth 20000 in
theorem dX4_rangeFault_14 : decode cX4_rangeFault 14 = .ok (.if_icmp .eq 5, 3) := by decide +kernel
set_option maxRecDepth 20000 in
theorem dX4_rangeFault_17 : decode cX4_rangeFault 17 = .ok (.iconst 2, 1) := by decide +kernel
set_option maxRecDepth 20000 in
theorem dX4_rangeFault_18 : decode cX4_rangeFault 18 = .ok (.ireturn, 1) := by decide +kernel
set_option maxRecDepth 20000 in
theorem dX4_rangeFault_19 : decode cX4_rangeFault 19 = .ok (.iload_n 3, 1) := by decide +kernel
set_option maxRecDepth 20000 in
theorem dX4_rangeFault_20 : decode cX4_rangeFault 20 = .ok (.ifCond .ge 5, 3) := by decide +kernel
set_option maxRecDepth 20000 in
theorem dX4_rangeFault_23 : decode cX4_rangeFault 23 = .ok (.iconst 4, 1) := by decide +kernel
set_option maxRecDepth 20000 in
theorem dX4_rangeFault_24 : decode cX4_rangeFault 24 = .ok (.ireturn, 1) := by decide +kernel
set_option maxRecDepth 20000 in
theorem dX4_rangeFault_25 : decode cX4_rangeFault 25 = .ok (.aload_n 0, 1) := by decide +kernel
set_option maxRecDepth 20000 in
theorem dX4_rangeFault_26 : decode cX4_rangeFault 26 = .ok (.iload_n 2, 1) := by decide +kernel
set_option maxRecDepth 20000 in
theorem dX4_rangeFault_27 : decode cX4_rangeFault 27 = .ok (.iload_n 3, 1) := by decide +kernel
set_option maxRecDepth 20000 in
theorem dX4_rangeFault_28 : decode cX4_rangeFault 28 = .ok (.invokevirtual 38, 3) := by decide +kernel
set_option maxRecDepth 20000 in
theorem dX4_rangeFault_31 : decode cX4_rangeFault 31 = .ok (.ifCond .eq 7, 3) := by decide +kernel
set_option maxRecDepth 20000 in
theorem dX4_rangeFault_34 : decode cX4_rangeFault 34 = .ok (.iconst 3, 1) := by decide +kernel
set_option maxRecDepth 20000 in
theorem dX4_rangeFault_35 : decode cX4_rangeFault 35 = .ok (.goto 4, 3) := by decide +kernel
set_option maxRecDepth 20000 in
theorem dX4_rangeFault_38 : decode cX4_rangeFault 38 = .ok (.iconst 0, 1) := by decide +kernel
set_option maxRecDepth 20000 in
theorem dX4_rangeFault_39 : decode cX4_rangeFault 39 = .ok (.ireturn, 1) := by decide +kernel
set_option maxRecDepth 20000 in
theorem dX4_isOver_0 : decode cX4_isOver 0 = .ok (.iload_n 1, 1) := by decide +kernel
set_option maxRecDepth 20000 in
theorem dX4_isOver_1 : decode cX4_isOver 1 = .ok (.ifCond .lt 21, 3) := by decide +kernel
set_option maxRecDepth 20000 in
theorem dX4_isOver_4 : decode cX4_isOver 4 = .ok (.iload_n 1, 1) := by decide +kernel
set_option maxRecDepth 20000 in
theorem dX4_isOver_5 : decode cX4_isOver 5 = .ok (.aload_n 0, 1) := by decide +kernel
set_option maxRecDepth 20000 in
theorem dX4_isOver_6 : decode cX4_isOver 6 = .ok (.getfield 23, 3) := by decide +kernel
set_option maxRecDepth 20000 in
theorem dX4_isOver_9 : decode cX4_isOver 9 = .ok (.if_icmp .gt 13, 3) := by decide +kernel
set_option maxRecDepth 20000 in
theorem dX4_isOver_12 : decode cX4_isOver 12 = .ok (.iload_n 2, 1) := by decide +kernel
set_option maxRecDepth 20000 in
theorem dX4_isOver_13 : decode cX4_isOver 13 = .ok (.aload_n 0, 1) := by decide +kernel
set_option maxRecDepth 20000 in
theorem dX4_isOver_14 : decode cX4_isOver 14 = .ok (.getfield 23, 3) := by decide +kernel
set_option maxRecDepth 20000 in
theorem dX4_isOver_17 : decode cX4_isOver 17 = .ok (.iload_n 1, 1) := by decide +kernel
set_option maxRecDepth 20000 in
theorem dX4_isOver_18 : decode cX4_isOver 18 = .ok (.isub, 1) := by decide +kernel
set_option maxRecDepth 20000 in
theorem dX4_isOver_19 : decode cX4_isOver 19 = .ok (.if_icmp .le 7, 3) := by decide +kernel
set_option maxRecDepth 20000 in
theorem dX4_isOver_22 : decode cX4_isOver 22 = .ok (.iconst 1, 1) := by decide +kernel
set_option maxRecDepth 20000 in
theorem dX4_isOver_23 : decode cX4_isOver 23 = .ok (.goto 4, 3) := by decide +kernel
set_option maxRecDepth 20000 in
theorem dX4_isOver_26 : decode cX4_isOver 26 = .ok (.iconst 0, 1) := by decide +kernel
set_option maxRecDepth 20000 in
theorem dX4_isOver_27 : decode cX4_isOver 27 = .ok (.ireturn, 1) := by decide +kernel
set_option maxRecDepth 20000 in
theorem dX4_cellAt_0 : decode cX4_cellAt 0 = .ok (.iload_n 1, 1) := by decide +kernel
set_option maxRecDepth 20000 in
theorem dX4_cellAt_1 : decode cX4_cellAt 1 = .ok (.ifCond .lt 20, 3) := by decide +kernel
set_option maxRecDepth 20000 in
theorem dX4_cellAt_4 : decode cX4_cellAt 4 = .ok (.iload_n 1, 1) := by decide +kernel
set_option maxRecDepth 20000 in
theorem dX4_cellAt_5 : decode cX4_cellAt 5 = .ok (.aload_n 0, 1) := by decide +kernel
set_option maxRecDepth 20000 in
theorem dX4_cellAt_6 : decode cX4_cellAt 6 = .ok (.getfield 23, 3) := by decide +kernel
set_option maxRecDepth 20000 in
theorem dX4_cellAt_9 : decode cX4_cellAt 9 = .ok (.if_icmp .ge 12, 3) := by decide +kernel
set_option maxRecDepth 20000 in
theorem dX4_cellAt_12 : decode cX4_cellAt 12 = .ok (.aload_n 0, 1) := by decide +kernel
set_option maxRecDepth 20000 in
theorem dX4_cellAt_13 : decode cX4_cellAt 13 = .ok (.getfield 9, 3) := by decide +kernel
set_option maxRecDepth 20000 in
theorem dX4_cellAt_16 : decode cX4_cellAt 16 = .ok (.iload_n 1, 1) := by decide +kernel
set_option maxRecDepth 20000 in
theorem dX4_cellAt_17 : decode cX4_cellAt 17 = .ok (.iaload, 1) := by decide +kernel
set_option maxRecDepth 20000 in
theorem dX4_cellAt_18 : decode cX4_cellAt 18 = .ok (.goto 4, 3) := by decide +kernel
set_option maxRecDepth 20000 in
theorem dX4_cellAt_21 : decode cX4_cellAt 21 = .ok (.iconst 0, 1) := by decide +kernel
set_option maxRecDepth 20000 in
theorem dX4_cellAt_22 : decode cX4_cellAt 22 = .ok (.ireturn, 1) := by decide +kernel
set_option maxRecDepth 20000 in
theorem dX4_setCell_0 : decode cX4_setCell 0 = .ok (.iload_n 1, 1) := by decide +kernel
set_option maxRecDepth 20000 in
theorem dX4_setCell_1 : decode cX4_setCell 1 = .ok (.ifCond .lt 22, 3) := by decide +kernel
set_option maxRecDepth 20000 in
theorem dX4_setCell_4 : decode cX4_setCell 4 = .ok (.iload_n 1, 1) := by decide +kernel
set_option maxRecDepth 20000 in
theorem dX4_setCell_5 : decode cX4_setCell 5 = .ok (.aload_n 0, 1) := by decide +kernel
set_option maxRecDepth 20000 in
theorem dX4_setCell_6 : decode cX4_setCell 6 = .ok (.getfield 23, 3) := by decide +kernel
set_option maxRecDepth 20000 in
theorem dX4_setCell_9 : decode cX4_setCell 9 = .ok (.if_icmp .ge 14, 3) := by decide +kernel
set_option maxRecDepth 20000 in
theorem dX4_setCell_12 : decode cX4_setCell 12 = .ok (.aload_n 0, 1) := by decide +kernel
set_option maxRecDepth 20000 in
theorem dX4_setCell_13 : decode cX4_setCell 13 = .ok (.getfield 9, 3) := by decide +kernel
set_option maxRecDepth 20000 in
theorem dX4_setCell_16 : decode cX4_setCell 16 = .ok (.iload_n 1, 1) := by decide +kernel
set_option maxRecDepth 20000 in
theorem dX4_setCell_17 : decode cX4_setCell 17 = .ok (.aload_n 0, 1) := by decide +kernel
set_option maxRecDepth 20000 in
theorem dX4_setCell_18 : decode cX4_setCell 18 = .ok (.iload_n 2, 1) := by decide +kernel
set_option maxRecDepth 20000 in
theorem dX4_setCell_19 : decode cX4_setCell 19 = .ok (.invokevirtual 42, 3) := by decide +kernel
set_option maxRecDepth 20000 in
theorem dX4_setCell_22 : decode cX4_setCell 22 = .ok (.iastore, 1) := by decide +kernel
set_option maxRecDepth 20000 in
theorem dX4_setCell_23 : decode cX4_setCell 23 = .ok (.return_, 1) := by decide +kernel
set_option maxRecDepth 20000 in
theorem dX4_cutToLane_0 : decode cX4_cutToLane 0 = .ok (.aload_n 0, 1) := by decide +kernel
set_option maxRecDepth 20000 in
theorem dX4_cutToLane_1 : decode cX4_cutToLane 1 = .ok (.getfield 19, 3) := by decide +kernel
set_option maxRecDepth 20000 in
theorem dX4_cutToLane_4 : decode cX4_cutToLane 4 = .ok (.lookupswitch 34 #[(0, 28), (1, 31)], 28) := by decide +kernel
set_option maxRecDepth 20000 in
theorem dX4_cutToLane_32 : decode cX4_cutToLane 32 = .ok (.iload_n 1, 1) := by decide +kernel
set_option maxRecDepth 20000 in
theorem dX4_cutToLane_33 : decode cX4_cutToLane 33 = .ok (.i2b, 1) := by decide +kernel
set_option maxRecDepth 20000 in
theorem dX4_cutToLane_34 : decode cX4_cutToLane 34 = .ok (.ireturn, 1) := by decide +kernel
set_option maxRecDepth 20000 in
theorem dX4_cutToLane_35 : decode cX4_cutToLane 35 = .ok (.iload_n 1, 1) := by decide +kernel
set_option maxRecDepth 20000 in
theorem dX4_cutToLane_36 : decode cX4_cutToLane 36 = .ok (.i2s, 1) := by decide +kernel
set_option maxRecDepth 20000 in
theorem dX4_cutToLane_37 : decode cX4_cutToLane 37 = .ok (.ireturn, 1) := by decide +kernel
set_option maxRecDepth 20000 in
theorem dX4_cutToLane_38 : decode cX4_cutToLane 38 = .ok (.iload_n 1, 1) := by decide +kernel
set_option maxRecDepth 20000 in
theorem dX4_cutToLane_39 : decode cX4_cutToLane 39 = .ok (.ireturn, 1) := by decide +kernel
set_option maxRecDepth 20000 in
theorem dX5_thingsIn_0 : decode cX5_thingsIn 0 = .ok (.iload_n 0, 1) := by decide +kernel
set_option maxRecDepth 20000 in
theorem dX5_thingsIn_1 : decode cX5_thingsIn 1 = .ok (.iconst 1, 1) := by decide +kernel
set_option maxRecDepth 20000 in
theorem dX5_thingsIn_2 : decode cX5_thingsIn 2 = .ok (.isub, 1) := by decide +kernel
set_option maxRecDepth 20000 in
theorem dX5_thingsIn_3 : decode cX5_thingsIn 3 = .ok (.iconst 5, 1) := by decide +kernel
set_option maxRecDepth 20000 in
theorem dX5_thingsIn_4 : decode cX5_thingsIn 4 = .ok (.idiv, 1) := by decide +kernel
set_option maxRecDepth 20000 in
theorem dX5_thingsIn_5 : decode cX5_thingsIn 5 = .ok (.ireturn, 1) := by decide +kernel
set_option maxRecDepth 20000 in
theorem dX5_placeOf_0 : decode cX5_placeOf 0 = .ok (.iconst 1, 1) := by decide +kernel
set_option maxRecDepth 20000 in
theorem dX5_placeOf_1 : decode cX5_placeOf 1 = .ok (.iconst 5, 1) := by decide +kernel
set_option maxRecDepth 20000 in
theorem dX5_placeOf_2 : decode cX5_placeOf 2 = .ok (.iload_n 0, 1) := by decide +kernel
set_option maxRecDepth 20000 in
theorem dX5_placeOf_3 : decode cX5_placeOf 3 = .ok (.imul, 1) := by decide +kernel
set_option maxRecDepth 20000 in
theorem dX5_placeOf_4 : decode cX5_placeOf 4 = .ok (.iadd, 1) := by decide +kernel
set_option maxRecDepth 20000 in
theorem dX5_placeOf_5 : decode cX5_placeOf 5 = .ok (.iload_n 1, 1) := by decide +kernel
set_option maxRecDepth 20000 in
theorem dX5_placeOf_6 : decode cX5_placeOf 6 = .ok (.iadd, 1) := by decide +kernel
set_option maxRecDepth 20000 in
theorem dX5_placeOf_7 : decode cX5_placeOf 7 = .ok (.ireturn, 1) := by decide +kernel
set_option maxRecDepth 20000 in
theorem dX5_firstFault_0 : decode cX5_firstFault 0 = .ok (.iconst 0, 1) := by decide +kernel
set_option maxRecDepth 20000 in
theorem dX5_firstFault_1 : decode cX5_firstFault 1 = .ok (.istore_n 3, 1) := by decide +kernel
set_option maxRecDepth 20000 in
theorem dX5_firstFault_2 : decode cX5_firstFault 2 = .ok (.iload_n 3, 1) := by decide +kernel
set_option maxRecDepth 20000 in
theorem dX5_firstFault_3 : decode cX5_firstFault 3 = .ok (.iload_n 2, 1) := by decide +kernel
set_option maxRecDepth 20000 in
theorem dX5_firstFault_4 : decode cX5_firstFault 4 = .ok (.if_icmp .ge 25, 3) := by decide +kernel
set_option maxRecDepth 20000 in
theorem dX5_firstFault_7 : decode cX5_firstFault 7 = .ok (.iload_n 3, 1) := by decide +kernel
set_option maxRecDepth 20000 in
theorem dX5_firstFault_8 : decode cX5_firstFault 8 = .ok (.aload_n 0, 1) := by decide +kernel
set_option maxRecDepth 20000 in
theorem dX5_firstFault_9 : decode cX5_firstFault 9 = .ok (.iload_n 1, 1) := by decide +kernel
set_option maxRecDepth 20000 in
theorem dX5_firstFault_10 : decode cX5_firstFault 10 = .ok (.iload_n 3, 1) := by decide +kernel
set_option maxRecDepth 20000 in
theorem dX5_firstFault_11 : decode cX5_firstFault 11 = .ok (.iadd, 1) := by decide +kernel
set_option maxRecDepth 20000 in
theorem dX5_firstFault_12 : decode cX5_firstFault 12 = .ok (.invokevirtual 11, 3) := by decide +kernel
set_option maxRecDepth 20000 in
theorem dX5_firstFault_15 : decode cX5_firstFault 15 = .ok (.invokestatic 17, 3) := by decide +kernel
set_option maxRecDepth 20000 in
theorem dX5_firstFault_18 : decode cX5_firstFault 18 = .ok (.ifCond .ne 5, 3) := by decide +kernel
set_option maxRecDepth 20000 in
theorem dX5_firstFault_21 : decode cX5_firstFault 21 = .ok (.iload_n 3, 1) := by decide +kernel
set_option maxRecDepth 20000 in
theorem dX5_firstFault_22 : decode cX5_firstFault 22 = .ok (.ireturn, 1) := by decide +kernel
set_option maxRecDepth 20000 in
theorem dX5_firstFault_23 : decode cX5_firstFault 23 = .ok (.iinc 3 1, 3) := by decide +kernel
set_option maxRecDepth 20000 in
theorem dX5_firstFault_26 : decode cX5_firstFault 26 = .ok (.goto (-24), 3) := by decide +kernel
set_option maxRecDepth 20000 in
theorem dX5_firstFault_29 : decode cX5_firstFault 29 = .ok (.iload_n 2, 1) := by decide +kernel
set_option maxRecDepth 20000 in
theorem dX5_firstFault_30 : decode cX5_firstFault 30 = .ok (.invokestatic 21, 3) := by decide +kernel
set_option maxRecDepth 20000 in
theorem dX5_firstFault_33 : decode cX5_firstFault 33 = .ok (.iconst 2, 1) := by decide +kernel
set_option maxRecDepth 20000 in
theorem dX5_firstFault_34 : decode cX5_firstFault 34 = .ok (.if_icmp .lt 15, 3) := by decide +kernel
set_option maxRecDepth 20000 in
theorem dX5_firstFault_37 : decode cX5_firstFault 37 = .ok (.iload_n 2, 1) := by decide +kernel
set_option maxRecDepth 20000 in
theorem dX5_firstFault_38 : decode cX5_firstFault 38 = .ok (.invokestatic 21, 3) := by decide +kernel
set_option maxRecDepth 20000 in
theorem dX5_firstFault_41 : decode cX5_firstFault 41 = .ok (.iconst 0, 1) := by decide +kernel
set_option maxRecDepth 20000 in
theorem dX5_firstFault_42 : decode cX5_firstFault 42 = .ok (.invokestatic 24, 3) := by decide +kernel
set_option maxRecDepth 20000 in
theorem dX5_firstFault_45 : decode cX5_firstFault 45 = .ok (.iload_n 2, 1) := by decide +kernel
set_option maxRecDepth 20000 in
theorem dX5_firstFault_46 : decode cX5_firstFault 46 = .ok (.if_icmp .eq 7, 3) := by decide +kernel
set_option maxRecDepth 20000 in
theorem dX5_firstFault_49 : decode cX5_firstFault 49 = .ok (.iconst 1, 1) := by decide +kernel
set_option maxRecDepth 20000 in
theorem dX5_firstFault_50 : decode cX5_firstFault 50 = .ok (.goto 4, 3) := by decide +kernel
set_option maxRecDepth 20000 in
theorem dX5_firstFault_53 : decode cX5_firstFault 53 = .ok (.iconst 0, 1) := by decide +kernel
set_option maxRecDepth 20000 in
theorem dX5_firstFault_54 : decode cX5_firstFault 54 = .ok (.istore_n 3, 1) := by decide +kernel
set_option maxRecDepth 20000 in
theorem dX5_firstFault_55 : decode cX5_firstFault 55 = .ok (.iload_n 3, 1) := by decide +kernel
set_option maxRecDepth 20000 in
theorem dX5_firstFault_56 : decode cX5_firstFault 56 = .ok (.ifCond .eq 7, 3) := by decide +kernel
set_option maxRecDepth 20000 in
theorem dX5_firstFault_59 : decode cX5_firstFault 59 = .ok (.iload_n 2, 1) := by decide +kernel
set_option maxRecDepth 20000 in
theorem dX5_firstFault_60 : decode cX5_firstFault 60 = .ok (.goto 12, 3) := by decide +kernel
set_option maxRecDepth 20000 in
theorem dX5_firstFault_63 : decode cX5_firstFault 63 = .ok (.aload_n 0, 1) := by decide +kernel
set_option maxRecDepth 20000 in
theorem dX5_firstFault_64 : decode cX5_firstFault 64 = .ok (.iload_n 1, 1) := by decide +kernel
set_option maxRecDepth 20000 in
theorem dX5_firstFault_65 : decode cX5_firstFault 65 = .ok (.iload_n 2, 1) := by decide +kernel
set_option maxRecDepth 20000 in
theorem dX5_firstFault_66 : decode cX5_firstFault 66 = .ok (.invokestatic 21, 3) := by decide +kernel
set_option maxRecDepth 20000 in
theorem dX5_firstFault_69 : decode cX5_firstFault 69 = .ok (.invokestatic 28, 3) := by decide +kernel
set_option maxRecDepth 20000 in
theorem dX5_firstFault_72 : decode cX5_firstFault 72 = .ok (.ireturn, 1) := by decide +kernel
set_option maxRecDepth 20000 in
theorem dX5_goesOn_0 : decode cX5_goesOn 0 = .ok (.iload_n 0, 1) := by decide +kernel
set_option maxRecDepth 20000 in
theorem dX5_goesOn_1 : decode cX5_goesOn 1 = .ok (.ifCond .ne 15, 3) := by decide +kernel
set_option maxRecDepth 20000 in
theorem dX5_goesOn_4 : decode cX5_goesOn 4 = .ok (.iload_n 1, 1) := by decide +kernel
set_option maxRecDepth 20000 in
theorem dX5_goesOn_5 : decode cX5_goesOn 5 = .ok (.bipush 101, 2) := by decide +kernel
set_option maxRecDepth 20000 in
theorem dX5_goesOn_7 : decode cX5_goesOn 7 = .ok (.if_icmp .ne 7, 3) := by decide +kernel
set_option maxRecDepth 20000 in
theorem dX5_goesOn_10 : decode cX5_goesOn 10 = .ok (.iconst 1, 1) := by decide +kernel
set_option maxRecDepth 20000 in
theorem dX5_goesOn_11 : decode cX5_goesOn 11 = .ok (.goto 4, 3) := by decide +kernel
set_option maxRecDepth 20000 in
theorem dX5_goesOn_14 : decode cX5_goesOn 14 = .ok (.iconst 0, 1) := by decide +kernel
set_option maxRecDepth 20000 in
theorem dX5_goesOn_15 : decode cX5_goesOn 15 = .ok (.ireturn, 1) := by decide +kernel
set_option maxRecDepth 20000 in
theorem dX5_goesOn_16 : decode cX5_goesOn 16 = .ok (.iload_n 0, 1) := by decide +kernel
set_option maxRecDepth 20000 in
theorem dX5_goesOn_17 : decode cX5_goesOn 17 = .ok (.iconst 1, 1) := by decide +kernel
set_option maxRecDepth 20000 in
theorem dX5_goesOn_18 : decode cX5_goesOn 18 = .ok (.isub, 1) := by decide +kernel
set_option maxRecDepth 20000 in
theorem dX5_goesOn_19 : decode cX5_goesOn 19 = .ok (.iconst 5, 1) := by decide +kernel
set_option maxRecDepth 20000 in
theorem dX5_goesOn_20 : decode cX5_goesOn 20 = .ok (.idiv, 1) := by decide +kernel
set_option maxRecDepth 20000 in
theorem dX5_goesOn_21 : decode cX5_goesOn 21 = .ok (.istore_n 2, 1) := by decide +kernel
set_option maxRecDepth 20000 in
theorem dX5_goesOn_22 : decode cX5_goesOn 22 = .ok (.iload_n 0, 1) := by decide +kernel
set_option maxRecDepth 20000 in
theorem dX5_goesOn_23 : decode cX5_goesOn 23 = .ok (.iconst 1, 1) := by decide +kernel
set_option maxRecDepth 20000 in
theorem dX5_goesOn_24 : decode cX5_goesOn 24 = .ok (.isub, 1) := by decide +kernel
set_option maxRecDepth 20000 in
theorem dX5_goesOn_25 : decode cX5_goesOn 25 = .ok (.iconst 5, 1) := by decide +kernel
set_option maxRecDepth 20000 in
theorem dX5_goesOn_26 : decode cX5_goesOn 26 = .ok (.irem, 1) := by decide +kernel
set_option maxRecDepth 20000 in
theorem dX5_goesOn_27 : decode cX5_goesOn 27 = .ok (.tableswitch 84 0 2 #[25, 43, 58], 25) := by decide +kernel
set_option maxRecDepth 20000 in
theorem dX5_goesOn_52 : decode cX5_goesOn 52 = .ok (.iload_n 1, 1) := by decide +kernel
set_option maxRecDepth 20000 in
theorem dX5_goesOn_53 : decode cX5_goesOn 53 = .ok (.bipush 59, 2) := by decide +kernel
set_option maxRecDepth 20000 in
theorem dX5_goesOn_55 : decode cX5_goesOn 55 = .ok (.if_icmp .ne 13, 3) := by decide +kernel
set_option maxRecDepth 20000 in
theorem dX5_goesOn_58 : decode cX5_goesOn 58 = .ok (.iload_n 2, 1) := by decide +kernel
set_option maxRecDepth 20000 in
theorem dX5_goesOn_59 : decode cX5_goesOn 59 = .ok (.bipush 8, 2) := by decide +kernel
set_option maxRecDepth 20000 in
theorem dX5_goesOn_61 : decode cX5_goesOn 61 = .ok (.if_icmp .ge 7, 3) := by decide +kernel
set_option maxRecDepth 20000 in
theorem dX5_goesOn_64 : decode cX5_goesOn 64 = .ok (.iconst 1, 1) := by decide +kernel
set_option maxRecDepth 20000 in
theorem dX5_goesOn_65 : decode cX5_goesOn 65 = .ok (.goto 4, 3) := by decide +kernel
set_option maxRecDepth 20000 in
theorem dX5_goesOn_68 : decode cX5_goesOn 68 = .ok (.iconst 0, 1) := by decide +kernel
set_option maxRecDepth 20000 in
theorem dX5_goesOn_69 : decode cX5_goesOn 69 = .ok (.ireturn, 1) := by decide +kernel
set_option maxRecDepth 20000 in
theorem dX5_goesOn_70 : decode cX5_goesOn 70 = .ok (.iload_n 1, 1) := by decide +kernel
set_option maxRecDepth 20000 in
theorem dX5_goesOn_71 : decode cX5_goesOn 71 = .ok (.invokestatic 32, 3) := by decide +kernel
set_option maxRecDepth 20000 in
theorem dX5_goesOn_74 : decode cX5_goesOn 74 = .ok (.bipush (-9), 2) := by decide +kernel
set_option maxRecDepth 20000 in
theorem dX5_goesOn_76 : decode cX5_goesOn 76 = .ok (.if_icmp .eq 7, 3) := by decide +kernel
set_option maxRecDepth 20000 in
theorem dX5_goesOn_79 : decode cX5_goesOn 79 = .ok (.iconst 1, 1) := by decide +kernel
set_option maxRecDepth 20000 in
theorem dX5_goesOn_80 : decode cX5_goesOn 80 = .ok (.goto 4, 3) := by decide +kernel
set_option maxRecDepth 20000 in
theorem dX5_goesOn_83 : decode cX5_goesOn 83 = .ok (.iconst 0, 1) := by decide +kernel
set_option maxRecDepth 20000 in
theorem dX5_goesOn_84 : decode cX5_goesOn 84 = .ok (.ireturn, 1) := by decide +kernel
set_option maxRecDepth 20000 in
theorem dX5_goesOn_85 : decode cX5_goesOn 85 = .ok (.iload_n 1, 1) := by decide +kernel
set_option maxRecDepth 20000 in
theorem dX5_goesOn_86 : decode cX5_goesOn 86 = .ok (.bipush 48, 2) := by decide +kernel
set_option maxRecDepth 20000 in
theorem dX5_goesOn_88 : decode cX5_goesOn 88 = .ok (.if_icmp .lt 21, 3) := by decide +kernel
set_option maxRecDepth 20000 in
theorem dX5_goesOn_91 : decode cX5_goesOn 91 = .ok (.iload_n 1, 1) := by decide +kernel
set_option maxRecDepth 20000 in
theorem dX5_goesOn_92 : decode cX5_goesOn 92 = .ok (.bipush 55, 2) := by decide +kernel
set_option maxRecDepth 20000 in
theorem dX5_goesOn_94 : decode cX5_goesOn 94 = .ok (.if_icmp .gt 15, 3) := by decide +kernel
set_option maxRecDepth 20000 in
theorem dX5_goesOn_97 : decode cX5_goesOn 97 = .ok (.iload_n 1, 1) := by decide +kernel
set_option maxRecDepth 20000 in
theorem dX5_goesOn_98 : decode cX5_goesOn 98 = .ok (.bipush 48, 2) := by decide +kernel
set_option maxRecDepth 20000 in
theorem dX5_goesOn_100 : decode cX5_goesOn 100 = .ok (.isub, 1) := by decide +kernel
set_option maxRecDepth 20000 in
theorem dX5_goesOn_101 : decode cX5_goesOn 101 = .ok (.iload_n 2, 1) := by decide +kernel
set_option maxRecDepth 20000 in
theorem dX5_goesOn_102 : decode cX5_goesOn 102 = .ok (.if_icmp .eq 7, 3) := by decide +kernel
set_option maxRecDepth 20000 in
theorem dX5_goesOn_105 : decode cX5_goesOn 105 = .ok (.iconst 1, 1) := by decide +kernel
set_option maxRecDepth 20000 in
theorem dX5_goesOn_106 : decode cX5_goesOn 106 = .ok (.goto 4, 3) := by decide +kernel
set_option maxRecDepth 20000 in
theorem dX5_goesOn_109 : decode cX5_goesOn 109 = .ok (.iconst 0, 1) := by decide +kernel
set_option maxRecDepth 20000 in
theorem dX5_goesOn_110 : decode cX5_goesOn 110 = .ok (.ireturn, 1) := by decide +kernel
set_option maxRecDepth 20000 in
theorem dX5_goesOn_111 : decode cX5_goesOn 111 = .ok (.iload_n 1, 1) := by decide +kernel
set_option maxRecDepth 20000 in
theorem dX5_goesOn_112 : decode cX5_goesOn 112 = .ok (.bipush 49, 2) := by decide +kernel
set_option maxRecDepth 20000 in
theorem dX5_goesOn_114 : decode cX5_goesOn 114 = .ok (.if_icmp .lt 13, 3) := by decide +kernel
set_option maxRecDepth 20000 in
theorem dX5_goesOn_117 : decode cX5_goesOn 117 = .ok (.iload_n 1, 1) := by decide +kernel
set_option maxRecDepth 20000 in
theorem dX5_goesOn_118 : decode cX5_goesOn 118 = .ok (.bipush 57, 2) := by decide +kernel
set_option maxRecDepth 20000 in
theorem dX5_goesOn_120 : decode cX5_goesOn 120 = .ok (.if_icmp .gt 7, 3) := by decide +kernel
set_option maxRecDepth 20000 in
theorem dX5_goesOn_123 : decode cX5_goesOn 123 = .ok (.iconst 1, 1) := by decide +kernel
set_option maxRecDepth 20000 in
theorem dX5_goesOn_124 : decode cX5_goesOn 124 = .ok (.goto 4, 3) := by decide +kernel
set_option maxRecDepth 20000 in
theorem dX5_goesOn_127 : decode cX5_goesOn 127 = .ok (.iconst 0, 1) := by decide +kernel
set_option maxRecDepth 20000 in
theorem dX5_goesOn_128 : decode cX5_goesOn 128 = .ok (.ireturn, 1) := by decide +kernel
set_option maxRecDepth 20000 in
theorem dX5_firstStranger_0 : decode cX5_firstStranger 0 = .ok (.iconst 0, 1) := by decide +kernel
set_option maxRecDepth 20000 in
theorem dX5_firstStranger_1 : decode cX5_firstStranger 1 = .ok (.istore_n 3, 1) := by decide +kernel
set_option maxRecDepth 20000 in
theorem dX5_firstStranger_2 : decode cX5_firstStranger 2 = .ok (.iload_n 3, 1) := by decide +kernel
set_option maxRecDepth 20000 in
theorem dX5_firstStranger_3 : decode cX5_firstStranger 3 = .ok (.iload_n 2, 1) := by decide +kernel
set_option maxRecDepth 20000 in
theorem dX5_firstStranger_4 : decode cX5_firstStranger 4 = .ok (.if_icmp .ge 34, 3) := by decide +kernel
set_option maxRecDepth 20000 in
theorem dX5_firstStranger_7 : decode cX5_firstStranger 7 = .ok (.iload_n 3, 1) := by decide +kernel
set_option maxRecDepth 20000 in
theorem dX5_firstStranger_8 : decode cX5_firstStranger 8 = .ok (.iconst 2, 1) := by decide +kernel
set_option maxRecDepth 20000 in
theorem dX5_firstStranger_9 : decode cX5_firstStranger 9 = .ok (.invokestatic 24, 3) := by decide +kernel
set_option maxRecDepth 20000 in
theorem dX5_firstStranger_12 : decode cX5_firstStranger 12 = .ok (.istore 4, 2) := by decide +kernel
set_option maxRecDepth 20000 in
theorem dX5_firstStranger_14 : decode cX5_firstStranger 14 = .ok (.aload_n 0, 1) := by decide +kernel
set_option maxRecDepth 20000 in
theorem dX5_firstStranger_15 : decode cX5_firstStranger 15 = .ok (.iload_n 1, 1) := by decide +kernel
set_option maxRecDepth 20000 in
theorem dX5_firstStranger_16 : decode cX5_firstStranger 16 = .ok (.iload 4, 2) := by decide +kernel
set_option maxRecDepth 20000 in
theorem dX5_firstStranger_18 : decode cX5_firstStranger 18 = .ok (.iadd, 1) := by decide +kernel
set_option maxRecDepth 20000 in
theorem dX5_firstStranger_19 : decode cX5_firstStranger 19 = .ok (.invokevirtual 11, 3) := by decide +kernel
set_option maxRecDepth 20000 in
theorem dX5_firstStranger_22 : decode cX5_firstStranger 22 = .ok (.bipush 48, 2) := by decide +kernel
set_option maxRecDepth 20000 in
theorem dX5_firstStranger_24 : decode cX5_firstStranger 24 = .ok (.isub, 1) := by decide +kernel
set_option maxRecDepth 20000 in
theorem dX5_firstStranger_25 : decode cX5_firstStranger 25 = .ok (.iload_n 2, 1) := by decide +kernel
set_option maxRecDepth 20000 in
theorem dX5_firstStranger_26 : decode cX5_firstStranger 26 = .ok (.if_icmp .lt 6, 3) := by decide +kernel
set_option maxRecDepth 20000 in
theorem dX5_firstStranger_29 : decode cX5_firstStranger 29 = .ok (.iload 4, 2) := by decide +kernel
set_option maxRecDepth 20000 in
theorem dX5_firstStranger_31 : decode cX5_firstStranger 31 = .ok (.ireturn, 1) := by decide +kernel
set_option maxRecDepth 20000 in
theorem dX5_firstStranger_32 : decode cX5_firstStranger 32 = .ok (.iinc 3 1, 3) := by decide +kernel
set_option maxRecDepth 20000 in
theorem dX5_firstStranger_35 : decode cX5_firstStranger 35 = .ok (.goto (-33), 3) := by decide +kernel
set_option maxRecDepth 20000 in
theorem dX5_firstStranger_38 : decode cX5_firstStranger 38 = .ok (.bipush (-9), 2) := by decide +kernel
set_option maxRecDepth 20000 in
theorem dX5_firstStranger_40 : decode cX5_firstStranger 40 = .ok (.ireturn, 1) := by decide +kernel
set_option maxRecDepth 20000 in
theorem dX5_kindBy_0 : decode cX5_kindBy 0 = .ok (.iload_n 0, 1) := by decide +kernel
set_option maxRecDepth 20000 in
theorem dX5_kindBy_1 : decode cX5_kindBy 1 = .ok (.lookupswitch 41 #[(109, 39), (115, 37), (116, 35)], 35) := by decide +kernel
set_option maxRecDepth 20000 in
theorem dX5_kindBy_36 : decode cX5_kindBy 36 = .ok (.iconst 0, 1) := by decide +kernel
set_option maxRecDepth 20000 in
theorem dX5_kindBy_37 : decode cX5_kindBy 37 = .ok (.ireturn, 1) := by decide +kernel
set_option maxRecDepth 20000 in
theorem dX5_kindBy_38 : decode cX5_kindBy 38 = .ok (.iconst 1, 1) := by decide +kernel
set_option maxRecDepth 20000 in
theorem dX5_kindBy_39 : decode cX5_kindBy 39 = .ok (.ireturn, 1) := by decide +kernel
set_option maxRecDepth 20000 in
theorem dX5_kindBy_40 : decode cX5_kindBy 40 = .ok (.iconst 2, 1) := by decide +kernel
set_option maxRecDepth 20000 in
theorem dX5_kindBy_41 : decode cX5_kindBy 41 = .ok (.ireturn, 1) := by decide +kernel
set_option maxRecDepth 20000 in
theorem dX5_kindBy_42 : decode cX5_kindBy 42 = .ok (.bipush (-9), 2) := by decide +kernel
set_option maxRecDepth 20000 in
theorem dX5_kindBy_44 : decode cX5_kindBy 44 = .ok (.ireturn, 1) := by decide +kernel
set_option maxRecDepth 20000 in
theorem dX6_init_0 : decode cX6_init 0 = .ok (.aload_n 0, 1) := by decide +kernel
set_option maxRecDepth 20000 in
theorem dX6_init_1 : decode cX6_init 1 = .ok (.invokespecial 3, 3) := by decide +kernel
set_option maxRecDepth 20000 in
theorem dX6_init_4 : decode cX6_init 4 = .ok (.aload_n 0, 1) := by decide +kernel
set_option maxRecDepth 20000 in
theorem dX6_init_5 : decode cX6_init 5 = .ok (.iconst 0, 1) := by decide +kernel
set_option maxRecDepth 20000 in
theorem dX6_init_6 : decode cX6_init 6 = .ok (.putfield 9, 3) := by decide +kernel
set_option maxRecDepth 20000 in
theorem dX6_init_9 : decode cX6_init 9 = .ok (.aload_n 0, 1) := by decide +kernel
set_option maxRecDepth 20000 in
theorem dX6_init_10 : decode cX6_init 10 = .ok (.iconst 0, 1) := by decide +kernel
set_option maxRecDepth 20000 in
theorem dX6_init_11 : decode cX6_init 11 = .ok (.putfield 15, 3) := by decide +kernel
set_option maxRecDepth 20000 in
theorem dX6_init_14 : decode cX6_init 14 = .ok (.aload_n 0, 1) := by decide +kernel
set_option maxRecDepth 20000 in
theorem dX6_init_15 : decode cX6_init 15 = .ok (.iconst 0, 1) := by decide +kernel
set_option maxRecDepth 20000 in
theorem dX6_init_16 : decode cX6_init 16 = .ok (.putfield 18, 3) := by decide +kernel
set_option maxRecDepth 20000 in
theorem dX6_init_19 : decode cX6_init 19 = .ok (.aload_n 0, 1) := by decide +kernel
set_option maxRecDepth 20000 in
theorem dX6_init_20 : decode cX6_init 20 = .ok (.iconst 0, 1) := by decide +kernel
set_option maxRecDepth 20000 in
theorem dX6_init_21 : decode cX6_init 21 = .ok (.putfield 21, 3) := by decide +kernel
set_option maxRecDepth 20000 in
theorem dX6_init_24 : decode cX6_init 24 = .ok (.aload_n 0, 1) := by decide +kernel
set_option maxRecDepth 20000 in
theorem dX6_init_25 : decode cX6_init 25 = .ok (.iconst 0, 1) := by decide +kernel
set_option maxRecDepth 20000 in
theorem dX6_init_26 : decode cX6_init 26 = .ok (.putfield 24, 3) := by decide +kernel
set_option maxRecDepth 20000 in
theorem dX6_init_29 : decode cX6_init 29 = .ok (.aload_n 0, 1) := by decide +kernel
set_option maxRecDepth 20000 in
theorem dX6_init_30 : decode cX6_init 30 = .ok (.iload_n 1, 1) := by decide +kernel
set_option maxRecDepth 20000 in
theorem dX6_init_31 : decode cX6_init 31 = .ok (.putfield 27, 3) := by decide +kernel
set_option maxRecDepth 20000 in
theorem dX6_init_34 : decode cX6_init 34 = .ok (.return_, 1) := by decide +kernel
set_option maxRecDepth 20000 in
theorem dX6_become_0 : decode cX6_become 0 = .ok (.aload_n 0, 1) := by decide +kernel
set_option maxRecDepth 20000 in
theorem dX6_become_1 : decode cX6_become 1 = .ok (.iload_n 1, 1) := by decide +kernel
set_option maxRecDepth 20000 in
theorem dX6_become_2 : decode cX6_become 2 = .ok (.putfield 9, 3) := by decide +kernel
set_option maxRecDepth 20000 in
theorem dX6_become_5 : decode cX6_become 5 = .ok (.aload_n 0, 1) := by decide +kernel
set_option maxRecDepth 20000 in
theorem dX6_become_6 : decode cX6_become 6 = .ok (.iload_n 2, 1) := by decide +kernel
set_option maxRecDepth 20000 in
theorem dX6_become_7 : decode cX6_become 7 = .ok (.putfield 15, 3) := by decide +kernel
set_option maxRecDepth 20000 in
theorem dX6_become_10 : decode cX6_become 10 = .ok (.aload_n 0, 1) := by decide +kernel
set_option maxRecDepth 20000 in
theorem dX6_become_11 : decode cX6_become 11 = .ok (.iload_n 3, 1) := by decide +kernel
set_option maxRecDepth 20000 in
theorem dX6_become_12 : decode cX6_become 12 = .ok (.putfield 18, 3) := by decide +kernel
set_option maxRecDepth 20000 in
theorem dX6_become_15 : decode cX6_become 15 = .ok (.aload_n 0, 1) := by decide +kernel
set_option maxRecDepth 20000 in
theorem dX6_become_16 : decode cX6_become 16 = .ok (.iload 4, 2) := by decide +kernel
set_option maxRecDepth 20000 in
theorem dX6_become_18 : decode cX6_become 18 = .ok (.putfield 21, 3) := by decide +kernel
set_option maxRecDepth 20000 in
theorem dX6_become_21 : decode cX6_become 21 = .ok (.aload_n 0, 1) := by decide +kernel
set_option maxRecDepth 20000 in
theorem dX6_become_22 : decode cX6_become 22 = .ok (.iload_n 1, 1) := by decide +kernel
set_option maxRecDepth 20000 in
theorem dX6_become_23 : decode cX6_become 23 = .ok (.iload_n 3, 1) := by decide +kernel
set_option maxRecDepth 20000 in
theorem dX6_become_24 : decode cX6_become 24 = .ok (.invokestatic 30, 3) := by decide +kernel
set_option maxRecDepth 20000 in
theorem dX6_become_27 : decode cX6_become 27 = .ok (.putfield 24, 3) := by decide +kernel
set_option maxRecDepth 20000 in
theorem dX6_become_30 : decode cX6_become 30 = .ok (.return_, 1) := by decide +kernel
set_option maxRecDepth 20000 in
theorem dX6_goodOf_0 : decode cX6_goodOf 0 = .ok (.iload_n 0, 1) := by decide +kernel
set_option maxRecDepth 20000 in
theorem dX6_goodOf_1 : decode cX6_goodOf 1 = .ok (.lookupswitch 37 #[(1, 33), (2, 27)], 27) := by decide +kernel
set_option maxRecDepth 20000 in
theorem dX6_goodOf_28 : decode cX6_goodOf 28 = .ok (.iconst 2, 1) := by decide +kernel
set_option maxRecDepth 20000 in
theorem dX6_goodOf_29 : decode cX6_goodOf 29 = .ok (.iload_n 1, 1) := by decide +kernel
set_option maxRecDepth 20000 in
theorem dX6_goodOf_30 : decode cX6_goodOf 30 = .ok (.iconst 1, 1) := by decide +kernel
set_option maxRecDepth 20000 in
theorem dX6_goodOf_31 : decode cX6_goodOf 31 = .ok (.iadd, 1) := by decide +kernel
set_option maxRecDepth 20000 in
theorem dX6_goodOf_32 : decode cX6_goodOf 32 = .ok (.imul, 1) := by decide +kernel
set_option maxRecDepth 20000 in
theorem dX6_goodOf_33 : decode cX6_goodOf 33 = .ok (.ireturn, 1) := by decide +kernel
set_option maxRecDepth 20000 in
theorem dX6_goodOf_34 : decode cX6_goodOf 34 = .ok (.iload_n 1, 1) := by decide +kernel
set_option maxRecDepth 20000 in
theorem dX6_goodOf_35 : decode cX6_goodOf 35 = .ok (.iconst 1, 1) := by decide +kernel
set_option maxRecDepth 20000 in
theorem dX6_goodOf_36 : decode cX6_goodOf 36 = .ok (.iadd, 1) := by decide +kernel
set_option maxRecDepth 20000 in
theorem dX6_goodOf_37 : decode cX6_goodOf 37 = .ok (.ireturn, 1) := by decide +kernel
set_option maxRecDepth 20000 in
theorem dX6_goodOf_38 : decode cX6_goodOf 38 = .ok (.iload_n 1, 1) := by decide +kernel
set_option maxRecDepth 20000 in
theorem dX6_goodOf_39 : decode cX6_goodOf 39 = .ok (.ireturn, 1) := by decide +kernel
set_option maxRecDepth 20000 in
theorem dX7_init_0 : decode cX7_init 0 = .ok (.aload_n 0, 1) := by decide +kernel
set_option maxRecDepth 20000 in
theorem dX7_init_1 : decode cX7_init 1 = .ok (.invokespecial 3, 3) := by decide +kernel
set_option maxRecDepth 20000 in
theorem dX7_init_4 : decode cX7_init 4 = .ok (.aload_n 0, 1) := by decide +kernel
set_option maxRecDepth 20000 in
theorem dX7_init_5 : decode cX7_init 5 = .ok (.bipush 8, 2) := by decide +kernel
set_option maxRecDepth 20000 in
theorem dX7_init_7 : decode cX7_init 7 = .ok (.anewarray 9, 3) := by decide +kernel
set_option maxRecDepth 20000 in
theorem dX7_init_10 : decode cX7_init 10 = .ok (.putfield 11, 3) := by decide +kernel
set_option maxRecDepth 20000 in
theorem dX7_init_13 : decode cX7_init 13 = .ok (.aload_n 0, 1) := by decide +kernel
set_option maxRecDepth 20000 in
theorem dX7_init_14 : decode cX7_init 14 = .ok (.iconst 0, 1) := by decide +kernel
set_option maxRecDepth 20000 in
theorem dX7_init_15 : decode cX7_init 15 = .ok (.putfield 17, 3) := by decide +kernel
set_option maxRecDepth 20000 in
theorem dX7_init_18 : decode cX7_init 18 = .ok (.aload_n 0, 1) := by decide +kernel
set_option maxRecDepth 20000 in
theorem dX7_init_19 : decode cX7_init 19 = .ok (.iconst 0, 1) := by decide +kernel
set_option maxRecDepth 20000 in
theorem dX7_init_20 : decode cX7_init 20 = .ok (.putfield 21, 3) := by decide +kernel
set_option maxRecDepth 20000 in
theorem dX7_init_23 : decode cX7_init 23 = .ok (.iconst 0, 1) := by decide +kernel
set_option maxRecDepth 20000 in
theorem dX7_init_24 : decode cX7_init 24 = .ok (.istore_n 1, 1) := by decide +kernel
set_option maxRecDepth 20000 in
theorem dX7_init_25 : decode cX7_init 25 = .ok (.iload_n 1, 1) := by decide +kernel
set_option maxRecDepth 20000 in
theorem dX7_init_26 : decode cX7_init 26 = .ok (.bipush 8, 2) := by decide +kernel
set_option maxRecDepth 20000 in
theorem dX7_init_28 : decode cX7_init 28 = .ok (.if_icmp .ge 23, 3) := by decide +kernel
set_option maxRecDepth 20000 in
theorem dX7_init_31 : decode cX7_init 31 = .ok (.aload_n 0, 1) := by decide +kernel
set_option maxRecDepth 20000 in
theorem dX7_init_32 : decode cX7_init 32 = .ok (.getfield 11, 3) := by decide +kernel
set_option maxRecDepth 20000 in
theorem dX7_init_35 : decode cX7_init 35 = .ok (.iload_n 1, 1) := by decide +kernel
set_option maxRecDepth 20000 in
theorem dX7_init_36 : decode cX7_init 36 = .ok (.new 9, 3) := by decide +kernel
set_option maxRecDepth 20000 in
theorem dX7_init_39 : decode cX7_init 39 = .ok (.dup, 1) := by decide +kernel
set_option maxRecDepth 20000 in
theorem dX7_init_40 : decode cX7_init 40 = .ok (.iload_n 1, 1) := by decide +kernel
set_option maxRecDepth 20000 in
theorem dX7_init_41 : decode cX7_init 41 = .ok (.invokespecial 24, 3) := by decide +kernel
set_option maxRecDepth 20000 in
theorem dX7_init_44 : decode cX7_init 44 = .ok (.aastore, 1) := by decide +kernel
set_option maxRecDepth 20000 in
theorem dX7_init_45 : decode cX7_init 45 = .ok (.iinc 1 1, 3) := by decide +kernel
set_option maxRecDepth 20000 in
theorem dX7_init_48 : decode cX7_init 48 = .ok (.goto (-23), 3) := by decide +kernel
set_option maxRecDepth 20000 in
theorem dX7_init_51 : decode cX7_init 51 = .ok (.return_, 1) := by decide +kernel
set_option maxRecDepth 20000 in
theorem dX7_settle_0 : decode cX7_settle 0 = .ok (.aload_n 0, 1) := by decide +kernel
set_option maxRecDepth 20000 in
theorem dX7_settle_1 : decode cX7_settle 1 = .ok (.iload_n 3, 1) := by decide +kernel
set_option maxRecDepth 20000 in
theorem dX7_settle_2 : decode cX7_settle 2 = .ok (.bipush 8, 2) := by decide +kernel
set_option maxRecDepth 20000 in
theorem dX7_settle_4 : decode cX7_settle 4 = .ok (.invokestatic 27, 3) := by decide +kernel
set_option maxRecDepth 20000 in
theorem dX7_settle_7 : decode cX7_settle 7 = .ok (.putfield 17, 3) := by decide +kernel
set_option maxRecDepth 20000 in
theorem dX7_settle_10 : decode cX7_settle 10 = .ok (.aload_n 0, 1) := by decide +kernel
set_option maxRecDepth 20000 in
theorem dX7_settle_11 : decode cX7_settle 11 = .ok (.iconst 0, 1) := by decide +kernel
set_option maxRecDepth 20000 in
theorem dX7_settle_12 : decode cX7_settle 12 = .ok (.putfield 21, 3) := by decide +kernel
set_option maxRecDepth 20000 in
theorem dX7_settle_15 : decode cX7_settle 15 = .ok (.iconst 0, 1) := by decide +kernel
set_option maxRecDepth 20000 in
theorem dX7_settle_16 : decode cX7_settle 16 = .ok (.istore 4, 2) := by decide +kernel
set_option maxRecDepth 20000 in
theorem dX7_settle_18 : decode cX7_settle 18 = .ok (.iload 4, 2) := by decide +kernel
set_option maxRecDepth 20000 in
theorem dX7_settle_20 : decode cX7_settle 20 = .ok (.aload_n 0, 1) := by decide +kernel
set_option maxRecDepth 20000 in
theorem dX7_settle_21 : decode cX7_settle 21 = .ok (.getfield 17, 3) := by decide +kernel
set_option maxRecDepth 20000 in
theorem dX7_settle_24 : decode cX7_settle 24 = .ok (.if_icmp .ge 103, 3) := by decide +kernel
set_option maxRecDepth 20000 in
theorem dX7_settle_27 : decode cX7_settle 27 = .ok (.aload_n 0, 1) := by decide +kernel
set_option maxRecDepth 20000 in
theorem dX7_settle_28 : decode cX7_settle 28 = .ok (.iload 4, 2) := by decide +kernel
set_option maxRecDepth 20000 in
theorem dX7_settle_30 : decode cX7_settle 30 = .ok (.invokevirtual 33, 3) := by decide +kernel
set_option maxRecDepth 20000 in
theorem dX7_settle_33 : decode cX7_settle 33 = .ok (.astore 5, 2) := by decide +kernel
set_option maxRecDepth 20000 in
theorem dX7_settle_35 : decode cX7_settle 35 = .ok (.aload 5, 2) := by decide +kernel
set_option maxRecDepth 20000 in
theorem dX7_settle_37 : decode cX7_settle 37 = .ok (.ifnull 84, 3) := by decide +kernel
set_option maxRecDepth 20000 in
theorem dX7_settle_40 : decode cX7_settle 40 = .ok (.aload_n 1, 1) := by decide +kernel
set_option maxRecDepth 20000 in
theorem dX7_settle_41 : decode cX7_settle 41 = .ok (.iload_n 2, 1) := by decide +kernel
set_option maxRecDepth 20000 in
theorem dX7_settle_42 : decode cX7_settle 42 = .ok (.iload 4, 2) := by decide +kernel
set_option maxRecDepth 20000 in
theorem dX7_settle_44 : decode cX7_settle 44 = .ok (.iconst 1, 1) := by decide +kernel
set_option maxRecDepth 20000 in
theorem dX7_settle_45 : decode cX7_settle 45 = .ok (.invokestatic 39, 3) := by decide +kernel
set_option maxRecDepth 20000 in
theorem dX7_settle_48 : decode cX7_settle 48 = .ok (.iadd, 1) := by decide +kernel
set_option maxRecDepth 20000 in
theorem dX7_settle_49 : decode cX7_settle 49 = .ok (.invokevirtual 42, 3) := by decide +kernel
set_option maxRecDepth 20000 in
theorem dX7_settle_52 : decode cX7_settle 52 = .ok (.invokestatic 48, 3) := by decide +kernel
set_option maxRecDepth 20000 in
theorem dX7_settle_55 : decode cX7_settle 55 = .ok (.istore 6, 2) := by decide +kernel
set_option maxRecDepth 20000 in
theorem dX7_settle_57 : decode cX7_settle 57 = .ok (.aload_n 1, 1) := by decide +kernel
set_option maxRecDepth 20000 in
theorem dX7_settle_58 : decode cX7_settle 58 = .ok (.iload_n 2, 1) := by decide +kernel
set_option maxRecDepth 20000 in
theorem dX7_settle_59 : decode cX7_settle 59 = .ok (.iload 4, 2) := by decide +kernel
set_option maxRecDepth 20000 in
theorem dX7_settle_61 : decode cX7_settle 61 = .ok (.iconst 2, 1) := by decide +kernel
set_option maxRecDepth 20000 in
theorem dX7_settle_62 : decode cX7_settle 62 = .ok (.invokestatic 39, 3) := by decide +kernel
set_option maxRecDepth 20000 in
theorem dX7_settle_65 : decode cX7_settle 65 = .ok (.iadd, 1) := by decide +kernel
set_option maxRecDepth 20000 in
theorem dX7_settle_66 : decode cX7_settle 66 = .ok (.invokevirtual 42, 3) := by decide +kernel
set_option maxRecDepth 20000 in
theorem dX7_settle_69 : decode cX7_settle 69 = .ok (.bipush 48, 2) := by decide +kernel
set_option maxRecDepth 20000 in
theorem dX7_settle_71 : decode cX7_settle 71 = .ok (.isub, 1) := by decide +kernel
set_option maxRecDepth 20000 in
theorem dX7_settle_72 : decode cX7_settle 72 = .ok (.istore 7, 2) := by decide +kernel
set_option maxRecDepth 20000 in
theorem dX7_settle_74 : decode cX7_settle 74 = .ok (.aload_n 1, 1) := by decide +kernel
set_option maxRecDepth 20000 in
theorem dX7_settle_75 : decode cX7_settle 75 = .ok (.iload_n 2, 1) := by decide +kernel
set_option maxRecDepth 20000 in
theorem dX7_settle_76 : decode cX7_settle 76 = .ok (.iload 4, 2) := by decide +kernel
set_option maxRecDepth 20000 in
theorem dX7_settle_78 : decode cX7_settle 78 = .ok (.iconst 3, 1) := by decide +kernel
set_option maxRecDepth 20000 in
theorem dX7_settle_79 : decode cX7_settle 79 = .ok (.invokestatic 39, 3) := by decide +kernel
set_option maxRecDepth 20000 in
theorem dX7_settle_82 : decode cX7_settle 82 = .ok (.iadd, 1) := by decide +kernel
set_option maxRecDepth 20000 in
theorem dX7_settle_83 : decode cX7_settle 83 = .ok (.invokevirtual 42, 3) := by decide +kernel
set_option maxRecDepth 20000 in
theorem dX7_settle_86 : decode cX7_settle 86 = .ok (.bipush 48, 2) := by decide +kernel
set_option maxRecDepth 20000 in
theorem dX7_settle_88 : decode cX7_settle 88 = .ok (.isub, 1) := by decide +kernel
set_option maxRecDepth 20000 in
theorem dX7_settle_89 : decode cX7_settle 89 = .ok (.istore 8, 2) := by decide +kernel
set_option maxRecDepth 20000 in
theorem dX7_settle_91 : decode cX7_settle 91 = .ok (.aload_n 1, 1) := by decide +kernel
set_option maxRecDepth 20000 in
theorem dX7_settle_92 : decode cX7_settle 92 = .ok (.iload_n 2, 1) := by decide +kernel
set_option maxRecDepth 20000 in
theorem dX7_settle_93 : decode cX7_settle 93 = .ok (.iload 4, 2) := by decide +kernel
set_option maxRecDepth 20000 in
theorem dX7_settle_95 : decode cX7_settle 95 = .ok (.iconst 4, 1) := by decide +kernel
set_option maxRecDepth 20000 in
theorem dX7_settle_96 : decode cX7_settle 96 = .ok (.invokestatic 39, 3) := by decide +kernel
set_option maxRecDepth 20000 in
theorem dX7_settle_99 : decode cX7_settle 99 = .ok (.iadd, 1) := by decide +kernel
set_option maxRecDepth 20000 in
theorem dX7_settle_100 : decode cX7_settle 100 = .ok (.invokevirtual 42, 3) := by decide +kernel
set_option maxRecDepth 20000 in
theorem dX7_settle_103 : decode cX7_settle 103 = .ok (.bipush 48, 2) := by decide +kernel
set_option maxRecDepth 20000 in
theorem dX7_settle_105 : decode cX7_settle 105 = .ok (.isub, 1) := by decide +kernel
set_option maxRecDepth 20000 in
theorem dX7_settle_106 : decode cX7_settle 106 = .ok (.istore 9, 2) := by decide +kernel
set_option maxRecDepth 20000 in
theorem dX7_settle_108 : decode cX7_settle 108 = .ok (.aload 5, 2) := by decide +kernel
set_option maxRecDepth 20000 in
theorem dX7_settle_110 : decode cX7_settle 110 = .ok (.iload 6, 2) := by decide +kernel
set_option maxRecDepth 20000 in
theorem dX7_settle_112 : decode cX7_settle 112 = .ok (.iload 7, 2) := by decide +kernel
set_option maxRecDepth 20000 in
theorem dX7_settle_114 : decode cX7_settle 114 = .ok (.iload 8, 2) := by decide +kernel
set_option maxRecDepth 20000 in
theorem dX7_settle_116 : decode cX7_settle 116 = .ok (.iload 9, 2) := by decide +kernel
set_option maxRecDepth 20000 in
theorem dX7_settle_118 : decode cX7_settle 118 = .ok (.invokevirtual 51, 3) := by decide +kernel
set_option maxRecDepth 20000 in
theorem dX7_settle_121 : decode cX7_settle 121 = .ok (.iinc 4 1, 3) := by decide +kernel
set_option maxRecDepth 20000 in
theorem dX7_settle_124 : decode cX7_settle 124 = .ok (.goto (-106), 3) := by decide +kernel
set_option maxRecDepth 20000 in
theorem dX7_settle_127 : decode cX7_settle 127 = .ok (.return_, 1) := by decide +kernel
set_option maxRecDepth 20000 in
theorem dX7_thingAt_0 : decode cX7_thingAt 0 = .ok (.iload_n 1, 1) := by decide +kernel
set_option maxRecDepth 20000 in
theorem dX7_thingAt_1 : decode cX7_thingAt 1 = .ok (.ifCond .lt 26, 3) := by decide +kernel
set_option maxRecDepth 20000 in
theorem dX7_thingAt_4 : decode cX7_thingAt 4 = .ok (.iload_n 1, 1) := by decide +kernel
set_option maxRecDepth 20000 in
theorem dX7_thingAt_5 : decode cX7_thingAt 5 = .ok (.aload_n 0, 1) := by decide +kernel
set_option maxRecDepth 20000 in
theorem dX7_thingAt_6 : decode cX7_thingAt 6 = .ok (.getfield 17, 3) := by decide +kernel
set_option maxRecDepth 20000 in
theorem dX7_thingAt_9 : decode cX7_thingAt 9 = .ok (.if_icmp .ge 18, 3) := by decide +kernel
set_option maxRecDepth 20000 in
theorem dX7_thingAt_12 : decode cX7_thingAt 12 = .ok (.iload_n 1, 1) := by decide +kernel
set_option maxRecDepth 20000 in
theorem dX7_thingAt_13 : decode cX7_thingAt 13 = .ok (.bipush 8, 2) := by decide +kernel
set_option maxRecDepth 20000 in
theorem dX7_thingAt_15 : decode cX7_thingAt 15 = .ok (.if_icmp .ge 12, 3) := by decide +kernel
set_option maxRecDepth 20000 in
theorem dX7_thingAt_18 : decode cX7_thingAt 18 = .ok (.aload_n 0, 1) := by decide +kernel
set_option maxRecDepth 20000 in
theorem dX7_thingAt_19 : decode cX7_thingAt 19 = .ok (.getfield 11, 3) := by decide +kernel
set_option maxRecDepth 20000 in
theorem dX7_thingAt_22 : decode cX7_thingAt 22 = .ok (.iload_n 1, 1) := by decide +kernel
set_option maxRecDepth 20000 in
theorem dX7_thingAt_23 : decode cX7_thingAt 23 = .ok (.aaload, 1) := by decide +kernel
set_option maxRecDepth 20000 in
theorem dX7_thingAt_24 : decode cX7_thingAt 24 = .ok (.goto 4, 3) := by decide +kernel
set_option maxRecDepth 20000 in
theorem dX7_thingAt_27 : decode cX7_thingAt 27 = .ok (.aconst_null, 1) := by decide +kernel
set_option maxRecDepth 20000 in
theorem dX7_thingAt_28 : decode cX7_thingAt 28 = .ok (.areturn, 1) := by decide +kernel
set_option maxRecDepth 20000 in
theorem dX7_sets_0 : decode cX7_sets 0 = .ok (.iconst 1, 1) := by decide +kernel
set_option maxRecDepth 20000 in
theorem dX7_sets_1 : decode cX7_sets 1 = .ok (.aload_n 0, 1) := by decide +kernel
set_option maxRecDepth 20000 in
theorem dX7_sets_2 : decode cX7_sets 2 = .ok (.getfield 17, 3) := by decide +kernel
set_option maxRecDepth 20000 in
theorem dX7_sets_5 : decode cX7_sets 5 = .ok (.ishl, 1) := by decide +kernel
set_option maxRecDepth 20000 in
theorem dX7_sets_6 : decode cX7_sets 6 = .ok (.ireturn, 1) := by decide +kernel
set_option maxRecDepth 20000 in
theorem dX7_comesToItself_0 : decode cX7_comesToItself 0 = .ok (.aload_n 0, 1) := by decide +kernel
set_option maxRecDepth 20000 in
theorem dX7_comesToItself_1 : decode cX7_comesToItself 1 = .ok (.iload_n 1, 1) := by decide +kernel
set_option maxRecDepth 20000 in
theorem dX7_comesToItself_2 : decode cX7_comesToItself 2 = .ok (.invokevirtual 33, 3) := by decide +kernel
set_option maxRecDepth 20000 in
theorem dX7_comesToItself_5 : decode cX7_comesToItself 5 = .ok (.astore_n 2, 1) := by decide +kernel
set_option maxRecDepth 20000 in
theorem dX7_comesToItself_6 : decode cX7_comesToItself 6 = .ok (.iconst 0, 1) := by decide +kernel
set_option maxRecDepth 20000 in
theorem dX7_comesToItself_7 : decode cX7_comesToItself 7 = .ok (.istore_n 3, 1) := by decide +kernel
set_option maxRecDepth 20000 in
theorem dX7_comesToItself_8 : decode cX7_comesToItself 8 = .ok (.iload_n 3, 1) := by decide +kernel
set_option maxRecDepth 20000 in
theorem dX7_comesToItself_9 : decode cX7_comesToItself 9 = .ok (.aload_n 0, 1) := by decide +kernel
set_option maxRecDepth 20000 in
theorem dX7_comesToItself_10 : decode cX7_comesToItself 10 = .ok (.getfield 17, 3) := by decide +kernel
set_option maxRecDepth 20000 in
theorem dX7_comesToItself_13 : decode cX7_comesToItself 13 = .ok (.if_icmp .ge 32, 3) := by decide +kernel
set_option maxRecDepth 20000 in
theorem dX7_comesToItself_16 : decode cX7_comesToItself 16 = .ok (.aload_n 2, 1) := by decide +kernel
set_option maxRecDepth 20000 in
theorem dX7_comesToItself_17 : decode cX7_comesToItself 17 = .ok (.ifnull 28, 3) := by decide +kernel
set_option maxRecDepth 20000 in
theorem dX7_comesToItself_20 : decode cX7_comesToItself 20 = .ok (.aload_n 2, 1) := by decide +kernel
set_option maxRecDepth 20000 in
theorem dX7_comesToItself_21 : decode cX7_comesToItself 21 = .ok (.getfield 55, 3) := by decide +kernel
set_option maxRecDepth 20000 in
theorem dX7_comesToItself_24 : decode cX7_comesToItself 24 = .ok (.iload_n 1, 1) := by decide +kernel
set_option maxRecDepth 20000 in
theorem dX7_comesToItself_25 : decode cX7_comesToItself 25 = .ok (.if_icmp .ne 5, 3) := by decide +kernel
set_option maxRecDepth 20000 in
theorem dX7_comesToItself_28 : decode cX7_comesToItself 28 = .ok (.iconst 1, 1) := by decide +kernel
set_option maxRecDepth 20000 in
theorem dX7_comesToItself_29 : decode cX7_comesToItself 29 = .ok (.ireturn, 1) := by decide +kernel
set_option maxRecDepth 20000 in
theorem dX7_comesToItself_30 : decode cX7_comesToItself 30 = .ok (.aload_n 0, 1) := by decide +kernel
set_option maxRecDepth 20000 in
theorem dX7_comesToItself_31 : decode cX7_comesToItself 31 = .ok (.aload_n 2, 1) := by decide +kernel
set_option maxRecDepth 20000 in
theorem dX7_comesToItself_32 : decode cX7_comesToItself 32 = .ok (.getfield 55, 3) := by decide +kernel
set_option maxRecDepth 20000 in
theorem dX7_comesToItself_35 : decode cX7_comesToItself 35 = .ok (.invokevirtual 33, 3) := by decide +kernel
set_option maxRecDepth 20000 in
theorem dX7_comesToItself_38 : decode cX7_comesToItself 38 = .ok (.astore_n 2, 1) := by decide +kernel
set_option maxRecDepth 20000 in
theorem dX7_comesToItself_39 : decode cX7_comesToItself 39 = .ok (.iinc 3 1, 3) := by decide +kernel
set_option maxRecDepth 20000 in
theorem dX7_comesToItself_42 : decode cX7_comesToItself 42 = .ok (.goto (-34), 3) := by decide +kernel
set_option maxRecDepth 20000 in
theorem dX7_comesToItself_45 : decode cX7_comesToItself 45 = .ok (.iconst 0, 1) := by decide +kernel
set_option maxRecDepth 20000 in
theorem dX7_comesToItself_46 : decode cX7_comesToItself 46 = .ok (.ireturn, 1) := by decide +kernel
set_option maxRecDepth 20000 in
theorem dX8_init_0 : decode cX8_init 0 = .ok (.aload_n 0, 1) := by decide +kernel
set_option maxRecDepth 20000 in
theorem dX8_init_1 : decode cX8_init 1 = .ok (.invokespecial 3, 3) := by decide +kernel
set_option maxRecDepth 20000 in
theorem dX8_init_4 : decode cX8_init 4 = .ok (.aload_n 0, 1) := by decide +kernel
set_option maxRecDepth 20000 in
theorem dX8_init_5 : decode cX8_init 5 = .ok (.iconst 0, 1) := by decide +kernel
set_option maxRecDepth 20000 in
theorem dX8_init_6 : decode cX8_init 6 = .ok (.putfield 9, 3) := by decide +kernel
set_option maxRecDepth 20000 in
theorem dX8_init_9 : decode cX8_init 9 = .ok (.aload_n 0, 1) := by decide +kernel
set_option maxRecDepth 20000 in
theorem dX8_init_10 : decode cX8_init 10 = .ok (.iconst 0, 1) := by decide +kernel
set_option maxRecDepth 20000 in
theorem dX8_init_11 : decode cX8_init 11 = .ok (.putfield 15, 3) := by decide +kernel
set_option maxRecDepth 20000 in
theorem dX8_init_14 : decode cX8_init 14 = .ok (.aload_n 0, 1) := by decide +kernel
set_option maxRecDepth 20000 in
theorem dX8_init_15 : decode cX8_init 15 = .ok (.bipush (-9), 2) := by decide +kernel
set_option maxRecDepth 20000 in
theorem dX8_init_17 : decode cX8_init 17 = .ok (.putfield 18, 3) := by decide +kernel
set_option maxRecDepth 20000 in
theorem dX8_init_20 : decode cX8_init 20 = .ok (.aload_n 0, 1) := by decide +kernel
set_option maxRecDepth 20000 in
theorem dX8_init_21 : decode cX8_init 21 = .ok (.iconst 0, 1) := by decide +kernel
set_option maxRecDepth 20000 in
theorem dX8_init_22 : decode cX8_init 22 = .ok (.putfield 21, 3) := by decide +kernel
set_option maxRecDepth 20000 in
theorem dX8_init_25 : decode cX8_init 25 = .ok (.aload_n 0, 1) := by decide +kernel
set_option maxRecDepth 20000 in
theorem dX8_init_26 : decode cX8_init 26 = .ok (.iconst 0, 1) := by decide +kernel
set_option maxRecDepth 20000 in
theorem dX8_init_27 : decode cX8_init 27 = .ok (.putfield 24, 3) := by decide +kernel
set_option maxRecDepth 20000 in
theorem dX8_init_30 : decode cX8_init 30 = .ok (.aload_n 0, 1) := by decide +kernel
set_option maxRecDepth 20000 in
theorem dX8_init_31 : decode cX8_init 31 = .ok (.bipush (-9), 2) := by decide +kernel
set_option maxRecDepth 20000 in
theorem dX8_init_33 : decode cX8_init 33 = .ok (.putfield 27, 3) := by decide +kernel
set_option maxRecDepth 20000 in
theorem dX8_init_36 : decode cX8_init 36 = .ok (.aload_n 0, 1) := by decide +kernel
set_option maxRecDepth 20000 in
theorem dX8_init_37 : decode cX8_init 37 = .ok (.bipush (-9), 2) := by decide +kernel
set_option maxRecDepth 20000 in
theorem dX8_init_39 : decode cX8_init 39 = .ok (.putfield 30, 3) := by decide +kernel
set_option maxRecDepth 20000 in
theorem dX8_init_42 : decode cX8_init 42 = .ok (.aload_n 0, 1) := by decide +kernel
set_option maxRecDepth 20000 in
theorem dX8_init_43 : decode cX8_init 43 = .ok (.aload_n 1, 1) := by decide +kernel
set_option maxRecDepth 20000 in
theorem dX8_init_44 : decode cX8_init 44 = .ok (.putfield 33, 3) := by decide +kernel
set_option maxRecDepth 20000 in
theorem dX8_init_47 : decode cX8_init 47 = .ok (.aload_n 0, 1) := by decide +kernel
set_option maxRecDepth 20000 in
theorem dX8_init_48 : decode cX8_init 48 = .ok (.aload_n 2, 1) := by decide +kernel
set_option maxRecDepth 20000 in
theorem dX8_init_49 : decode cX8_init 49 = .ok (.putfield 37, 3) := by decide +kernel
set_option maxRecDepth 20000 in
theorem dX8_init_52 : decode cX8_init 52 = .ok (.return_, 1) := by decide +kernel
set_option maxRecDepth 20000 in
theorem dX8_seekFrail_0 : decode cX8_seekFrail 0 = .ok (.aload_n 0, 1) := by decide +kernel
set_option maxRecDepth 20000 in
theorem dX8_seekFrail_1 : decode cX8_seekFrail 1 = .ok (.bipush (-9), 2) := by decide +kernel
set_option maxRecDepth 20000 in
theorem dX8_seekFrail_3 : decode cX8_seekFrail 3 = .ok (.putfield 9, 3) := by decide +kernel
set_option maxRecDepth 20000 in
theorem dX8_seekFrail_6 : decode cX8_seekFrail 6 = .ok (.aload_n 0, 1) := by decide +kernel
set_option maxRecDepth 20000 in
theorem dX8_seekFrail_7 : decode cX8_seekFrail 7 = .ok (.iconst 0, 1) := by decide +kernel
set_option maxRecDepth 20000 in
theorem dX8_seekFrail_8 : decode cX8_seekFrail 8 = .ok (.putfield 15, 3) := by decide +kernel
set_option maxRecDepth 20000 in
theorem dX8_seekFrail_11 : decode cX8_seekFrail 11 = .ok (.iconst 0, 1) := by decide +kernel
set_option maxRecDepth 20000 in
theorem dX8_seekFrail_12 : decode cX8_seekFrail 12 = .ok (.istore_n 2, 1) := by decide +kernel
set_option maxRecDepth 20000 in
theorem dX8_seekFrail_13 : decode cX8_seekFrail 13 = .ok (.iload_n 2, 1) := by decide +kernel
set_option maxRecDepth 20000 in
theorem dX8_seekFrail_14 : decode cX8_seekFrail 14 = .ok (.aload_n 0, 1) := by decide +kernel
set_option maxRecDepth 20000 in
theorem dX8_seekFrail_15 : decode cX8_seekFrail 15 = .ok (.getfield 33, 3) := by decide +kernel
set_option maxRecDepth 20000 in
theorem dX8_seekFrail_18 : decode cX8_seekFrail 18 = .ok (.invokevirtual 41, 3) := by decide +kernel
set_option maxRecDepth 20000 in
theorem dX8_seekFrail_21 : decode cX8_seekFrail 21 = .ok (.if_icmp .ge 79, 3) := by decide +kernel
set_option maxRecDepth 20000 in
theorem dX8_seekFrail_24 : decode cX8_seekFrail 24 = .ok (.iload_n 2, 1) := by decide +kernel
set_option maxRecDepth 20000 in
theorem dX8_seekFrail_25 : decode cX8_seekFrail 25 = .ok (.invokestatic 47, 3) := by decide +kernel
set_option maxRecDepth 20000 in
theorem dX8_seekFrail_28 : decode cX8_seekFrail 28 = .ok (.iload_n 1, 1) := by decide +kernel
set_option maxRecDepth 20000 in
theorem dX8_seekFrail_29 : decode cX8_seekFrail 29 = .ok (.if_icmp .eq 6, 3) := by decide +kernel
set_option maxRecDepth 20000 in
theorem dX8_seekFrail_32 : decode cX8_seekFrail 32 = .ok (.goto 62, 3) := by decide +kernel
set_option maxRecDepth 20000 in
theorem dX8_seekFrail_35 : decode cX8_seekFrail 35 = .ok (.aload_n 0, 1) := by decide +kernel
set_option maxRecDepth 20000 in
theorem dX8_seekFrail_36 : decode cX8_seekFrail 36 = .ok (.getfield 37, 3) := by decide +kernel
set_option maxRecDepth 20000 in
theorem dX8_seekFrail_39 : decode cX8_seekFrail 39 = .ok (.aload_n 0, 1) := by decide +kernel
set_option maxRecDepth 20000 in
theorem dX8_seekFrail_40 : decode cX8_seekFrail 40 = .ok (.getfield 33, 3) := by decide +kernel
set_option maxRecDepth 20000 in
theorem dX8_seekFrail_43 : decode cX8_seekFrail 43 = .ok (.getfield 53, 3) := by decide +kernel
set_option maxRecDepth 20000 in
theorem dX8_seekFrail_46 : decode cX8_seekFrail 46 = .ok (.iload_n 2, 1) := by decide +kernel
set_option maxRecDepth 20000 in
theorem dX8_seekFrail_47 : decode cX8_seekFrail 47 = .ok (.invokevirtual 56, 3) := by decide +kernel
set_option maxRecDepth 20000 in
theorem dX8_seekFrail_50 : decode cX8_seekFrail 50 = .ok (.aload_n 0, 1) := by decide +kernel
set_option maxRecDepth 20000 in
theorem dX8_seekFrail_51 : decode cX8_seekFrail 51 = .ok (.getfield 37, 3) := by decide +kernel
set_option maxRecDepth 20000 in
theorem dX8_seekFrail_54 : decode cX8_seekFrail 54 = .ok (.invokevirtual 62, 3) := by decide +kernel
set_option maxRecDepth 20000 in
theorem dX8_seekFrail_57 : decode cX8_seekFrail 57 = .ok (.invokestatic 47, 3) := by decide +kernel
set_option maxRecDepth 20000 in
theorem dX8_seekFrail_60 : decode cX8_seekFrail 60 = .ok (.istore_n 3, 1) := by decide +kernel
set_option maxRecDepth 20000 in
theorem dX8_seekFrail_61 : decode cX8_seekFrail 61 = .ok (.aload_n 0, 1) := by decide +kernel
set_option maxRecDepth 20000 in
theorem dX8_seekFrail_62 : decode cX8_seekFrail 62 = .ok (.getfield 9, 3) := by decide +kernel
set_option maxRecDepth 20000 in
theorem dX8_seekFrail_65 : decode cX8_seekFrail 65 = .ok (.bipush (-9), 2) := by decide +kernel
set_option maxRecDepth 20000 in
theorem dX8_seekFrail_67 : decode cX8_seekFrail 67 = .ok (.if_icmp .eq 11, 3) := by decide +kernel
set_option maxRecDepth 20000 in
theorem dX8_seekFrail_70 : decode cX8_seekFrail 70 = .ok (.iload_n 3, 1) := by decide +kernel
set_option maxRecDepth 20000 in
theorem dX8_seekFrail_71 : decode cX8_seekFrail 71 = .ok (.aload_n 0, 1) := by decide +kernel
set_option maxRecDepth 20000 in
theorem dX8_seekFrail_72 : decode cX8_seekFrail 72 = .ok (.getfield 15, 3) := by decide +kernel
set_option maxRecDepth 20000 in
theorem dX8_seekFrail_75 : decode cX8_seekFrail 75 = .ok (.if_icmp .le 13, 3) := by decide +kernel
set_option maxRecDepth 20000 in
theorem dX8_seekFrail_78 : decode cX8_seekFrail 78 = .ok (.aload_n 0, 1) := by decide +kernel
set_option maxRecDepth 20000 in
theorem dX8_seekFrail_79 : decode cX8_seekFrail 79 = .ok (.iload_n 2, 1) := by decide +kernel
set_option maxRecDepth 20000 in
theorem dX8_seekFrail_80 : decode cX8_seekFrail 80 = .ok (.putfield 9, 3) := by decide +kernel
set_option maxRecDepth 20000 in
theorem dX8_seekFrail_83 : decode cX8_seekFrail 83 = .ok (.aload_n 0, 1) := by decide +kernel
set_option maxRecDepth 20000 in
theorem dX8_seekFrail_84 : decode cX8_seekFrail 84 = .ok (.iload_n 3, 1) := by decide +kernel
set_option maxRecDepth 20000 in
theorem dX8_seekFrail_85 : decode cX8_seekFrail 85 = .ok (.putfield 15, 3) := by decide +kernel
set_option maxRecDepth 20000 in
theorem dX8_seekFrail_88 : decode cX8_seekFrail 88 = .ok (.iload_n 3, 1) := by decide +kernel
set_option maxRecDepth 20000 in
theorem dX8_seekFrail_89 : decode cX8_seekFrail 89 = .ok (.iload_n 1, 1) := by decide +kernel
set_option maxRecDepth 20000 in
theorem dX8_seekFrail_90 : decode cX8_seekFrail 90 = .ok (.if_icmp .ne 4, 3) := by decide +kernel
set_option maxRecDepth 20000 in
theorem dX8_seekFrail_93 : decode cX8_seekFrail 93 = .ok (.return_, 1) := by decide +kernel
set_option maxRecDepth 20000 in
theorem dX8_seekFrail_94 : decode cX8_seekFrail 94 = .ok (.iinc 2 1, 3) := by decide +kernel
set_option maxRecDepth 20000 in
theorem dX8_seekFrail_97 : decode cX8_seekFrail 97 = .ok (.goto (-84), 3) := by decide +kernel
set_option maxRecDepth 20000 in
theorem dX8_seekFrail_100 : decode cX8_seekFrail 100 = .ok (.return_, 1) := by decide +kernel
set_option maxRecDepth 20000 in
theorem dX8_plotOn_0 : decode cX8_plotOn 0 = .ok (.bipush (-9), 2) := by decide +kernel
set_option maxRecDepth 20000 in
theorem dX8_plotOn_2 : decode cX8_plotOn 2 = .ok (.istore_n 2, 1) := by decide +kernel
set_option maxRecDepth 20000 in
theorem dX8_plotOn_3 : decode cX8_plotOn 3 = .ok (.iconst 0, 1) := by decide +kernel
set_option maxRecDepth 20000 in
theorem dX8_plotOn_4 : decode cX8_plotOn 4 = .ok (.istore_n 3, 1) := by decide +kernel
set_option maxRecDepth 20000 in
theorem dX8_plotOn_5 : decode cX8_plotOn 5 = .ok (.iload_n 3, 1) := by decide +kernel
set_option maxRecDepth 20000 in
theorem dX8_plotOn_6 : decode cX8_plotOn 6 = .ok (.aload_n 0, 1) := by decide +kernel
set_option maxRecDepth 20000 in
theorem dX8_plotOn_7 : decode cX8_plotOn 7 = .ok (.getfield 33, 3) := by decide +kernel
set_option maxRecDepth 20000 in
theorem dX8_plotOn_10 : decode cX8_plotOn 10 = .ok (.invokevirtual 41, 3) := by decide +kernel
set_option maxRecDepth 20000 in
theorem dX8_plotOn_13 : decode cX8_plotOn 13 = .ok (.if_icmp .ge 47, 3) := by decide +kernel
set_option maxRecDepth 20000 in
theorem dX8_plotOn_16 : decode cX8_plotOn 16 = .ok (.aload_n 0, 1) := by decide +kernel
set_option maxRecDepth 20000 in
theorem dX8_plotOn_17 : decode cX8_plotOn 17 = .ok (.getfield 37, 3) := by decide +kernel
set_option maxRecDepth 20000 in
theorem dX8_plotOn_20 : decode cX8_plotOn 20 = .ok (.aload_n 0, 1) := by decide +kernel
set_option maxRecDepth 20000 in
theorem dX8_plotOn_21 : decode cX8_plotOn 21 = .ok (.getfield 33, 3) := by decide +kernel
set_option maxRecDepth 20000 in
theorem dX8_plotOn_24 : decode cX8_plotOn 24 = .ok (.getfield 53, 3) := by decide +kernel
set_option maxRecDepth 20000 in
theorem dX8_plotOn_27 : decode cX8_plotOn 27 = .ok (.iload_n 3, 1) := by decide +kernel
set_option maxRecDepth 20000 in
theorem dX8_plotOn_28 : decode cX8_plotOn 28 = .ok (.invokevirtual 56, 3) := by decide +kernel
set_option maxRecDepth 20000 in
theorem dX8_plotOn_31 : decode cX8_plotOn 31 = .ok (.aload_n 0, 1) := by decide +kernel
set_option maxRecDepth 20000 in
theorem dX8_plotOn_32 : decode cX8_plotOn 32 = .ok (.getfield 37, 3) := by decide +kernel
set_option maxRecDepth 20000 in
theorem dX8_plotOn_35 : decode cX8_plotOn 35 = .ok (.iload_n 1, 1) := by decide +kernel
set_option maxRecDepth 20000 in
theorem dX8_plotOn_36 : decode cX8_plotOn 36 = .ok (.invokevirtual 65, 3) := by decide +kernel
set_option maxRecDepth 20000 in
theorem dX8_plotOn_39 : decode cX8_plotOn 39 = .ok (.bipush (-9), 2) := by decide +kernel
set_option maxRecDepth 20000 in
theorem dX8_plotOn_41 : decode cX8_plotOn 41 = .ok (.if_icmp .ne 13, 3) := by decide +kernel
set_option maxRecDepth 20000 in
theorem dX8_plotOn_44 : decode cX8_plotOn 44 = .ok (.iload_n 3, 1) := by decide +kernel
set_option maxRecDepth 20000 in
theorem dX8_plotOn_45 : decode cX8_plotOn 45 = .ok (.iload_n 2, 1) := by decide +kernel
set_option maxRecDepth 20000 in
theorem dX8_plotOn_46 : decode cX8_plotOn 46 = .ok (.invokestatic 68, 3) := by decide +kernel
set_option maxRecDepth 20000 in
theorem dX8_plotOn_49 : decode cX8_plotOn 49 = .ok (.ifCond .eq 5, 3) := by decide +kernel
set_option maxRecDepth 20000 in
theorem dX8_plotOn_52 : decode cX8_plotOn 52 = .ok (.iload_n 3, 1) := by decide +kernel
set_option maxRecDepth 20000 in
theorem dX8_plotOn_53 : decode cX8_plotOn 53 = .ok (.istore_n 2, 1) := by decide +kernel
set_option maxRecDepth 20000 in
theorem dX8_plotOn_54 : decode cX8_plotOn 54 = .ok (.iinc 3 1, 3) := by decide +kernel
set_option maxRecDepth 20000 in
theorem dX8_plotOn_57 : decode cX8_plotOn 57 = .ok (.goto (-52), 3) := by decide +kernel
set_option maxRecDepth 20000 in
theorem dX8_plotOn_60 : decode cX8_plotOn 60 = .ok (.iload_n 2, 1) := by decide +kernel
set_option maxRecDepth 20000 in
theorem dX8_plotOn_61 : decode cX8_plotOn 61 = .ok (.ireturn, 1) := by decide +kernel
set_option maxRecDepth 20000 in
theorem dX8_seekMend_0 : decode cX8_seekMend 0 = .ok (.aload_n 0, 1) := by decide +kernel
set_option maxRecDepth 20000 in
theorem dX8_seekMend_1 : decode cX8_seekMend 1 = .ok (.iconst 2, 1) := by decide +kernel
set_option maxRecDepth 20000 in
theorem dX8_seekMend_2 : decode cX8_seekMend 2 = .ok (.invokevirtual 72, 3) := by decide +kernel
set_option maxRecDepth 20000 in
theorem dX8_seekMend_5 : decode cX8_seekMend 5 = .ok (.aload_n 0, 1) := by decide +kernel
set_option maxRecDepth 20000 in
theorem dX8_seekMend_6 : decode cX8_seekMend 6 = .ok (.bipush (-9), 2) := by decide +kernel
set_option maxRecDepth 20000 in
theorem dX8_seekMend_8 : decode cX8_seekMend 8 = .ok (.putfield 18, 3) := by decide +kernel
set_option maxRecDepth 20000 in
theorem dX8_seekMend_11 : decode cX8_seekMend 11 = .ok (.aload_n 0, 1) := by decide +kernel
set_option maxRecDepth 20000 in
theorem dX8_seekMend_12 : decode cX8_seekMend 12 = .ok (.aload_n 0, 1) := by decide +kernel
set_option maxRecDepth 20000 in
theorem dX8_seekMend_13 : decode cX8_seekMend 13 = .ok (.getfield 15, 3) := by decide +kernel
set_option maxRecDepth 20000 in
theorem dX8_seekMend_16 : decode cX8_seekMend 16 = .ok (.putfield 21, 3) := by decide +kernel
set_option maxRecDepth 20000 in
theorem dX8_seekMend_19 : decode cX8_seekMend 19 = .ok (.iconst 0, 1) := by decide +kernel
set_option maxRecDepth 20000 in
theorem dX8_seekMend_20 : decode cX8_seekMend 20 = .ok (.istore_n 1, 1) := by decide +kernel
set_option maxRecDepth 20000 in
theorem dX8_seekMend_21 : decode cX8_seekMend 21 = .ok (.iload_n 1, 1) := by decide +kernel
set_option maxRecDepth 20000 in
theorem dX8_seekMend_22 : decode cX8_seekMend 22 = .ok (.aload_n 0, 1) := by decide +kernel
set_option maxRecDepth 20000 in
theorem dX8_seekMend_23 : decode cX8_seekMend 23 = .ok (.getfield 33, 3) := by decide +kernel
set_option maxRecDepth 20000 in
theorem dX8_seekMend_26 : decode cX8_seekMend 26 = .ok (.getfield 76, 3) := by decide +kernel
set_option maxRecDepth 20000 in
theorem dX8_seekMend_29 : decode cX8_seekMend 29 = .ok (.if_icmp .ge 103, 3) := by decide +kernel
set_option maxRecDepth 20000 in
theorem dX8_seekMend_32 : decode cX8_seekMend 32 = .ok (.aload_n 0, 1) := by decide +kernel
set_option maxRecDepth 20000 in
theorem dX8_seekMend_33 : decode cX8_seekMend 33 = .ok (.getfield 33, 3) := by decide +kernel
set_option maxRecDepth 20000 in
theorem dX8_seekMend_36 : decode cX8_seekMend 36 = .ok (.iload_n 1, 1) := by decide +kernel
set_option maxRecDepth 20000 in
theorem dX8_seekMend_37 : decode cX8_seekMend 37 = .ok (.invokevirtual 79, 3) := by decide +kernel
set_option maxRecDepth 20000 in
theorem dX8_seekMend_40 : decode cX8_seekMend 40 = .ok (.astore_n 2, 1) := by decide +kernel
set_option maxRecDepth 20000 in
theorem dX8_seekMend_41 : decode cX8_seekMend 41 = .ok (.aload_n 2, 1) := by decide +kernel
set_option maxRecDepth 20000 in
theorem dX8_seekMend_42 : decode cX8_seekMend 42 = .ok (.ifnonnull 8, 3) := by decide +kernel
set_option maxRecDepth 20000 in
theorem dX8_seekMend_45 : decode cX8_seekMend 45 = .ok (.bipush (-9), 2) := by decide +kernel
set_option maxRecDepth 20000 in
theorem dX8_seekMend_47 : decode cX8_seekMend 47 = .ok (.goto 7, 3) := by decide +kernel
set_option maxRecDepth 20000 in
theorem dX8_seekMend_50 : decode cX8_seekMend 50 = .ok (.aload_n 2, 1) := by decide +kernel
set_option maxRecDepth 20000 in
theorem dX8_seekMend_51 : decode cX8_seekMend 51 = .ok (.getfield 83, 3) := by decide +kernel
set_option maxRecDepth 20000 in
theorem dX8_seekMend_54 : decode cX8_seekMend 54 = .ok (.istore_n 3, 1) := by decide +kernel
set_option maxRecDepth 20000 in
theorem dX8_seekMend_55 : decode cX8_seekMend 55 = .ok (.iconst 0, 1) := by decide +kernel
set_option maxRecDepth 20000 in
theorem dX8_seekMend_56 : decode cX8_seekMend 56 = .ok (.istore 4, 2) := by decide +kernel
set_option maxRecDepth 20000 in
theorem dX8_seekMend_58 : decode cX8_seekMend 58 = .ok (.iload 4, 2) := by decide +kernel
set_option maxRecDepth 20000 in
theorem dX8_seekMend_60 : decode cX8_seekMend 60 = .ok (.aload_n 0, 1) := by decide +kernel
set_option maxRecDepth 20000 in
theorem dX8_seekMend_61 : decode cX8_seekMend 61 = .ok (.getfield 33, 3) := by decide +kernel
set_option maxRecDepth 20000 in
theorem dX8_seekMend_64 : decode cX8_seekMend 64 = .ok (.getfield 76, 3) := by decide +kernel
set_option maxRecDepth 20000 in
theorem dX8_seekMend_67 : decode cX8_seekMend 67 = .ok (.if_icmp .ge 59, 3) := by decide +kernel
set_option maxRecDepth 20000 in
theorem dX8_seekMend_70 : decode cX8_seekMend 70 = .ok (.aload_n 2, 1) := by decide +kernel
set_option maxRecDepth 20000 in
theorem dX8_seekMend_71 : decode cX8_seekMend 71 = .ok (.ifnull 55, 3) := by decide +kernel
set_option maxRecDepth 20000 in
theorem dX8_seekMend_74 : decode cX8_seekMend 74 = .ok (.aload_n 0, 1) := by decide +kernel
set_option maxRecDepth 20000 in
theorem dX8_seekMend_75 : decode cX8_seekMend 75 = .ok (.getfield 21, 3) := by decide +kernel
set_option maxRecDepth 20000 in
theorem dX8_seekMend_78 : decode cX8_seekMend 78 = .ok (.ifCond .le 48, 3) := by decide +kernel
set_option maxRecDepth 20000 in
theorem dX8_seekMend_81 : decode cX8_seekMend 81 = .ok (.iload 4, 2) := by decide +kernel
set_option maxRecDepth 20000 in
theorem dX8_seekMend_83 : decode cX8_seekMend 83 = .ok (.iload_n 1, 1) := by decide +kernel
set_option maxRecDepth 20000 in
theorem dX8_seekMend_84 : decode cX8_seekMend 84 = .ok (.if_icmp .eq 36, 3) := by decide +kernel
set_option maxRecDepth 20000 in
theorem dX8_seekMend_87 : decode cX8_seekMend 87 = .ok (.iload 4, 2) := by decide +kernel
set_option maxRecDepth 20000 in
theorem dX8_seekMend_89 : decode cX8_seekMend 89 = .ok (.iload_n 3, 1) := by decide +kernel
set_option maxRecDepth 20000 in
theorem dX8_seekMend_90 : decode cX8_seekMend 90 = .ok (.if_icmp .eq 30, 3) := by decide +kernel
set_option maxRecDepth 20000 in
theorem dX8_seekMend_93 : decode cX8_seekMend 93 = .ok (.aload_n 2, 1) := by decide +kernel
set_option maxRecDepth 20000 in
theorem dX8_seekMend_94 : decode cX8_seekMend 94 = .ok (.iload 4, 2) := by decide +kernel
set_option maxRecDepth 20000 in
theorem dX8_seekMend_96 : decode cX8_seekMend 96 = .ok (.putfield 83, 3) := by decide +kernel
set_option maxRecDepth 20000 in
theorem dX8_seekMend_99 : decode cX8_seekMend 99 = .ok (.aload_n 0, 1) := by decide +kernel
set_option maxRecDepth 20000 in
theorem dX8_seekMend_100 : decode cX8_seekMend 100 = .ok (.iconst 2, 1) := by decide +kernel
set_option maxRecDepth 20000 in
theorem dX8_seekMend_101 : decode cX8_seekMend 101 = .ok (.invokevirtual 72, 3) := by decide +kernel
set_option maxRecDepth 20000 in
theorem dX8_seekMend_104 : decode cX8_seekMend 104 = .ok (.aload_n 0, 1) := by decide +kernel
set_option maxRecDepth 20000 in
theorem dX8_seekMend_105 : decode cX8_seekMend 105 = .ok (.bipush 10, 2) := by decide +kernel
set_option maxRecDepth 20000 in
theorem dX8_seekMend_107 : decode cX8_seekMend 107 = .ok (.iload_n 1, 1) := by decide +kernel
set_option maxRecDepth 20000 in
theorem dX8_seekMend_108 : decode cX8_seekMend 108 = .ok (.imul, 1) := by decide +kernel
set_option maxRecDepth 20000 in
theorem dX8_seekMend_109 : decode cX8_seekMend 109 = .ok (.iload 4, 2) := by decide +kernel
set_option maxRecDepth 20000 in
theorem dX8_seekMend_111 : decode cX8_seekMend 111 = .ok (.iadd, 1) := by decide +kernel
set_option maxRecDepth 20000 in
theorem dX8_seekMend_112 : decode cX8_seekMend 112 = .ok (.invokevirtual 88, 3) := by decide +kernel
set_option maxRecDepth 20000 in
theorem dX8_seekMend_115 : decode cX8_seekMend 115 = .ok (.aload_n 2, 1) := by decide +kernel
set_option maxRecDepth 20000 in
theorem dX8_seekMend_116 : decode cX8_seekMend 116 = .ok (.iload_n 3, 1) := by decide +kernel
set_option maxRecDepth 20000 in
theorem dX8_seekMend_117 : decode cX8_seekMend 117 = .ok (.putfield 83, 3) := by decide +kernel
set_option maxRecDepth 20000 in
theorem dX8_seekMend_120 : decode cX8_seekMend 120 = .ok (.iinc 4 1, 3) := by decide +kernel
set_option maxRecDepth 20000 in
theorem dX8_seekMend_123 : decode cX8_seekMend 123 = .ok (.goto (-65), 3) := by decide +kernel
set_option maxRecDepth 20000 in
theorem dX8_seekMend_126 : decode cX8_seekMend 126 = .ok (.iinc 1 1, 3) := by decide +kernel
set_option maxRecDepth 20000 in
theorem dX8_seekMend_129 : decode cX8_seekMend 129 = .ok (.goto (-108), 3) := by decide +kernel
set_option maxRecDepth 20000 in
theorem dX8_seekMend_132 : decode cX8_seekMend 132 = .ok (.return_, 1) := by decide +kernel
set_option maxRecDepth 20000 in
theorem dX8_keepMend_0 : decode cX8_keepMend 0 = .ok (.aload_n 0, 1) := by decide +kernel
set_option maxRecDepth 20000 in
theorem dX8_keepMend_1 : decode cX8_keepMend 1 = .ok (.getfield 15, 3) := by decide +kernel
set_option maxRecDepth 20000 in
theorem dX8_keepMend_4 : decode cX8_keepMend 4 = .ok (.aload_n 0, 1) := by decide +kernel
set_option maxRecDepth 20000 in
theorem dX8_keepMend_5 : decode cX8_keepMend 5 = .ok (.getfield 21, 3) := by decide +kernel
set_option maxRecDepth 20000 in
theorem dX8_keepMend_8 : decode cX8_keepMend 8 = .ok (.if_icmp .ge 16, 3) := by decide +kernel
set_option maxRecDepth 20000 in
theorem dX8_keepMend_11 : decode cX8_keepMend 11 = .ok (.aload_n 0, 1) := by decide +kernel
set_option maxRecDepth 20000 in
theorem dX8_keepMend_12 : decode cX8_keepMend 12 = .ok (.iload_n 1, 1) := by decide +kernel
set_option maxRecDepth 20000 in
theorem dX8_keepMend_13 : decode cX8_keepMend 13 = .ok (.putfield 18, 3) := by decide +kernel
set_option maxRecDepth 20000 in
theorem dX8_keepMend_16 : decode cX8_keepMend 16 = .ok (.aload_n 0, 1) := by decide +kernel
set_option maxRecDepth 20000 in
theorem dX8_keepMend_17 : decode cX8_keepMend 17 = .ok (.aload_n 0, 1) := by decide +kernel
set_option maxRecDepth 20000 in
theorem dX8_keepMend_18 : decode cX8_keepMend 18 = .ok (.getfield 15, 3) := by decide +kernel
set_option maxRecDepth 20000 in
theorem dX8_keepMend_21 : decode cX8_keepMend 21 = .ok (.putfield 21, 3) := by decide +kernel
set_option maxRecDepth 20000 in
theorem dX8_keepMend_24 : decode cX8_keepMend 24 = .ok (.return_, 1) := by decide +kernel
set_option maxRecDepth 20000 in
theorem dX8_seekFailed_0 : decode cX8_seekFailed 0 = .ok (.aload_n 0, 1) := by decide +kernel
set_option maxRecDepth 20000 in
theorem dX8_seekFailed_1 : decode cX8_seekFailed 1 = .ok (.iconst 0, 1) := by decide +kernel
set_option maxRecDepth 20000 in
theorem dX8_seekFailed_2 : decode cX8_seekFailed 2 = .ok (.putfield 24, 3) := by decide +kernel
set_option maxRecDepth 20000 in
theorem dX8_seekFailed_5 : decode cX8_seekFailed 5 = .ok (.aload_n 0, 1) := by decide +kernel
set_option maxRecDepth 20000 in
theorem dX8_seekFailed_6 : decode cX8_seekFailed 6 = .ok (.bipush (-9), 2) := by decide +kernel
set_option maxRecDepth 20000 in
theorem dX8_seekFailed_8 : decode cX8_seekFailed 8 = .ok (.putfield 27, 3) := by decide +kernel
set_option maxRecDepth 20000 in
theorem dX8_seekFailed_11 : decode cX8_seekFailed 11 = .ok (.aload_n 0, 1) := by decide +kernel
set_option maxRecDepth 20000 in
theorem dX8_seekFailed_12 : decode cX8_seekFailed 12 = .ok (.bipush (-9), 2) := by decide +kernel
set_option maxRecDepth 20000 in
theorem dX8_seekFailed_14 : decode cX8_seekFailed 14 = .ok (.putfield 30, 3) := by decide +kernel
set_option maxRecDepth 20000 in
theorem dX8_seekFailed_17 : decode cX8_seekFailed 17 = .ok (.iconst 0, 1) := by decide +kernel
set_option maxRecDepth 20000 in
theorem dX8_seekFailed_18 : decode cX8_seekFailed 18 = .ok (.istore_n 2, 1) := by decide +kernel
set_option maxRecDepth 20000 in
theorem dX8_seekFailed_19 : decode cX8_seekFailed 19 = .ok (.iload_n 2, 1) := by decide +kernel
set_option maxRecDepth 20000 in
theorem dX8_seekFailed_20 : decode cX8_seekFailed 20 = .ok (.aload_n 0, 1) := by decide +kernel
set_option maxRecDepth 20000 in
theorem dX8_seekFailed_21 : decode cX8_seekFailed 21 = .ok (.getfield 33, 3) := by decide +kernel
set_option maxRecDepth 20000 in
theorem dX8_seekFailed_24 : decode cX8_seekFailed 24 = .ok (.invokevirtual 41, 3) := by decide +kernel
set_option maxRecDepth 20000 in
theorem dX8_seekFailed_27 : decode cX8_seekFailed 27 = .ok (.if_icmp .ge 89, 3) := by decide +kernel
set_option maxRecDepth 20000 in
theorem dX8_seekFailed_30 : decode cX8_seekFailed 30 = .ok (.aload_n 0, 1) := by decide +kernel
set_option maxRecDepth 20000 in
theorem dX8_seekFailed_31 : decode cX8_seekFailed 31 = .ok (.getfield 37, 3) := by decide +kernel
set_option maxRecDepth 20000 in
theorem dX8_seekFailed_34 : decode cX8_seekFailed 34 = .ok (.aload_n 0, 1) := by decide +kernel
set_option maxRecDepth 20000 in
theorem dX8_seekFailed_35 : decode cX8_seekFailed 35 = .ok (.getfield 33, 3) := by decide +kernel
set_option maxRecDepth 20000 in
theorem dX8_seekFailed_38 : decode cX8_seekFailed 38 = .ok (.getfield 53, 3) := by decide +kernel
set_option maxRecDepth 20000 in
theorem dX8_seekFailed_41 : decode cX8_seekFailed 41 = .ok (.iload_n 2, 1) := by decide +kernel
set_option maxRecDepth 20000 in
theorem dX8_seekFailed_42 : decode cX8_seekFailed 42 = .ok (.invokevirtual 56, 3) := by decide +kernel
set_option maxRecDepth 20000 in
theorem dX8_seekFailed_45 : decode cX8_seekFailed 45 = .ok (.aload_n 1, 1) := by decide +kernel
set_option maxRecDepth 20000 in
theorem dX8_seekFailed_46 : decode cX8_seekFailed 46 = .ok (.aload_n 0, 1) := by decide +kernel
set_option maxRecDepth 20000 in
theorem dX8_seekFailed_47 : decode cX8_seekFailed 47 = .ok (.getfield 37, 3) := by decide +kernel
set_option maxRecDepth 20000 in
theorem dX8_seekFailed_50 : decode cX8_seekFailed 50 = .ok (.invokevirtual 91, 3) := by decide +kernel
set_option maxRecDepth 20000 in
theorem dX8_seekFailed_53 : decode cX8_seekFailed 53 = .ok (.ifCond .eq 57, 3) := by decide +kernel
set_option maxRecDepth 20000 in
theorem dX8_seekFailed_56 : decode cX8_seekFailed 56 = .ok (.aload_n 0, 1) := by decide +kernel
set_option maxRecDepth 20000 in
theorem dX8_seekFailed_57 : decode cX8_seekFailed 57 = .ok (.aload_n 0, 1) := by decide +kernel
set_option maxRecDepth 20000 in
theorem dX8_seekFailed_58 : decode cX8_seekFailed 58 = .ok (.getfield 24, 3) := by decide +kernel
set_option maxRecDepth 20000 in
theorem dX8_seekFailed_61 : decode cX8_seekFailed 61 = .ok (.ifCond .ne 7, 3) := by decide +kernel
set_option maxRecDepth 20000 in
theorem dX8_seekFailed_64 : decode cX8_seekFailed 64 = .ok (.iload_n 2, 1) := by decide +kernel
set_option maxRecDepth 20000 in
theorem dX8_seekFailed_65 : decode cX8_seekFailed 65 = .ok (.goto 9, 3) := by decide +kernel
set_option maxRecDepth 20000 in
theorem dX8_seekFailed_68 : decode cX8_seekFailed 68 = .ok (.aload_n 0, 1) := by decide +kernel
set_option maxRecDepth 20000 in
theorem dX8_seekFailed_69 : decode cX8_seekFailed 69 = .ok (.getfield 30, 3) := by decide +kernel
set_option maxRecDepth 20000 in
theorem dX8_seekFailed_72 : decode cX8_seekFailed 72 = .ok (.iload_n 2, 1) := by decide +kernel
set_option maxRecDepth 20000 in
theorem dX8_seekFailed_73 : decode cX8_seekFailed 73 = .ok (.iand, 1) := by decide +kernel
set_option maxRecDepth 20000 in
theorem dX8_seekFailed_74 : decode cX8_seekFailed 74 = .ok (.putfield 30, 3) := by decide +kernel
set_option maxRecDepth 20000 in
theorem dX8_seekFailed_77 : decode cX8_seekFailed 77 = .ok (.aload_n 0, 1) := by decide +kernel
set_option maxRecDepth 20000 in
theorem dX8_seekFailed_78 : decode cX8_seekFailed 78 = .ok (.dup, 1) := by decide +kernel
set_option maxRecDepth 20000 in
theorem dX8_seekFailed_79 : decode cX8_seekFailed 79 = .ok (.getfield 24, 3) := by decide +kernel
set_option maxRecDepth 20000 in
theorem dX8_seekFailed_82 : decode cX8_seekFailed 82 = .ok (.iconst 1, 1) := by decide +kernel
set_option maxRecDepth 20000 in
theorem dX8_seekFailed_83 : decode cX8_seekFailed 83 = .ok (.iadd, 1) := by decide +kernel
set_option maxRecDepth 20000 in
theorem dX8_seekFailed_84 : decode cX8_seekFailed 84 = .ok (.putfield 24, 3) := by decide +kernel
set_option maxRecDepth 20000 in
theorem dX8_seekFailed_87 : decode cX8_seekFailed 87 = .ok (.aload_n 0, 1) := by decide +kernel
set_option maxRecDepth 20000 in
theorem dX8_seekFailed_88 : decode cX8_seekFailed 88 = .ok (.iload_n 2, 1) := by decide +kernel
set_option maxRecDepth 20000 in
theorem dX8_seekFailed_89 : decode cX8_seekFailed 89 = .ok (.aload_n 0, 1) := by decide +kernel
set_option maxRecDepth 20000 in
theorem dX8_seekFailed_90 : decode cX8_seekFailed 90 = .ok (.getfield 27, 3) := by decide +kernel
set_option maxRecDepth 20000 in
theorem dX8_seekFailed_93 : decode cX8_seekFailed 93 = .ok (.invokestatic 68, 3) := by decide +kernel
set_option maxRecDepth 20000 in
theorem dX8_seekFailed_96 : decode cX8_seekFailed 96 = .ok (.ifCond .eq 7, 3) := by decide +kernel
set_option maxRecDepth 20000 in
theorem dX8_seekFailed_99 : decode cX8_seekFailed 99 = .ok (.iload_n 2, 1) := by decide +kernel
set_option maxRecDepth 20000 in
theorem dX8_seekFailed_100 : decode cX8_seekFailed 100 = .ok (.goto 7, 3) := by decide +kernel
set_option maxRecDepth 20000 in
theorem dX8_seekFailed_103 : decode cX8_seekFailed 103 = .ok (.aload_n 0, 1) := by decide +kernel
set_option maxRecDepth 20000 in
theorem dX8_seekFailed_104 : decode cX8_seekFailed 104 = .ok (.getfield 27, 3) := by decide +kernel
set_option maxRecDepth 20000 in
theorem dX8_seekFailed_107 : decode cX8_seekFailed 107 = .ok (.putfield 27, 3) := by decide +kernel
set_option maxRecDepth 20000 in
theorem dX8_seekFailed_110 : decode cX8_seekFailed 110 = .ok (.iinc 2 1, 3) := by decide +kernel
set_option maxRecDepth 20000 in
theorem dX8_seekFailed_113 : decode cX8_seekFailed 113 = .ok (.goto (-94), 3) := by decide +kernel
set_option maxRecDepth 20000 in
theorem dX8_seekFailed_116 : decode cX8_seekFailed 116 = .ok (.return_, 1) := by decide +kernel
set_option maxRecDepth 20000 in
theorem dX8_setsThatServe_0 : decode cX8_setsThatServe 0 = .ok (.iconst 0, 1) := by decide +kernel
set_option maxRecDepth 20000 in
theorem dX8_setsThatServe_1 : decode cX8_setsThatServe 1 = .ok (.istore_n 2, 1) := by decide +kernel
set_option maxRecDepth 20000 in
theorem dX8_setsThatServe_2 : decode cX8_setsThatServe 2 = .ok (.iconst 0, 1) := by decide +kernel
set_option maxRecDepth 20000 in
theorem dX8_setsThatServe_3 : decode cX8_setsThatServe 3 = .ok (.istore_n 3, 1) := by decide +kernel
set_option maxRecDepth 20000 in
theorem dX8_setsThatServe_4 : decode cX8_setsThatServe 4 = .ok (.iload_n 3, 1) := by decide +kernel
set_option maxRecDepth 20000 in
theorem dX8_setsThatServe_5 : decode cX8_setsThatServe 5 = .ok (.aload_n 0, 1) := by decide +kernel
set_option maxRecDepth 20000 in
theorem dX8_setsThatServe_6 : decode cX8_setsThatServe 6 = .ok (.getfield 33, 3) := by decide +kernel
set_option maxRecDepth 20000 in
theorem dX8_setsThatServe_9 : decode cX8_setsThatServe 9 = .ok (.invokevirtual 41, 3) := by decide +kernel
set_option maxRecDepth 20000 in
theorem dX8_setsThatServe_12 : decode cX8_setsThatServe 12 = .ok (.if_icmp .ge 40, 3) := by decide +kernel
set_option maxRecDepth 20000 in
theorem dX8_setsThatServe_15 : decode cX8_setsThatServe 15 = .ok (.aload_n 0, 1) := by decide +kernel
set_option maxRecDepth 20000 in
theorem dX8_setsThatServe_16 : decode cX8_setsThatServe 16 = .ok (.getfield 37, 3) := by decide +kernel
set_option maxRecDepth 20000 in
theorem dX8_setsThatServe_19 : decode cX8_setsThatServe 19 = .ok (.aload_n 0, 1) := by decide +kernel
set_option maxRecDepth 20000 in
theorem dX8_setsThatServe_20 : decode cX8_setsThatServe 20 = .ok (.getfield 33, 3) := by decide +kernel
set_option maxRecDepth 20000 in
theorem dX8_setsThatServe_23 : decode cX8_setsThatServe 23 = .ok (.getfield 53, 3) := by decide +kernel
set_option maxRecDepth 20000 in
theorem dX8_setsThatServe_26 : decode cX8_setsThatServe 26 = .ok (.iload_n 3, 1) := by decide +kernel
set_option maxRecDepth 20000 in
theorem dX8_setsThatServe_27 : decode cX8_setsThatServe 27 = .ok (.invokevirtual 56, 3) := by decide +kernel
set_option maxRecDepth 20000 in
theorem dX8_setsThatServe_30 : decode cX8_setsThatServe 30 = .ok (.aload_n 0, 1) := by decide +kernel
set_option maxRecDepth 20000 in
theorem dX8_setsThatServe_31 : decode cX8_setsThatServe 31 = .ok (.getfield 37, 3) := by decide +kernel
set_option maxRecDepth 20000 in
theorem dX8_setsThatServe_34 : decode cX8_setsThatServe 34 = .ok (.iload_n 1, 1) := by decide +kernel
set_option maxRecDepth 20000 in
theorem dX8_setsThatServe_35 : decode cX8_setsThatServe 35 = .ok (.invokevirtual 65, 3) := by decide +kernel
set_option maxRecDepth 20000 in
theorem dX8_setsThatServe_38 : decode cX8_setsThatServe 38 = .ok (.bipush (-9), 2) := by decide +kernel
set_option maxRecDepth 20000 in
theorem dX8_setsThatServe_40 : decode cX8_setsThatServe 40 = .ok (.if_icmp .eq 6, 3) := by decide +kernel
set_option maxRecDepth 20000 in
theorem dX8_setsThatServe_43 : decode cX8_setsThatServe 43 = .ok (.iinc 2 1, 3) := by decide +kernel
set_option maxRecDepth 20000 in
theorem dX8_setsThatServe_46 : decode cX8_setsThatServe 46 = .ok (.iinc 3 1, 3) := by decide +kernel
set_option maxRecDepth 20000 in
theorem dX8_setsThatServe_49 : decode cX8_setsThatServe 49 = .ok (.goto (-45), 3) := by decide +kernel
set_option maxRecDepth 20000 in
theorem dX8_setsThatServe_52 : decode cX8_setsThatServe 52 = .ok (.iload_n 2, 1) := by decide +kernel
set_option maxRecDepth 20000 in
theorem dX8_setsThatServe_53 : decode cX8_setsThatServe 53 = .ok (.ireturn, 1) := by decide +kernel
set_option maxRecDepth 20000 in
theorem dX8_isFewer_0 : decode cX8_isFewer 0 = .ok (.iload_n 1, 1) := by decide +kernel
set_option maxRecDepth 20000 in
theorem dX8_isFewer_1 : decode cX8_isFewer 1 = .ok (.bipush (-9), 2) := by decide +kernel
set_option maxRecDepth 20000 in
theorem dX8_isFewer_3 : decode cX8_isFewer 3 = .ok (.if_icmp .eq 14, 3) := by decide +kernel
set_option maxRecDepth 20000 in
theorem dX8_isFewer_6 : decode cX8_isFewer 6 = .ok (.iload_n 0, 1) := by decide +kernel
set_option maxRecDepth 20000 in
theorem dX8_isFewer_7 : decode cX8_isFewer 7 = .ok (.invokestatic 47, 3) := by decide +kernel
set_option maxRecDepth 20000 in
theorem dX8_isFewer_10 : decode cX8_isFewer 10 = .ok (.iload_n 1, 1) := by decide +kernel
set_option maxRecDepth 20000 in
theorem dX8_isFewer_11 : decode cX8_isFewer 11 = .ok (.invokestatic 47, 3) := by decide +kernel
set_option maxRecDepth 20000 in
theorem dX8_isFewer_14 : decode cX8_isFewer 14 = .ok (.if_icmp .ge 7, 3) := by decide +kernel
set_option maxRecDepth 20000 in
theorem dX8_isFewer_17 : decode cX8_isFewer 17 = .ok (.iconst 1, 1) := by decide +kernel
set_option maxRecDepth 20000 in
theorem dX8_isFewer_18 : decode cX8_isFewer 18 = .ok (.goto 4, 3) := by decide +kernel
set_option maxRecDepth 20000 in
theorem dX8_isFewer_21 : decode cX8_isFewer 21 = .ok (.iconst 0, 1) := by decide +kernel
set_option maxRecDepth 20000 in
theorem dX8_isFewer_22 : decode cX8_isFewer 22 = .ok (.ireturn, 1) := by decide +kernel
set_option maxRecDepth 20000 in
theorem dX9_init_0 : decode cX9_init 0 = .ok (.aload_n 0, 1) := by decide +kernel
set_option maxRecDepth 20000 in
theorem dX9_init_1 : decode cX9_init 1 = .ok (.invokespecial 3, 3) := by decide +kernel
set_option maxRecDepth 20000 in
theorem dX9_init_4 : decode cX9_init 4 = .ok (.aload_n 0, 1) := by decide +kernel
set_option maxRecDepth 20000 in
theorem dX9_init_5 : decode cX9_init 5 = .ok (.iconst 4, 1) := by decide +kernel
set_option maxRecDepth 20000 in
theorem dX9_init_6 : decode cX9_init 6 = .ok (.anewarray 11, 3) := by decide +kernel
set_option maxRecDepth 20000 in
theorem dX9_init_9 : decode cX9_init 9 = .ok (.putfield 13, 3) := by decide +kernel
set_option maxRecDepth 20000 in
theorem dX9_init_12 : decode cX9_init 12 = .ok (.aload_n 0, 1) := by decide +kernel
set_option maxRecDepth 20000 in
theorem dX9_init_13 : decode cX9_init 13 = .ok (.new 17, 3) := by decide +kernel
set_option maxRecDepth 20000 in
theorem dX9_init_16 : decode cX9_init 16 = .ok (.dup, 1) := by decide +kernel
set_option maxRecDepth 20000 in
theorem dX9_init_17 : decode cX9_init 17 = .ok (.invokespecial 19, 3) := by decide +kernel
set_option maxRecDepth 20000 in
theorem dX9_init_20 : decode cX9_init 20 = .ok (.putfield 20, 3) := by decide +kernel
set_option maxRecDepth 20000 in
theorem dX9_init_23 : decode cX9_init 23 = .ok (.aload_n 0, 1) := by decide +kernel
set_option maxRecDepth 20000 in
theorem dX9_init_24 : decode cX9_init 24 = .ok (.new 24, 3) := by decide +kernel
set_option maxRecDepth 20000 in
theorem dX9_init_27 : decode cX9_init 27 = .ok (.dup, 1) := by decide +kernel
set_option maxRecDepth 20000 in
theorem dX9_init_28 : decode cX9_init 28 = .ok (.invokespecial 26, 3) := by decide +kernel
set_option maxRecDepth 20000 in
theorem dX9_init_31 : decode cX9_init 31 = .ok (.putfield 27, 3) := by decide +kernel
set_option maxRecDepth 20000 in
theorem dX9_init_34 : decode cX9_init 34 = .ok (.aload_n 0, 1) := by decide +kernel
set_option maxRecDepth 20000 in
theorem dX9_init_35 : decode cX9_init 35 = .ok (.new 31, 3) := by decide +kernel
set_option maxRecDepth 20000 in
theorem dX9_init_38 : decode cX9_init 38 = .ok (.dup, 1) := by decide +kernel
set_option maxRecDepth 20000 in
theorem dX9_init_39 : decode cX9_init 39 = .ok (.invokespecial 33, 3) := by decide +kernel
set_option maxRecDepth 20000 in
theorem dX9_init_42 : decode cX9_init 42 = .ok (.putfield 34, 3) := by decide +kernel
set_option maxRecDepth 20000 in
theorem dX9_init_45 : decode cX9_init 45 = .ok (.aload_n 0, 1) := by decide +kernel
set_option maxRecDepth 20000 in
theorem dX9_init_46 : decode cX9_init 46 = .ok (.new 38, 3) := by decide +kernel
set_option maxRecDepth 20000 in
theorem dX9_init_49 : decode cX9_init 49 = .ok (.dup, 1) := by decide +kernel
set_option maxRecDepth 20000 in
theorem dX9_init_50 : decode cX9_init 50 = .ok (.aload_n 0, 1) := by decide +kernel
set_option maxRecDepth 20000 in
theorem dX9_init_51 : decode cX9_init 51 = .ok (.getfield 20, 3) := by decide +kernel
set_option maxRecDepth 20000 in
theorem dX9_init_54 : decode cX9_init 54 = .ok (.invokespecial 40, 3) := by decide +kernel
set_option maxRecDepth 20000 in
theorem dX9_init_57 : decode cX9_init 57 = .ok (.putfield 43, 3) := by decide +kernel
set_option maxRecDepth 20000 in
theorem dX9_init_60 : decode cX9_init 60 = .ok (.aload_n 0, 1) := by decide +kernel
set_option maxRecDepth 20000 in
theorem dX9_init_61 : decode cX9_init 61 = .ok (.new 47, 3) := by decide +kernel
set_option maxRecDepth 20000 in
theorem dX9_init_64 : decode cX9_init 64 = .ok (.dup, 1) := by decide +kernel
set_option maxRecDepth 20000 in
theorem dX9_init_65 : decode cX9_init 65 = .ok (.aload_n 0, 1) := by decide +kernel
set_option maxRecDepth 20000 in
theorem dX9_init_66 : decode cX9_init 66 = .ok (.getfield 20, 3) := by decide +kernel
set_option maxRecDepth 20000 in
theorem dX9_init_69 : decode cX9_init 69 = .ok (.aload_n 0, 1) := by decide +kernel
set_option maxRecDepth 20000 in
theorem dX9_init_70 : decode cX9_init 70 = .ok (.getfield 43, 3) := by decide +kernel
set_option maxRecDepth 20000 in
theorem dX9_init_73 : decode cX9_init 73 = .ok (.invokespecial 49, 3) := by decide +kernel
set_option maxRecDepth 20000 in
theorem dX9_init_76 : decode cX9_init 76 = .ok (.putfield 52, 3) := by decide +kernel
set_option maxRecDepth 20000 in
theorem dX9_init_79 : decode cX9_init 79 = .ok (.aload_n 0, 1) := by decide +kernel
set_option maxRecDepth 20000 in
theorem dX9_init_80 : decode cX9_init 80 = .ok (.new 56, 3) := by decide +kernel
set_option maxRecDepth 20000 in
theorem dX9_init_83 : decode cX9_init 83 = .ok (.dup, 1) := by decide +kernel
set_option maxRecDepth 20000 in
theorem dX9_init_84 : decode cX9_init 84 = .ok (.invokespecial 58, 3) := by decide +kernel
set_option maxRecDepth 20000 in
theorem dX9_init_87 : decode cX9_init 87 = .ok (.putfield 59, 3) := by decide +kernel
set_option maxRecDepth 20000 in
theorem dX9_init_90 : decode cX9_init 90 = .ok (.aload_n 0, 1) := by decide +kernel
set_option maxRecDepth 20000 in
theorem dX9_init_91 : decode cX9_init 91 = .ok (.iconst 0, 1) := by decide +kernel
set_option maxRecDepth 20000 in
theorem dX9_init_92 : decode cX9_init 92 = .ok (.putfield 63, 3) := by decide +kernel
set_option maxRecDepth 20000 in
theorem dX9_init_95 : decode cX9_init 95 = .ok (.iconst 0, 1) := by decide +kernel
set_option maxRecDepth 20000 in
theorem dX9_init_96 : decode cX9_init 96 = .ok (.istore_n 1, 1) := by decide +kernel
set_option maxRecDepth 20000 in
theorem dX9_init_97 : decode cX9_init 97 = .ok (.iload_n 1, 1) := by decide +kernel
set_option maxRecDepth 20000 in
theorem dX9_init_98 : decode cX9_init 98 = .ok (.iconst 4, 1) := by decide +kernel
set_option maxRecDepth 20000 in
theorem dX9_init_99 : decode cX9_init 99 = .ok (.if_icmp .ge 22, 3) := by decide +kernel
set_option maxRecDepth 20000 in
theorem dX9_init_102 : decode cX9_init 102 = .ok (.aload_n 0, 1) := by decide +kernel
set_option maxRecDepth 20000 in
theorem dX9_init_103 : decode cX9_init 103 = .ok (.getfield 13, 3) := by decide +kernel
set_option maxRecDepth 20000 in
theorem dX9_init_106 : decode cX9_init 106 = .ok (.iload_n 1, 1) := by decide +kernel
set_option maxRecDepth 20000 in
theorem dX9_init_107 : decode cX9_init 107 = .ok (.new 11, 3) := by decide +kernel
set_option maxRecDepth 20000 in
theorem dX9_init_110 : decode cX9_init 110 = .ok (.dup, 1) := by decide +kernel
set_option maxRecDepth 20000 in
theorem dX9_init_111 : decode cX9_init 111 = .ok (.invokespecial 67, 3) := by decide +kernel
set_option maxRecDepth 20000 in
theorem dX9_init_114 : decode cX9_init 114 = .ok (.aastore, 1) := by decide +kernel
set_option maxRecDepth 20000 in
theorem dX9_init_115 : decode cX9_init 115 = .ok (.iinc 1 1, 3) := by decide +kernel
set_option maxRecDepth 20000 in
theorem dX9_init_118 : decode cX9_init 118 = .ok (.goto (-21), 3) := by decide +kernel
set_option maxRecDepth 20000 in
theorem dX9_init_121 : decode cX9_init 121 = .ok (.return_, 1) := by decide +kernel
set_option maxRecDepth 20000 in
theorem dX9_town_0 : decode cX9_town 0 = .ok (.aload_n 0, 1) := by decide +kernel
set_option maxRecDepth 20000 in
theorem dX9_town_1 : decode cX9_town 1 = .ok (.iconst 0, 1) := by decide +kernel
set_option maxRecDepth 20000 in
theorem dX9_town_2 : decode cX9_town 2 = .ok (.putfield 63, 3) := by decide +kernel
set_option maxRecDepth 20000 in
theorem dX9_town_5 : decode cX9_town 5 = .ok (.aload_n 0, 1) := by decide +kernel
set_option maxRecDepth 20000 in
theorem dX9_town_6 : decode cX9_town 6 = .ok (.iload_n 1, 1) := by decide +kernel
set_option maxRecDepth 20000 in
theorem dX9_town_7 : decode cX9_town 7 = .ok (.invokevirtual 68, 3) := by decide +kernel
set_option maxRecDepth 20000 in
theorem dX9_town_10 : decode cX9_town 10 = .ok (.astore 5, 2) := by decide +kernel
set_option maxRecDepth 20000 in
theorem dX9_town_12 : decode cX9_town 12 = .ok (.aload 5, 2) := by decide +kernel
set_option maxRecDepth 20000 in
theorem dX9_town_14 : decode cX9_town 14 = .ok (.ifnonnull 5, 3) := by decide +kernel
set_option maxRecDepth 20000 in
theorem dX9_town_17 : decode cX9_town 17 = .ok (.iconst (-1), 1) := by decide +kernel
set_option maxRecDepth 20000 in
theorem dX9_town_18 : decode cX9_town 18 = .ok (.ireturn, 1) := by decide +kernel
set_option maxRecDepth 20000 in
theorem dX9_town_19 : decode cX9_town 19 = .ok (.iload_n 2, 1) := by decide +kernel
set_option maxRecDepth 20000 in
theorem dX9_town_20 : decode cX9_town 20 = .ok (.iconst 2, 1) := by decide +kernel
set_option maxRecDepth 20000 in
theorem dX9_town_21 : decode cX9_town 21 = .ok (.invokestatic 72, 3) := by decide +kernel
set_option maxRecDepth 20000 in
theorem dX9_town_24 : decode cX9_town 24 = .ok (.ifCond .eq 6, 3) := by decide +kernel
set_option maxRecDepth 20000 in
theorem dX9_town_27 : decode cX9_town 27 = .ok (.bipush (-2), 2) := by decide +kernel
set_option maxRecDepth 20000 in
theorem dX9_town_29 : decode cX9_town 29 = .ok (.ireturn, 1) := by decide +kernel
set_option maxRecDepth 20000 in
theorem dX9_town_30 : decode cX9_town 30 = .ok (.aload 5, 2) := by decide +kernel
set_option maxRecDepth 20000 in
theorem dX9_town_32 : decode cX9_town 32 = .ok (.iload_n 2, 1) := by decide +kernel
set_option maxRecDepth 20000 in
theorem dX9_town_33 : decode cX9_town 33 = .ok (.iload_n 3, 1) := by decide +kernel
set_option maxRecDepth 20000 in
theorem dX9_town_34 : decode cX9_town 34 = .ok (.iload 4, 2) := by decide +kernel
set_option maxRecDepth 20000 in
theorem dX9_town_36 : decode cX9_town 36 = .ok (.invokevirtual 76, 3) := by decide +kernel
set_option maxRecDepth 20000 in
theorem dX9_town_39 : decode cX9_town 39 = .ok (.istore 6, 2) := by decide +kernel
set_option maxRecDepth 20000 in
theorem dX9_town_41 : decode cX9_town 41 = .ok (.iload 6, 2) := by decide +kernel
set_option maxRecDepth 20000 in
theorem dX9_town_43 : decode cX9_town 43 = .ok (.ifCond .eq 10, 3) := by decide +kernel
set_option maxRecDepth 20000 in
theorem dX9_town_46 : decode cX9_town 46 = .ok (.aload_n 0, 1) := by decide +kernel
set_option maxRecDepth 20000 in
theorem dX9_town_47 : decode cX9_town 47 = .ok (.iload 6, 2) := by decide +kernel
set_option maxRecDepth 20000 in
theorem dX9_town_49 : decode cX9_town 49 = .ok (.invokevirtual 80, 3) := by decide +kernel
set_option maxRecDepth 20000 in
theorem dX9_town_52 : decode cX9_town 52 = .ok (.ireturn, 1) := by decide +kernel
set_option maxRecDepth 20000 in
theorem dX9_town_53 : decode cX9_town 53 = .ok (.aload 5, 2) := by decide +kernel
set_option maxRecDepth 20000 in
theorem dX9_town_55 : decode cX9_town 55 = .ok (.iload_n 3, 1) := by decide +kernel
set_option maxRecDepth 20000 in
theorem dX9_town_56 : decode cX9_town 56 = .ok (.iload 4, 2) := by decide +kernel
set_option maxRecDepth 20000 in
theorem dX9_town_58 : decode cX9_town 58 = .ok (.invokestatic 84, 3) := by decide +kernel
set_option maxRecDepth 20000 in
theorem dX9_town_61 : decode cX9_town 61 = .ok (.istore 7, 2) := by decide +kernel
set_option maxRecDepth 20000 in
theorem dX9_town_63 : decode cX9_town 63 = .ok (.iload 7, 2) := by decide +kernel
set_option maxRecDepth 20000 in
theorem dX9_town_65 : decode cX9_town 65 = .ok (.bipush (-9), 2) := by decide +kernel
set_option maxRecDepth 20000 in
theorem dX9_town_67 : decode cX9_town 67 = .ok (.if_icmp .eq 9, 3) := by decide +kernel
set_option maxRecDepth 20000 in
theorem dX9_town_70 : decode cX9_town 70 = .ok (.bipush (-100), 2) := by decide +kernel
set_option maxRecDepth 20000 in
theorem dX9_town_72 : decode cX9_town 72 = .ok (.iload 7, 2) := by decide +kernel
set_option maxRecDepth 20000 in
theorem dX9_town_74 : decode cX9_town 74 = .ok (.isub, 1) := by decide +kernel
set_option maxRecDepth 20000 in
theorem dX9_town_75 : decode cX9_town 75 = .ok (.ireturn, 1) := by decide +kernel
set_option maxRecDepth 20000 in
theorem dX9_town_76 : decode cX9_town 76 = .ok (.aload_n 0, 1) := by decide +kernel
set_option maxRecDepth 20000 in
theorem dX9_town_77 : decode cX9_town 77 = .ok (.getfield 20, 3) := by decide +kernel
set_option maxRecDepth 20000 in
theorem dX9_town_80 : decode cX9_town 80 = .ok (.aload 5, 2) := by decide +kernel
set_option maxRecDepth 20000 in
theorem dX9_town_82 : decode cX9_town 82 = .ok (.iload_n 3, 1) := by decide +kernel
set_option maxRecDepth 20000 in
theorem dX9_town_83 : decode cX9_town 83 = .ok (.iload 4, 2) := by decide +kernel
set_option maxRecDepth 20000 in
theorem dX9_town_85 : decode cX9_town 85 = .ok (.invokestatic 90, 3) := by decide +kernel
set_option maxRecDepth 20000 in
theorem dX9_town_88 : decode cX9_town 88 = .ok (.invokevirtual 93, 3) := by decide +kernel
set_option maxRecDepth 20000 in
theorem dX9_town_91 : decode cX9_town 91 = .ok (.aload_n 0, 1) := by decide +kernel
set_option maxRecDepth 20000 in
theorem dX9_town_92 : decode cX9_town 92 = .ok (.getfield 27, 3) := by decide +kernel
set_option maxRecDepth 20000 in
theorem dX9_town_95 : decode cX9_town 95 = .ok (.iconst 0, 1) := by decide +kernel
set_option maxRecDepth 20000 in
theorem dX9_town_96 : decode cX9_town 96 = .ok (.putfield 97, 3) := by decide +kernel
set_option maxRecDepth 20000 in
theorem dX9_town_99 : decode cX9_town 99 = .ok (.aload_n 0, 1) := by decide +kernel
set_option maxRecDepth 20000 in
theorem dX9_town_100 : decode cX9_town 100 = .ok (.getfield 34, 3) := by decide +kernel
set_option maxRecDepth 20000 in
theorem dX9_town_103 : decode cX9_town 103 = .ok (.iconst 0, 1) := by decide +kernel
set_option maxRecDepth 20000 in
theorem dX9_town_104 : decode cX9_town 104 = .ok (.putfield 100, 3) := by decide +kernel
set_option maxRecDepth 20000 in
theorem dX9_town_107 : decode cX9_town 107 = .ok (.aload_n 0, 1) := by decide +kernel
set_option maxRecDepth 20000 in
theorem dX9_town_108 : decode cX9_town 108 = .ok (.getfield 20, 3) := by decide +kernel
set_option maxRecDepth 20000 in
theorem dX9_town_111 : decode cX9_town 111 = .ok (.getfield 101, 3) := by decide +kernel
set_option maxRecDepth 20000 in
theorem dX9_town_114 : decode cX9_town 114 = .ok (.ireturn, 1) := by decide +kernel
set_option maxRecDepth 20000 in
theorem dX9_ofThing_0 : decode cX9_ofThing 0 = .ok (.aload_n 0, 1) := by decide +kernel
set_option maxRecDepth 20000 in
theorem dX9_ofThing_1 : decode cX9_ofThing 1 = .ok (.getfield 20, 3) := by decide +kernel
set_option maxRecDepth 20000 in
theorem dX9_ofThing_4 : decode cX9_ofThing 4 = .ok (.iload_n 1, 1) := by decide +kernel
set_option maxRecDepth 20000 in
theorem dX9_ofThing_5 : decode cX9_ofThing 5 = .ok (.invokevirtual 102, 3) := by decide +kernel
set_option maxRecDepth 20000 in
theorem dX9_ofThing_8 : decode cX9_ofThing 8 = .ok (.astore_n 3, 1) := by decide +kernel
set_option maxRecDepth 20000 in
theorem dX9_ofThing_9 : decode cX9_ofThing 9 = .ok (.aload_n 3, 1) := by decide +kernel
set_option maxRecDepth 20000 in
theorem dX9_ofThing_10 : decode cX9_ofThing 10 = .ok (.ifnonnull 5, 3) := by decide +kernel
set_option maxRecDepth 20000 in
theorem dX9_ofThing_13 : decode cX9_ofThing 13 = .ok (.iconst (-1), 1) := by decide +kernel
set_option maxRecDepth 20000 in
theorem dX9_ofThing_14 : decode cX9_ofThing 14 = .ok (.ireturn, 1) := by decide +kernel
set_option maxRecDepth 20000 in
theorem dX9_ofThing_15 : decode cX9_ofThing 15 = .ok (.iload_n 2, 1) := by decide +kernel
set_option maxRecDepth 20000 in
theorem dX9_ofThing_16 : decode cX9_ofThing 16 = .ok (.tableswitch 61 0 4 #[36, 41, 46, 51, 56], 36) := by decide +kernel
set_option maxRecDepth 20000 in
theorem dX9_ofThing_52 : decode cX9_ofThing 52 = .ok (.aload_n 3, 1) := by decide +kernel
set_option maxRecDepth 20000 in
theorem dX9_ofThing_53 : decode cX9_ofThing 53 = .ok (.getfield 106, 3) := by decide +kernel
set_option maxRecDepth 20000 in
theorem dX9_ofThing_56 : decode cX9_ofThing 56 = .ok (.ireturn, 1) := by decide +kernel
set_option maxRecDepth 20000 in
theorem dX9_ofThing_57 : decode cX9_ofThing 57 = .ok (.aload_n 3, 1) := by decide +kernel
set_option maxRecDepth 20000 in
theorem dX9_ofThing_58 : decode cX9_ofThing 58 = .ok (.getfield 111, 3) := by decide +kernel
set_option maxRecDepth 20000 in
theorem dX9_ofThing_61 : decode cX9_ofThing 61 = .ok (.ireturn, 1) := by decide +kernel
set_option maxRecDepth 20000 in
theorem dX9_ofThing_62 : decode cX9_ofThing 62 = .ok (.aload_n 3, 1) := by decide +kernel
set_option maxRecDepth 20000 in
theorem dX9_ofThing_63 : decode cX9_ofThing 63 = .ok (.getfield 114, 3) := by decide +kernel
set_option maxRecDepth 20000 in
theorem dX9_ofThing_66 : decode cX9_ofThing 66 = .ok (.ireturn, 1) := by decide +kernel
set_option maxRecDepth 20000 in
theorem dX9_ofThing_67 : decode cX9_ofThing 67 = .ok (.aload_n 3, 1) := by decide +kernel
set_option maxRecDepth 20000 in
theorem dX9_ofThing_68 : decode cX9_ofThing 68 = .ok (.getfield 117, 3) := by decide +kernel
set_option maxRecDepth 20000 in
theorem dX9_ofThing_71 : decode cX9_ofThing 71 = .ok (.ireturn, 1) := by decide +kernel
set_option maxRecDepth 20000 in
theorem dX9_ofThing_72 : decode cX9_ofThing 72 = .ok (.aload_n 3, 1) := by decide +kernel
set_option maxRecDepth 20000 in
theorem dX9_ofThing_73 : decode cX9_ofThing 73 = .ok (.getfield 120, 3) := by decide +kernel
set_option maxRecDepth 20000 in
theorem dX9_ofThing_76 : decode cX9_ofThing 76 = .ok (.ireturn, 1) := by decide +kernel
set_option maxRecDepth 20000 in
theorem dX9_ofThing_77 : decode cX9_ofThing 77 = .ok (.bipush (-2), 2) := by decide +kernel
set_option maxRecDepth 20000 in
theorem dX9_ofThing_79 : decode cX9_ofThing 79 = .ok (.ireturn, 1) := by decide +kernel
set_option maxRecDepth 20000 in
theorem dX9_law_0 : decode cX9_law 0 = .ok (.iload_n 1, 1) := by decide +kernel
set_option maxRecDepth 20000 in
theorem dX9_law_1 : decode cX9_law 1 = .ok (.iconst 2, 1) := by decide +kernel
set_option maxRecDepth 20000 in
theorem dX9_law_2 : decode cX9_law 2 = .ok (.invokestatic 72, 3) := by decide +kernel
set_option maxRecDepth 20000 in
theorem dX9_law_5 : decode cX9_law 5 = .ok (.ifCond .eq 6, 3) := by decide +kernel
set_option maxRecDepth 20000 in
theorem dX9_law_8 : decode cX9_law 8 = .ok (.bipush (-2), 2) := by decide +kernel
set_option maxRecDepth 20000 in
theorem dX9_law_10 : decode cX9_law 10 = .ok (.ireturn, 1) := by decide +kernel
set_option maxRecDepth 20000 in
theorem dX9_law_11 : decode cX9_law 11 = .ok (.aload_n 0, 1) := by decide +kernel
set_option maxRecDepth 20000 in
theorem dX9_law_12 : decode cX9_law 12 = .ok (.getfield 20, 3) := by decide +kernel
set_option maxRecDepth 20000 in
theorem dX9_law_15 : decode cX9_law 15 = .ok (.getfield 101, 3) := by decide +kernel
set_option maxRecDepth 20000 in
theorem dX9_law_18 : decode cX9_law 18 = .ok (.ifCond .ne 6, 3) := by decide +kernel
set_option maxRecDepth 20000 in
theorem dX9_law_21 : decode cX9_law 21 = .ok (.bipush (-3), 2) := by decide +kernel
set_option maxRecDepth 20000 in
theorem dX9_law_23 : decode cX9_law 23 = .ok (.ireturn, 1) := by decide +kernel
set_option maxRecDepth 20000 in
theorem dX9_law_24 : decode cX9_law 24 = .ok (.aload_n 0, 1) := by decide +kernel
set_option maxRecDepth 20000 in
theorem dX9_law_25 : decode cX9_law 25 = .ok (.getfield 20, 3) := by decide +kernel
set_option maxRecDepth 20000 in
theorem dX9_law_28 : decode cX9_law 28 = .ok (.getfield 123, 3) := by decide +kernel
set_option maxRecDepth 20000 in
theorem dX9_law_31 : decode cX9_law 31 = .ok (.istore_n 2, 1) := by decide +kernel
set_option maxRecDepth 20000 in
theorem dX9_law_32 : decode cX9_law 32 = .ok (.aload_n 0, 1) := by decide +kernel
set_option maxRecDepth 20000 in
theorem dX9_law_33 : decode cX9_law 33 = .ok (.getfield 20, 3) := by decide +kernel
set_option maxRecDepth 20000 in
theorem dX9_law_36 : decode cX9_law 36 = .ok (.iload_n 1, 1) := by decide +kernel
set_option maxRecDepth 20000 in
theorem dX9_law_37 : decode cX9_law 37 = .ok (.putfield 123, 3) := by decide +kernel
set_option maxRecDepth 20000 in
theorem dX9_law_40 : decode cX9_law 40 = .ok (.iload_n 2, 1) := by decide +kernel
set_option maxRecDepth 20000 in
theorem dX9_law_41 : decode cX9_law 41 = .ok (.ireturn, 1) := by decide +kernel
set_option maxRecDepth 20000 in
theorem dX9_depute_0 : decode cX9_depute 0 = .ok (.aload_n 0, 1) := by decide +kernel
set_option maxRecDepth 20000 in
theorem dX9_depute_1 : decode cX9_depute 1 = .ok (.getfield 20, 3) := by decide +kernel
set_option maxRecDepth 20000 in
theorem dX9_depute_4 : decode cX9_depute 4 = .ok (.iload_n 1, 1) := by decide +kernel
set_option maxRecDepth 20000 in
theorem dX9_depute_5 : decode cX9_depute 5 = .ok (.invokevirtual 102, 3) := by decide +kernel
set_option maxRecDepth 20000 in
theorem dX9_depute_8 : decode cX9_depute 8 = .ok (.astore_n 3, 1) := by decide +kernel
set_option maxRecDepth 20000 in
theorem dX9_depute_9 : decode cX9_depute 9 = .ok (.aload_n 3, 1) := by decide +kernel
set_option maxRecDepth 20000 in
theorem dX9_depute_10 : decode cX9_depute 10 = .ok (.ifnull 14, 3) := by decide +kernel
set_option maxRecDepth 20000 in
theorem dX9_depute_13 : decode cX9_depute 13 = .ok (.aload_n 0, 1) := by decide +kernel
set_option maxRecDepth 20000 in
theorem dX9_depute_14 : decode cX9_depute 14 = .ok (.getfield 20, 3) := by decide +kernel
set_option maxRecDepth 20000 in
theorem dX9_depute_17 : decode cX9_depute 17 = .ok (.iload_n 2, 1) := by decide +kernel
set_option maxRecDepth 20000 in
theorem dX9_depute_18 : decode cX9_depute 18 = .ok (.invokevirtual 102, 3) := by decide +kernel
set_option maxRecDepth 20000 in
theorem dX9_depute_21 : decode cX9_depute 21 = .ok (.ifnonnull 5, 3) := by decide +kernel
set_option maxRecDepth 20000 in
theorem dX9_depute_24 : decode cX9_depute 24 = .ok (.iconst (-1), 1) := by decide +kernel
set_option maxRecDepth 20000 in
theorem dX9_depute_25 : decode cX9_depute 25 = .ok (.ireturn, 1) := by decide +kernel
set_option maxRecDepth 20000 in
theorem dX9_depute_26 : decode cX9_depute 26 = .ok (.iload_n 1, 1) := by decide +kernel
set_option maxRecDepth 20000 in
theorem dX9_depute_27 : decode cX9_depute 27 = .ok (.iload_n 2, 1) := by decide +kernel
set_option maxRecDepth 20000 in
theorem dX9_depute_28 : decode cX9_depute 28 = .ok (.if_icmp .ne 6, 3) := by decide +kernel
set_option maxRecDepth 20000 in
theorem dX9_depute_31 : decode cX9_depute 31 = .ok (.bipush (-2), 2) := by decide +kernel
set_option maxRecDepth 20000 in
theorem dX9_depute_33 : decode cX9_depute 33 = .ok (.ireturn, 1) := by decide +kernel
set_option maxRecDepth 20000 in
theorem dX9_depute_34 : decode cX9_depute 34 = .ok (.aload_n 3, 1) := by decide +kernel
set_option maxRecDepth 20000 in
theorem dX9_depute_35 : decode cX9_depute 35 = .ok (.getfield 111, 3) := by decide +kernel
set_option maxRecDepth 20000 in
theorem dX9_depute_38 : decode cX9_depute 38 = .ok (.istore 4, 2) := by decide +kernel
set_option maxRecDepth 20000 in
theorem dX9_depute_40 : decode cX9_depute 40 = .ok (.aload_n 3, 1) := by decide +kernel
set_option maxRecDepth 20000 in
theorem dX9_depute_41 : decode cX9_depute 41 = .ok (.iload_n 2, 1) := by decide +kernel
set_option maxRecDepth 20000 in
theorem dX9_depute_42 : decode cX9_depute 42 = .ok (.putfield 111, 3) := by decide +kernel
set_option maxRecDepth 20000 in
theorem dX9_depute_45 : decode cX9_depute 45 = .ok (.iload 4, 2) := by decide +kernel
set_option maxRecDepth 20000 in
theorem dX9_depute_47 : decode cX9_depute 47 = .ok (.ireturn, 1) := by decide +kernel
set_option maxRecDepth 20000 in
theorem dX9_smash_0 : decode cX9_smash 0 = .ok (.aload_n 0, 1) := by decide +kernel
set_option maxRecDepth 20000 in
theorem dX9_smash_1 : decode cX9_smash 1 = .ok (.getfield 20, 3) := by decide +kernel
set_option maxRecDepth 20000 in
theorem dX9_smash_4 : decode cX9_smash 4 = .ok (.iload_n 1, 1) := by decide +kernel
set_option maxRecDepth 20000 in
theorem dX9_smash_5 : decode cX9_smash 5 = .ok (.invokevirtual 102, 3) := by decide +kernel
set_option maxRecDepth 20000 in
theorem dX9_smash_8 : decode cX9_smash 8 = .ok (.ifnonnull 5, 3) := by decide +kernel
set_option maxRecDepth 20000 in
theorem dX9_smash_11 : decode cX9_smash 11 = .ok (.iconst (-1), 1) := by decide +kernel
set_option maxRecDepth 20000 in
theorem dX9_smash_12 : decode cX9_smash 12 = .ok (.ireturn, 1) := by decide +kernel
set_option maxRecDepth 20000 in
theorem dX9_smash_13 : decode cX9_smash 13 = .ok (.iload_n 2, 1) := by decide +kernel
set_option maxRecDepth 20000 in
theorem dX9_smash_14 : decode cX9_smash 14 = .ok (.bipush 29, 2) := by decide +kernel
set_option maxRecDepth 20000 in
theorem dX9_smash_16 : decode cX9_smash 16 = .ok (.invokestatic 72, 3) := by decide +kernel
set_option maxRecDepth 20000 in
theorem dX9_smash_19 : decode cX9_smash 19 = .ok (.ifCond .ne 17, 3) := by decide +kernel
set_option maxRecDepth 20000 in
theorem dX9_smash_22 : decode cX9_smash 22 = .ok (.iload_n 3, 1) := by decide +kernel
set_option maxRecDepth 20000 in
theorem dX9_smash_23 : decode cX9_smash 23 = .ok (.bipush 29, 2) := by decide +kernel
set_option maxRecDepth 20000 in
theorem dX9_smash_25 : decode cX9_smash 25 = .ok (.invokestatic 72, 3) := by decide +kernel
set_option maxRecDepth 20000 in
theorem dX9_smash_28 : decode cX9_smash 28 = .ok (.ifCond .ne 8, 3) := by decide +kernel
set_option maxRecDepth 20000 in
theorem dX9_smash_31 : decode cX9_smash 31 = .ok (.iload_n 3, 1) := by decide +kernel
set_option maxRecDepth 20000 in
theorem dX9_smash_32 : decode cX9_smash 32 = .ok (.iload_n 2, 1) := by decide +kernel
set_option maxRecDepth 20000 in
theorem dX9_smash_33 : decode cX9_smash 33 = .ok (.if_icmp .ge 6, 3) := by decide +kernel
set_option maxRecDepth 20000 in
theorem dX9_smash_36 : decode cX9_smash 36 = .ok (.bipush (-2), 2) := by decide +kernel
set_option maxRecDepth 20000 in
theorem dX9_smash_38 : decode cX9_smash 38 = .ok (.ireturn, 1) := by decide +kernel
set_option maxRecDepth 20000 in
theorem dX9_smash_39 : decode cX9_smash 39 = .ok (.aload_n 0, 1) := by decide +kernel
set_option maxRecDepth 20000 in
theorem dX9_smash_40 : decode cX9_smash 40 = .ok (.getfield 27, 3) := by decide +kernel
set_option maxRecDepth 20000 in
theorem dX9_smash_43 : decode cX9_smash 43 = .ok (.iload_n 1, 1) := by decide +kernel
set_option maxRecDepth 20000 in
theorem dX9_smash_44 : decode cX9_smash 44 = .ok (.iload_n 2, 1) := by decide +kernel
set_option maxRecDepth 20000 in
theorem dX9_smash_45 : decode cX9_smash 45 = .ok (.iload_n 3, 1) := by decide +kernel
set_option maxRecDepth 20000 in
theorem dX9_smash_46 : decode cX9_smash 46 = .ok (.invokevirtual 126, 3) := by decide +kernel
set_option maxRecDepth 20000 in
theorem dX9_smash_49 : decode cX9_smash 49 = .ok (.ireturn, 1) := by decide +kernel
set_option maxRecDepth 20000 in
theorem dX9_glue_0 : decode cX9_glue 0 = .ok (.iload_n 1, 1) := by decide +kernel
set_option maxRecDepth 20000 in
theorem dX9_glue_1 : decode cX9_glue 1 = .ok (.aload_n 0, 1) := by decide +kernel
set_option maxRecDepth 20000 in
theorem dX9_glue_2 : decode cX9_glue 2 = .ok (.getfield 27, 3) := by decide +kernel
set_option maxRecDepth 20000 in
theorem dX9_glue_5 : decode cX9_glue 5 = .ok (.getfield 97, 3) := by decide +kernel
set_option maxRecDepth 20000 in
theorem dX9_glue_8 : decode cX9_glue 8 = .ok (.invokestatic 72, 3) := by decide +kernel
set_option maxRecDepth 20000 in
theorem dX9_glue_11 : decode cX9_glue 11 = .ok (.ifCond .eq 6, 3) := by decide +kernel
set_option maxRecDepth 20000 in
theorem dX9_glue_14 : decode cX9_glue 14 = .ok (.bipush (-2), 2) := by decide +kernel
set_option maxRecDepth 20000 in
theorem dX9_glue_16 : decode cX9_glue 16 = .ok (.ireturn, 1) := by decide +kernel
set_option maxRecDepth 20000 in
theorem dX9_glue_17 : decode cX9_glue 17 = .ok (.aload_n 0, 1) := by decide +kernel
set_option maxRecDepth 20000 in
theorem dX9_glue_18 : decode cX9_glue 18 = .ok (.getfield 27, 3) := by decide +kernel
set_option maxRecDepth 20000 in
theorem dX9_glue_21 : decode cX9_glue 21 = .ok (.dup, 1) := by decide +kernel
set_option maxRecDepth 20000 in
theorem dX9_glue_22 : decode cX9_glue 22 = .ok (.getfield 97, 3) := by decide +kernel
set_option maxRecDepth 20000 in
theorem dX9_glue_25 : decode cX9_glue 25 = .ok (.iload_n 1, 1) := by decide +kernel
set_option maxRecDepth 20000 in
theorem dX9_glue_26 : decode cX9_glue 26 = .ok (.isub, 1) := by decide +kernel
set_option maxRecDepth 20000 in
theorem dX9_glue_27 : decode cX9_glue 27 = .ok (.putfield 97, 3) := by decide +kernel
set_option maxRecDepth 20000 in
theorem dX9_glue_30 : decode cX9_glue 30 = .ok (.aload_n 0, 1) := by decide +kernel
set_option maxRecDepth 20000 in
theorem dX9_glue_31 : decode cX9_glue 31 = .ok (.getfield 27, 3) := by decide +kernel
set_option maxRecDepth 20000 in
theorem dX9_glue_34 : decode cX9_glue 34 = .ok (.getfield 97, 3) := by decide +kernel
set_option maxRecDepth 20000 in
theorem dX9_glue_37 : decode cX9_glue 37 = .ok (.ireturn, 1) := by decide +kernel
set_option maxRecDepth 20000 in
theorem dX9_by_0 : decode cX9_by 0 = .ok (.aload_n 0, 1) := by decide +kernel
set_option maxRecDepth 20000 in
theorem dX9_by_1 : decode cX9_by 1 = .ok (.getfield 20, 3) := by decide +kernel
set_option maxRecDepth 20000 in
theorem dX9_by_4 : decode cX9_by 4 = .ok (.iload_n 1, 1) := by decide +kernel
set_option maxRecDepth 20000 in
theorem dX9_by_5 : decode cX9_by 5 = .ok (.invokevirtual 102, 3) := by decide +kernel
set_option maxRecDepth 20000 in
theorem dX9_by_8 : decode cX9_by 8 = .ok (.ifnonnull 5, 3) := by decide +kernel
set_option maxRecDepth 20000 in
theorem dX9_by_11 : decode cX9_by 11 = .ok (.iconst (-1), 1) := by decide +kernel
set_option maxRecDepth 20000 in
theorem dX9_by_12 : decode cX9_by 12 = .ok (.ireturn, 1) := by decide +kernel
set_option maxRecDepth 20000 in
theorem dX9_by_13 : decode cX9_by 13 = .ok (.iload_n 2, 1) := by decide +kernel
set_option maxRecDepth 20000 in
theorem dX9_by_14 : decode cX9_by 14 = .ok (.bipush 29, 2) := by decide +kernel
set_option maxRecDepth 20000 in
theorem dX9_by_16 : decode cX9_by 16 = .ok (.invokestatic 72, 3) := by decide +kernel
set_option maxRecDepth 20000 in
theorem dX9_by_19 : decode cX9_by 19 = .ok (.ifCond .eq 6, 3) := by decide +kernel
set_option maxRecDepth 20000 in
theorem dX9_by_22 : decode cX9_by 22 = .ok (.bipush (-2), 2) := by decide +kernel
set_option maxRecDepth 20000 in
theorem dX9_by_24 : decode cX9_by 24 = .ok (.ireturn, 1) := by decide +kernel
set_option maxRecDepth 20000 in
theorem dX9_by_25 : decode cX9_by 25 = .ok (.aload_n 0, 1) := by decide +kernel
set_option maxRecDepth 20000 in
theorem dX9_by_26 : decode cX9_by 26 = .ok (.getfield 43, 3) := by decide +kernel
set_option maxRecDepth 20000 in
theorem dX9_by_29 : decode cX9_by 29 = .ok (.iload_n 2, 1) := by decide +kernel
set_option maxRecDepth 20000 in
theorem dX9_by_30 : decode cX9_by 30 = .ok (.aload_n 0, 1) := by decide +kernel
set_option maxRecDepth 20000 in
theorem dX9_by_31 : decode cX9_by 31 = .ok (.getfield 27, 3) := by decide +kernel
set_option maxRecDepth 20000 in
theorem dX9_by_34 : decode cX9_by 34 = .ok (.invokevirtual 129, 3) := by decide +kernel
set_option maxRecDepth 20000 in
theorem dX9_by_37 : decode cX9_by 37 = .ok (.aload_n 0, 1) := by decide +kernel
set_option maxRecDepth 20000 in
theorem dX9_by_38 : decode cX9_by 38 = .ok (.getfield 43, 3) := by decide +kernel
set_option maxRecDepth 20000 in
theorem dX9_by_41 : decode cX9_by 41 = .ok (.iload_n 1, 1) := by decide +kernel
set_option maxRecDepth 20000 in
theorem dX9_by_42 : decode cX9_by 42 = .ok (.invokevirtual 133, 3) := by decide +kernel
set_option maxRecDepth 20000 in
theorem dX9_by_45 : decode cX9_by 45 = .ok (.ireturn, 1) := by decide +kernel
set_option maxRecDepth 20000 in
theorem dX9_undone_0 : decode cX9_undone 0 = .ok (.aload_n 0, 1) := by decide +kernel
set_option maxRecDepth 20000 in
theorem dX9_undone_1 : decode cX9_undone 1 = .ok (.iload_n 1, 1) := by decide +kernel
set_option maxRecDepth 20000 in
theorem dX9_undone_2 : decode cX9_undone 2 = .ok (.bipush 29, 2) := by decide +kernel
set_option maxRecDepth 20000 in
theorem dX9_undone_4 : decode cX9_undone 4 = .ok (.invokevirtual 136, 3) := by decide +kernel
set_option maxRecDepth 20000 in
theorem dX9_undone_7 : decode cX9_undone 7 = .ok (.istore_n 2, 1) := by decide +kernel
set_option maxRecDepth 20000 in
theorem dX9_undone_8 : decode cX9_undone 8 = .ok (.iload_n 2, 1) := by decide +kernel
set_option maxRecDepth 20000 in
theorem dX9_undone_9 : decode cX9_undone 9 = .ok (.ifCond .eq 5, 3) := by decide +kernel
set_option maxRecDepth 20000 in
theorem dX9_undone_12 : decode cX9_undone 12 = .ok (.iload_n 2, 1) := by decide +kernel
set_option maxRecDepth 20000 in
theorem dX9_undone_13 : decode cX9_undone 13 = .ok (.ireturn, 1) := by decide +kernel
set_option maxRecDepth 20000 in
theorem dX9_undone_14 : decode cX9_undone 14 = .ok (.aload_n 0, 1) := by decide +kernel
set_option maxRecDepth 20000 in
theorem dX9_undone_15 : decode cX9_undone 15 = .ok (.getfield 43, 3) := by decide +kernel
set_option maxRecDepth 20000 in
theorem dX9_undone_18 : decode cX9_undone 18 = .ok (.iload_n 1, 1) := by decide +kernel
set_option maxRecDepth 20000 in
theorem dX9_undone_19 : decode cX9_undone 19 = .ok (.aload_n 0, 1) := by decide +kernel
set_option maxRecDepth 20000 in
theorem dX9_undone_20 : decode cX9_undone 20 = .ok (.getfield 27, 3) := by decide +kernel
set_option maxRecDepth 20000 in
theorem dX9_undone_23 : decode cX9_undone 23 = .ok (.invokevirtual 129, 3) := by decide +kernel
set_option maxRecDepth 20000 in
theorem dX9_undone_26 : decode cX9_undone 26 = .ok (.aload_n 0, 1) := by decide +kernel
set_option maxRecDepth 20000 in
theorem dX9_undone_27 : decode cX9_undone 27 = .ok (.getfield 43, 3) := by decide +kernel
set_option maxRecDepth 20000 in
theorem dX9_undone_30 : decode cX9_undone 30 = .ok (.invokevirtual 140, 3) := by decide +kernel
set_option maxRecDepth 20000 in
theorem dX9_undone_33 : decode cX9_undone 33 = .ok (.ireturn, 1) := by decide +kernel
set_option maxRecDepth 20000 in
theorem dX9_serves_0 : decode cX9_serves 0 = .ok (.aload_n 0, 1) := by decide +kernel
set_option maxRecDepth 20000 in
theorem dX9_serves_1 : decode cX9_serves 1 = .ok (.iload_n 1, 1) := by decide +kernel
set_option maxRecDepth 20000 in
theorem dX9_serves_2 : decode cX9_serves 2 = .ok (.bipush 29, 2) := by decide +kernel
set_option maxRecDepth 20000 in
theorem dX9_serves_4 : decode cX9_serves 4 = .ok (.invokevirtual 136, 3) := by decide +kernel
set_option maxRecDepth 20000 in
theorem dX9_serves_7 : decode cX9_serves 7 = .ok (.istore_n 2, 1) := by decide +kernel
set_option maxRecDepth 20000 in
theorem dX9_serves_8 : decode cX9_serves 8 = .ok (.iload_n 2, 1) := by decide +kernel
set_option maxRecDepth 20000 in
theorem dX9_serves_9 : decode cX9_serves 9 = .ok (.ifCond .eq 5, 3) := by decide +kernel
set_option maxRecDepth 20000 in
theorem dX9_serves_12 : decode cX9_serves 12 = .ok (.iload_n 2, 1) := by decide +kernel
set_option maxRecDepth 20000 in
theorem dX9_serves_13 : decode cX9_serves 13 = .ok (.ireturn, 1) := by decide +kernel
set_option maxRecDepth 20000 in
theorem dX9_serves_14 : decode cX9_serves 14 = .ok (.aload_n 0, 1) := by decide +kernel
set_option maxRecDepth 20000 in
theorem dX9_serves_15 : decode cX9_serves 15 = .ok (.getfield 43, 3) := by decide +kernel
set_option maxRecDepth 20000 in
theorem dX9_serves_18 : decode cX9_serves 18 = .ok (.iload_n 1, 1) := by decide +kernel
set_option maxRecDepth 20000 in
theorem dX9_serves_19 : decode cX9_serves 19 = .ok (.aload_n 0, 1) := by decide +kernel
set_option maxRecDepth 20000 in
theorem dX9_serves_20 : decode cX9_serves 20 = .ok (.getfield 27, 3) := by decide +kernel
set_option maxRecDepth 20000 in
theorem dX9_serves_23 : decode cX9_serves 23 = .ok (.invokevirtual 129, 3) := by decide +kernel
set_option maxRecDepth 20000 in
theorem dX9_serves_26 : decode cX9_serves 26 = .ok (.aload_n 0, 1) := by decide +kernel
set_option maxRecDepth 20000 in
theorem dX9_serves_27 : decode cX9_serves 27 = .ok (.getfield 43, 3) := by decide +kernel
set_option maxRecDepth 20000 in
theorem dX9_serves_30 : decode cX9_serves 30 = .ok (.invokevirtual 144, 3) := by decide +kernel
set_option maxRecDepth 20000 in
theorem dX9_serves_33 : decode cX9_serves 33 = .ok (.ireturn, 1) := by decide +kernel
set_option maxRecDepth 20000 in
theorem dX9_ring_0 : decode cX9_ring 0 = .ok (.aload_n 0, 1) := by decide +kernel
set_option maxRecDepth 20000 in
theorem dX9_ring_1 : decode cX9_ring 1 = .ok (.getfield 20, 3) := by decide +kernel
set_option maxRecDepth 20000 in
theorem dX9_ring_4 : decode cX9_ring 4 = .ok (.getfield 101, 3) := by decide +kernel
set_option maxRecDepth 20000 in
theorem dX9_ring_7 : decode cX9_ring 7 = .ok (.ifCond .ne 6, 3) := by decide +kernel
set_option maxRecDepth 20000 in
theorem dX9_ring_10 : decode cX9_ring 10 = .ok (.bipush (-3), 2) := by decide +kernel
set_option maxRecDepth 20000 in
theorem dX9_ring_12 : decode cX9_ring 12 = .ok (.ireturn, 1) := by decide +kernel
set_option maxRecDepth 20000 in
theorem dX9_ring_13 : decode cX9_ring 13 = .ok (.iconst 0, 1) := by decide +kernel
set_option maxRecDepth 20000 in
theorem dX9_ring_14 : decode cX9_ring 14 = .ok (.istore_n 1, 1) := by decide +kernel
set_option maxRecDepth 20000 in
theorem dX9_ring_15 : decode cX9_ring 15 = .ok (.iconst 0, 1) := by decide +kernel
set_option maxRecDepth 20000 in
theorem dX9_ring_16 : decode cX9_ring 16 = .ok (.istore_n 2, 1) := by decide +kernel
set_option maxRecDepth 20000 in
theorem dX9_ring_17 : decode cX9_ring 17 = .ok (.iload_n 2, 1) := by decide +kernel
set_option maxRecDepth 20000 in
theorem dX9_ring_18 : decode cX9_ring 18 = .ok (.aload_n 0, 1) := by decide +kernel
set_option maxRecDepth 20000 in
theorem dX9_ring_19 : decode cX9_ring 19 = .ok (.getfield 20, 3) := by decide +kernel
set_option maxRecDepth 20000 in
theorem dX9_ring_22 : decode cX9_ring 22 = .ok (.getfield 101, 3) := by decide +kernel
set_option maxRecDepth 20000 in
theorem dX9_ring_25 : decode cX9_ring 25 = .ok (.if_icmp .ge 26, 3) := by decide +kernel
set_option maxRecDepth 20000 in
theorem dX9_ring_28 : decode cX9_ring 28 = .ok (.aload_n 0, 1) := by decide +kernel
set_option maxRecDepth 20000 in
theorem dX9_ring_29 : decode cX9_ring 29 = .ok (.getfield 20, 3) := by decide +kernel
set_option maxRecDepth 20000 in
theorem dX9_ring_32 : decode cX9_ring 32 = .ok (.iload_n 2, 1) := by decide +kernel
set_option maxRecDepth 20000 in
theorem dX9_ring_33 : decode cX9_ring 33 = .ok (.invokevirtual 147, 3) := by decide +kernel
set_option maxRecDepth 20000 in
theorem dX9_ring_36 : decode cX9_ring 36 = .ok (.ifCond .eq 9, 3) := by decide +kernel
set_option maxRecDepth 20000 in
theorem dX9_ring_39 : decode cX9_ring 39 = .ok (.iload_n 1, 1) := by decide +kernel
set_option maxRecDepth 20000 in
theorem dX9_ring_40 : decode cX9_ring 40 = .ok (.iconst 1, 1) := by decide +kernel
set_option maxRecDepth 20000 in
theorem dX9_ring_41 : decode cX9_ring 41 = .ok (.iload_n 2, 1) := by decide +kernel
set_option maxRecDepth 20000 in
theorem dX9_ring_42 : decode cX9_ring 42 = .ok (.ishl, 1) := by decide +kernel
set_option maxRecDepth 20000 in
theorem dX9_ring_43 : decode cX9_ring 43 = .ok (.ior, 1) := by decide +kernel
set_option maxRecDepth 20000 in
theorem dX9_ring_44 : decode cX9_ring 44 = .ok (.istore_n 1, 1) := by decide +kernel
set_option maxRecDepth 20000 in
theorem dX9_ring_45 : decode cX9_ring 45 = .ok (.iinc 2 1, 3) := by decide +kernel
set_option maxRecDepth 20000 in
theorem dX9_ring_48 : decode cX9_ring 48 = .ok (.goto (-31), 3) := by decide +kernel
set_option maxRecDepth 20000 in
theorem dX9_ring_51 : decode cX9_ring 51 = .ok (.iload_n 1, 1) := by decide +kernel
set_option maxRecDepth 20000 in
theorem dX9_ring_52 : decode cX9_ring 52 = .ok (.ireturn, 1) := by decide +kernel
set_option maxRecDepth 20000 in
theorem dX9_first_0 : decode cX9_first 0 = .ok (.aload_n 0, 1) := by decide +kernel
set_option maxRecDepth 20000 in
theorem dX9_first_1 : decode cX9_first 1 = .ok (.iload_n 1, 1) := by decide +kernel
set_option maxRecDepth 20000 in
theorem dX9_first_2 : decode cX9_first 2 = .ok (.iconst 1, 1) := by decide +kernel
set_option maxRecDepth 20000 in
theorem dX9_first_3 : decode cX9_first 3 = .ok (.invokevirtual 136, 3) := by decide +kernel
set_option maxRecDepth 20000 in
theorem dX9_first_6 : decode cX9_first 6 = .ok (.istore_n 2, 1) := by decide +kernel
set_option maxRecDepth 20000 in
theorem dX9_first_7 : decode cX9_first 7 = .ok (.iload_n 2, 1) := by decide +kernel
set_option maxRecDepth 20000 in
theorem dX9_first_8 : decode cX9_first 8 = .ok (.ifCond .eq 5, 3) := by decide +kernel
set_option maxRecDepth 20000 in
theorem dX9_first_11 : decode cX9_first 11 = .ok (.iload_n 2, 1) := by decide +kernel
set_option maxRecDepth 20000 in
theorem dX9_first_12 : decode cX9_first 12 = .ok (.ireturn, 1) := by decide +kernel
set_option maxRecDepth 20000 in
theorem dX9_first_13 : decode cX9_first 13 = .ok (.aload_n 0, 1) := by decide +kernel
set_option maxRecDepth 20000 in
theorem dX9_first_14 : decode cX9_first 14 = .ok (.getfield 43, 3) := by decide +kernel
set_option maxRecDepth 20000 in
theorem dX9_first_17 : decode cX9_first 17 = .ok (.invokevirtual 151, 3) := by decide +kernel
set_option maxRecDepth 20000 in
theorem dX9_first_20 : decode cX9_first 20 = .ok (.iconst 0, 1) := by decide +kernel
set_option maxRecDepth 20000 in
theorem dX9_first_21 : decode cX9_first 21 = .ok (.istore_n 3, 1) := by decide +kernel
set_option maxRecDepth 20000 in
theorem dX9_first_22 : decode cX9_first 22 = .ok (.iload_n 3, 1) := by decide +kernel
set_option maxRecDepth 20000 in
theorem dX9_first_23 : decode cX9_first 23 = .ok (.bipush 30, 2) := by decide +kernel
set_option maxRecDepth 20000 in
theorem dX9_first_25 : decode cX9_first 25 = .ok (.if_icmp .ge 59, 3) := by decide +kernel
set_option maxRecDepth 20000 in
theorem dX9_first_28 : decode cX9_first 28 = .ok (.aload_n 0, 1) := by decide +kernel
set_option maxRecDepth 20000 in
theorem dX9_first_29 : decode cX9_first 29 = .ok (.getfield 43, 3) := by decide +kernel
set_option maxRecDepth 20000 in
theorem dX9_first_32 : decode cX9_first 32 = .ok (.aload_n 0, 1) := by decide +kernel
set_option maxRecDepth 20000 in
theorem dX9_first_33 : decode cX9_first 33 = .ok (.getfield 20, 3) := by decide +kernel
set_option maxRecDepth 20000 in
theorem dX9_first_36 : decode cX9_first 36 = .ok (.getfield 123, 3) := by decide +kernel
set_option maxRecDepth 20000 in
theorem dX9_first_39 : decode cX9_first 39 = .ok (.aload_n 0, 1) := by decide +kernel
set_option maxRecDepth 20000 in
theorem dX9_first_40 : decode cX9_first 40 = .ok (.getfield 27, 3) := by decide +kernel
set_option maxRecDepth 20000 in
theorem dX9_first_43 : decode cX9_first 43 = .ok (.iload_n 3, 1) := by decide +kernel
set_option maxRecDepth 20000 in
theorem dX9_first_44 : decode cX9_first 44 = .ok (.invokevirtual 154, 3) := by decide +kernel
set_option maxRecDepth 20000 in
theorem dX9_first_47 : decode cX9_first 47 = .ok (.invokevirtual 157, 3) := by decide +kernel
set_option maxRecDepth 20000 in
theorem dX9_first_50 : decode cX9_first 50 = .ok (.aload_n 0, 1) := by decide +kernel
set_option maxRecDepth 20000 in
theorem dX9_first_51 : decode cX9_first 51 = .ok (.getfield 43, 3) := by decide +kernel
set_option maxRecDepth 20000 in
theorem dX9_first_54 : decode cX9_first 54 = .ok (.invokevirtual 140, 3) := by decide +kernel
set_option maxRecDepth 20000 in
theorem dX9_first_57 : decode cX9_first 57 = .ok (.istore 4, 2) := by decide +kernel
set_option maxRecDepth 20000 in
theorem dX9_first_59 : decode cX9_first 59 = .ok (.iload 4, 2) := by decide +kernel
set_option maxRecDepth 20000 in
theorem dX9_first_61 : decode cX9_first 61 = .ok (.ifCond .eq 17, 3) := by decide +kernel
set_option maxRecDepth 20000 in
theorem dX9_first_64 : decode cX9_first 64 = .ok (.iload_n 1, 1) := by decide +kernel
set_option maxRecDepth 20000 in
theorem dX9_first_65 : decode cX9_first 65 = .ok (.ifCond .ne 7, 3) := by decide +kernel
set_option maxRecDepth 20000 in
theorem dX9_first_68 : decode cX9_first 68 = .ok (.iload_n 3, 1) := by decide +kernel
set_option maxRecDepth 20000 in
theorem dX9_first_69 : decode cX9_first 69 = .ok (.goto 8, 3) := by decide +kernel
set_option maxRecDepth 20000 in
theorem dX9_first_72 : decode cX9_first 72 = .ok (.iload 4, 2) := by decide +kernel
set_option maxRecDepth 20000 in
theorem dX9_first_74 : decode cX9_first 74 = .ok (.invokestatic 161, 3) := by decide +kernel
set_option maxRecDepth 20000 in
theorem dX9_first_77 : decode cX9_first 77 = .ok (.ireturn, 1) := by decide +kernel
set_option maxRecDepth 20000 in
theorem dX9_first_78 : decode cX9_first 78 = .ok (.iinc 3 1, 3) := by decide +kernel
set_option maxRecDepth 20000 in
theorem dX9_first_81 : decode cX9_first 81 = .ok (.goto (-59), 3) := by decide +kernel
set_option maxRecDepth 20000 in
theorem dX9_first_84 : decode cX9_first 84 = .ok (.bipush (-9), 2) := by decide +kernel
set_option maxRecDepth 20000 in
theorem dX9_first_86 : decode cX9_first 86 = .ok (.ireturn, 1) := by decide +kernel
set_option maxRecDepth 20000 in
theorem dX9_frail_0 : decode cX9_frail 0 = .ok (.aload_n 0, 1) := by decide +kernel
set_option maxRecDepth 20000 in
theorem dX9_frail_1 : decode cX9_frail 1 = .ok (.getfield 20, 3) := by decide +kernel
set_option maxRecDepth 20000 in
theorem dX9_frail_4 : decode cX9_frail 4 = .ok (.getfield 101, 3) := by decide +kernel
set_option maxRecDepth 20000 in
theorem dX9_frail_7 : decode cX9_frail 7 = .ok (.ifCond .ne 6, 3) := by decide +kernel
set_option maxRecDepth 20000 in
theorem dX9_frail_10 : decode cX9_frail 10 = .ok (.bipush (-3), 2) := by decide +kernel
set_option maxRecDepth 20000 in
theorem dX9_frail_12 : decode cX9_frail 12 = .ok (.ireturn, 1) := by decide +kernel
set_option maxRecDepth 20000 in
theorem dX9_frail_13 : decode cX9_frail 13 = .ok (.iload_n 1, 1) := by decide +kernel
set_option maxRecDepth 20000 in
theorem dX9_frail_14 : decode cX9_frail 14 = .ok (.aload_n 0, 1) := by decide +kernel
set_option maxRecDepth 20000 in
theorem dX9_frail_15 : decode cX9_frail 15 = .ok (.getfield 20, 3) := by decide +kernel
set_option maxRecDepth 20000 in
theorem dX9_frail_18 : decode cX9_frail 18 = .ok (.getfield 101, 3) := by decide +kernel
set_option maxRecDepth 20000 in
theorem dX9_frail_21 : decode cX9_frail 21 = .ok (.invokestatic 72, 3) := by decide +kernel
set_option maxRecDepth 20000 in
theorem dX9_frail_24 : decode cX9_frail 24 = .ok (.ifCond .ne 11, 3) := by decide +kernel
set_option maxRecDepth 20000 in
theorem dX9_frail_27 : decode cX9_frail 27 = .ok (.iload_n 2, 1) := by decide +kernel
set_option maxRecDepth 20000 in
theorem dX9_frail_28 : decode cX9_frail 28 = .ok (.iconst 1, 1) := by decide +kernel
set_option maxRecDepth 20000 in
theorem dX9_frail_29 : decode cX9_frail 29 = .ok (.invokestatic 72, 3) := by decide +kernel
set_option maxRecDepth 20000 in
theorem dX9_frail_32 : decode cX9_frail 32 = .ok (.ifCond .eq 6, 3) := by decide +kernel
set_option maxRecDepth 20000 in
theorem dX9_frail_35 : decode cX9_frail 35 = .ok (.bipush (-2), 2) := by decide +kernel
set_option maxRecDepth 20000 in
theorem dX9_frail_37 : decode cX9_frail 37 = .ok (.ireturn, 1) := by decide +kernel
set_option maxRecDepth 20000 in
theorem dX9_frail_38 : decode cX9_frail 38 = .ok (.aload_n 0, 1) := by decide +kernel
set_option maxRecDepth 20000 in
theorem dX9_frail_39 : decode cX9_frail 39 = .ok (.getfield 52, 3) := by decide +kernel
set_option maxRecDepth 20000 in
theorem dX9_frail_42 : decode cX9_frail 42 = .ok (.iload_n 1, 1) := by decide +kernel
set_option maxRecDepth 20000 in
theorem dX9_frail_43 : decode cX9_frail 43 = .ok (.invokevirtual 164, 3) := by decide +kernel
set_option maxRecDepth 20000 in
theorem dX9_frail_46 : decode cX9_frail 46 = .ok (.iload_n 2, 1) := by decide +kernel
set_option maxRecDepth 20000 in
theorem dX9_frail_47 : decode cX9_frail 47 = .ok (.ifCond .ne 13, 3) := by decide +kernel
set_option maxRecDepth 20000 in
theorem dX9_frail_50 : decode cX9_frail 50 = .ok (.aload_n 0, 1) := by decide +kernel
set_option maxRecDepth 20000 in
theorem dX9_frail_51 : decode cX9_frail 51 = .ok (.getfield 52, 3) := by decide +kernel
set_option maxRecDepth 20000 in
theorem dX9_frail_54 : decode cX9_frail 54 = .ok (.getfield 168, 3) := by decide +kernel
set_option maxRecDepth 20000 in
theorem dX9_frail_57 : decode cX9_frail 57 = .ok (.goto 10, 3) := by decide +kernel
set_option maxRecDepth 20000 in
theorem dX9_frail_60 : decode cX9_frail 60 = .ok (.aload_n 0, 1) := by decide +kernel
set_option maxRecDepth 20000 in
theorem dX9_frail_61 : decode cX9_frail 61 = .ok (.getfield 52, 3) := by decide +kernel
set_option maxRecDepth 20000 in
theorem dX9_frail_64 : decode cX9_frail 64 = .ok (.getfield 171, 3) := by decide +kernel
set_option maxRecDepth 20000 in
theorem dX9_frail_67 : decode cX9_frail 67 = .ok (.ireturn, 1) := by decide +kernel
set_option maxRecDepth 20000 in
theorem dX9_plot_0 : decode cX9_plot 0 = .ok (.aload_n 0, 1) := by decide +kernel
set_option maxRecDepth 20000 in
theorem dX9_plot_1 : decode cX9_plot 1 = .ok (.getfield 20, 3) := by decide +kernel
set_option maxRecDepth 20000 in
theorem dX9_plot_4 : decode cX9_plot 4 = .ok (.iload_n 1, 1) := by decide +kernel
set_option maxRecDepth 20000 in
theorem dX9_plot_5 : decode cX9_plot 5 = .ok (.invokevirtual 102, 3) := by decide +kernel
set_option maxRecDepth 20000 in
theorem dX9_plot_8 : decode cX9_plot 8 = .ok (.ifnonnull 5, 3) := by decide +kernel
set_option maxRecDepth 20000 in
theorem dX9_plot_11 : decode cX9_plot 11 = .ok (.iconst (-1), 1) := by decide +kernel
set_option maxRecDepth 20000 in
theorem dX9_plot_12 : decode cX9_plot 12 = .ok (.ireturn, 1) := by decide +kernel
set_option maxRecDepth 20000 in
theorem dX9_plot_13 : decode cX9_plot 13 = .ok (.aload_n 0, 1) := by decide +kernel
set_option maxRecDepth 20000 in
theorem dX9_plot_14 : decode cX9_plot 14 = .ok (.getfield 52, 3) := by decide +kernel
set_option maxRecDepth 20000 in
theorem dX9_plot_17 : decode cX9_plot 17 = .ok (.iload_n 1, 1) := by decide +kernel
set_option maxRecDepth 20000 in
theorem dX9_plot_18 : decode cX9_plot 18 = .ok (.invokevirtual 174, 3) := by decide +kernel
set_option maxRecDepth 20000 in
theorem dX9_plot_21 : decode cX9_plot 21 = .ok (.ireturn, 1) := by decide +kernel
set_option maxRecDepth 20000 in
theorem dX9_mend_0 : decode cX9_mend 0 = .ok (.aload_n 0, 1) := by decide +kernel
set_option maxRecDepth 20000 in
theorem dX9_mend_1 : decode cX9_mend 1 = .ok (.iload_n 1, 1) := by decide +kernel
set_option maxRecDepth 20000 in
theorem dX9_mend_2 : decode cX9_mend 2 = .ok (.iconst 1, 1) := by decide +kernel
set_option maxRecDepth 20000 in
theorem dX9_mend_3 : decode cX9_mend 3 = .ok (.invokevirtual 136, 3) := by decide +kernel
set_option maxRecDepth 20000 in
theorem dX9_mend_6 : decode cX9_mend 6 = .ok (.istore_n 2, 1) := by decide +kernel
set_option maxRecDepth 20000 in
theorem dX9_mend_7 : decode cX9_mend 7 = .ok (.iload_n 2, 1) := by decide +kernel
set_option maxRecDepth 20000 in
theorem dX9_mend_8 : decode cX9_mend 8 = .ok (.ifCond .eq 5, 3) := by decide +kernel
set_option maxRecDepth 20000 in
theorem dX9_mend_11 : decode cX9_mend 11 = .ok (.iload_n 2, 1) := by decide +kernel
set_option maxRecDepth 20000 in
theorem dX9_mend_12 : decode cX9_mend 12 = .ok (.ireturn, 1) := by decide +kernel
set_option maxRecDepth 20000 in
theorem dX9_mend_13 : decode cX9_mend 13 = .ok (.aload_n 0, 1) := by decide +kernel
set_option maxRecDepth 20000 in
theorem dX9_mend_14 : decode cX9_mend 14 = .ok (.getfield 52, 3) := by decide +kernel
set_option maxRecDepth 20000 in
theorem dX9_mend_17 : decode cX9_mend 17 = .ok (.invokevirtual 177, 3) := by decide +kernel
set_option maxRecDepth 20000 in
theorem dX9_mend_20 : decode cX9_mend 20 = .ok (.iload_n 1, 1) := by decide +kernel
set_option maxRecDepth 20000 in
theorem dX9_mend_21 : decode cX9_mend 21 = .ok (.ifCond .ne 13, 3) := by decide +kernel
set_option maxRecDepth 20000 in
theorem dX9_mend_24 : decode cX9_mend 24 = .ok (.aload_n 0, 1) := by decide +kernel
set_option maxRecDepth 20000 in
theorem dX9_mend_25 : decode cX9_mend 25 = .ok (.getfield 52, 3) := by decide +kernel
set_option maxRecDepth 20000 in
theorem dX9_mend_28 : decode cX9_mend 28 = .ok (.getfield 180, 3) := by decide +kernel
set_option maxRecDepth 20000 in
theorem dX9_mend_31 : decode cX9_mend 31 = .ok (.goto 10, 3) := by decide +kernel
set_option maxRecDepth 20000 in
theorem dX9_mend_34 : decode cX9_mend 34 = .ok (.aload_n 0, 1) := by decide +kernel
set_option maxRecDepth 20000 in
theorem dX9_mend_35 : decode cX9_mend 35 = .ok (.getfield 52, 3) := by decide +kernel
set_option maxRecDepth 20000 in
theorem dX9_mend_38 : decode cX9_mend 38 = .ok (.getfield 183, 3) := by decide +kernel
set_option maxRecDepth 20000 in
theorem dX9_mend_41 : decode cX9_mend 41 = .ok (.ireturn, 1) := by decide +kernel
set_option maxRecDepth 20000 in
theorem dX9_wave_0 : decode cX9_wave 0 = .ok (.aload_n 0, 1) := by decide +kernel
set_option maxRecDepth 20000 in
theorem dX9_wave_1 : decode cX9_wave 1 = .ok (.getfield 20, 3) := by decide +kernel
set_option maxRecDepth 20000 in
theorem dX9_wave_4 : decode cX9_wave 4 = .ok (.iload_n 1, 1) := by decide +kernel
set_option maxRecDepth 20000 in
theorem dX9_wave_5 : decode cX9_wave 5 = .ok (.invokevirtual 102, 3) := by decide +kernel
set_option maxRecDepth 20000 in
theorem dX9_wave_8 : decode cX9_wave 8 = .ok (.ifnonnull 5, 3) := by decide +kernel
set_option maxRecDepth 20000 in
theorem dX9_wave_11 : decode cX9_wave 11 = .ok (.iconst (-1), 1) := by decide +kernel
set_option maxRecDepth 20000 in
theorem dX9_wave_12 : decode cX9_wave 12 = .ok (.ireturn, 1) := by decide +kernel
set_option maxRecDepth 20000 in
theorem dX9_wave_13 : decode cX9_wave 13 = .ok (.aload_n 0, 1) := by decide +kernel
set_option maxRecDepth 20000 in
theorem dX9_wave_14 : decode cX9_wave 14 = .ok (.getfield 27, 3) := by decide +kernel
set_option maxRecDepth 20000 in
theorem dX9_wave_17 : decode cX9_wave 17 = .ok (.iconst 0, 1) := by decide +kernel
set_option maxRecDepth 20000 in
theorem dX9_wave_18 : decode cX9_wave 18 = .ok (.invokevirtual 154, 3) := by decide +kernel
set_option maxRecDepth 20000 in
theorem dX9_wave_21 : decode cX9_wave 21 = .ok (.istore_n 2, 1) := by decide +kernel
set_option maxRecDepth 20000 in
theorem dX9_wave_22 : decode cX9_wave 22 = .ok (.aload_n 0, 1) := by decide +kernel
set_option maxRecDepth 20000 in
theorem dX9_wave_23 : decode cX9_wave 23 = .ok (.getfield 43, 3) := by decide +kernel
set_option maxRecDepth 20000 in
theorem dX9_wave_26 : decode cX9_wave 26 = .ok (.aload_n 0, 1) := by decide +kernel
set_option maxRecDepth 20000 in
theorem dX9_wave_27 : decode cX9_wave 27 = .ok (.getfield 20, 3) := by decide +kernel
set_option maxRecDepth 20000 in
theorem dX9_wave_30 : decode cX9_wave 30 = .ok (.getfield 123, 3) := by decide +kernel
set_option maxRecDepth 20000 in
theorem dX9_wave_33 : decode cX9_wave 33 = .ok (.iload_n 2, 1) := by decide +kernel
set_option maxRecDepth 20000 in
theorem dX9_wave_34 : decode cX9_wave 34 = .ok (.invokevirtual 186, 3) := by decide +kernel
set_option maxRecDepth 20000 in
theorem dX9_wave_37 : decode cX9_wave 37 = .ok (.aload_n 0, 1) := by decide +kernel
set_option maxRecDepth 20000 in
theorem dX9_wave_38 : decode cX9_wave 38 = .ok (.getfield 43, 3) := by decide +kernel
set_option maxRecDepth 20000 in
theorem dX9_wave_41 : decode cX9_wave 41 = .ok (.invokevirtual 144, 3) := by decide +kernel
set_option maxRecDepth 20000 in
theorem dX9_wave_44 : decode cX9_wave 44 = .ok (.istore_n 3, 1) := by decide +kernel
set_option maxRecDepth 20000 in
theorem dX9_wave_45 : decode cX9_wave 45 = .ok (.aload_n 0, 1) := by decide +kernel
set_option maxRecDepth 20000 in
theorem dX9_wave_46 : decode cX9_wave 46 = .ok (.getfield 43, 3) := by decide +kernel
set_option maxRecDepth 20000 in
theorem dX9_wave_49 : decode cX9_wave 49 = .ok (.aload_n 0, 1) := by decide +kernel
set_option maxRecDepth 20000 in
theorem dX9_wave_50 : decode cX9_wave 50 = .ok (.getfield 20, 3) := by decide +kernel
set_option maxRecDepth 20000 in
theorem dX9_wave_53 : decode cX9_wave 53 = .ok (.getfield 123, 3) := by decide +kernel
set_option maxRecDepth 20000 in
theorem dX9_wave_56 : decode cX9_wave 56 = .ok (.iload_n 2, 1) := by decide +kernel
set_option maxRecDepth 20000 in
theorem dX9_wave_57 : decode cX9_wave 57 = .ok (.iconst 1, 1) := by decide +kernel
set_option maxRecDepth 20000 in
theorem dX9_wave_58 : decode cX9_wave 58 = .ok (.iload_n 1, 1) := by decide +kernel
set_option maxRecDepth 20000 in
theorem dX9_wave_59 : decode cX9_wave 59 = .ok (.ishl, 1) := by decide +kernel
set_option maxRecDepth 20000 in
theorem dX9_wave_60 : decode cX9_wave 60 = .ok (.ior, 1) := by decide +kernel
set_option maxRecDepth 20000 in
theorem dX9_wave_61 : decode cX9_wave 61 = .ok (.invokevirtual 186, 3) := by decide +kernel
set_option maxRecDepth 20000 in
theorem dX9_wave_64 : decode cX9_wave 64 = .ok (.iload_n 3, 1) := by decide +kernel
set_option maxRecDepth 20000 in
theorem dX9_wave_65 : decode cX9_wave 65 = .ok (.aload_n 0, 1) := by decide +kernel
set_option maxRecDepth 20000 in
theorem dX9_wave_66 : decode cX9_wave 66 = .ok (.getfield 43, 3) := by decide +kernel
set_option maxRecDepth 20000 in
theorem dX9_wave_69 : decode cX9_wave 69 = .ok (.invokevirtual 144, 3) := by decide +kernel
set_option maxRecDepth 20000 in
theorem dX9_wave_72 : decode cX9_wave 72 = .ok (.isub, 1) := by decide +kernel
set_option maxRecDepth 20000 in
theorem dX9_wave_73 : decode cX9_wave 73 = .ok (.sipush 1000, 3) := by decide +kernel
set_option maxRecDepth 20000 in
theorem dX9_wave_76 : decode cX9_wave 76 = .ok (.iadd, 1) := by decide +kernel
set_option maxRecDepth 20000 in
theorem dX9_wave_77 : decode cX9_wave 77 = .ok (.ireturn, 1) := by decide +kernel
set_option maxRecDepth 20000 in
theorem dX9_roster_0 : decode cX9_roster 0 = .ok (.aload_n 0, 1) := by decide +kernel
set_option maxRecDepth 20000 in
theorem dX9_roster_1 : decode cX9_roster 1 = .ok (.iconst 0, 1) := by decide +kernel
set_option maxRecDepth 20000 in
theorem dX9_roster_2 : decode cX9_roster 2 = .ok (.putfield 63, 3) := by decide +kernel
set_option maxRecDepth 20000 in
theorem dX9_roster_5 : decode cX9_roster 5 = .ok (.aload_n 0, 1) := by decide +kernel
set_option maxRecDepth 20000 in
theorem dX9_roster_6 : decode cX9_roster 6 = .ok (.iload_n 1, 1) := by decide +kernel
set_option maxRecDepth 20000 in
theorem dX9_roster_7 : decode cX9_roster 7 = .ok (.invokevirtual 68, 3) := by decide +kernel
set_option maxRecDepth 20000 in
theorem dX9_roster_10 : decode cX9_roster 10 = .ok (.astore 5, 2) := by decide +kernel
set_option maxRecDepth 20000 in
theorem dX9_roster_12 : decode cX9_roster 12 = .ok (.aload 5, 2) := by decide +kernel
set_option maxRecDepth 20000 in
theorem dX9_roster_14 : decode cX9_roster 14 = .ok (.ifnonnull 5, 3) := by decide +kernel
set_option maxRecDepth 20000 in
theorem dX9_roster_17 : decode cX9_roster 17 = .ok (.iconst (-1), 1) := by decide +kernel
set_option maxRecDepth 20000 in
theorem dX9_roster_18 : decode cX9_roster 18 = .ok (.ireturn, 1) := by decide +kernel
set_option maxRecDepth 20000 in
theorem dX9_roster_19 : decode cX9_roster 19 = .ok (.iload_n 2, 1) := by decide +kernel
set_option maxRecDepth 20000 in
theorem dX9_roster_20 : decode cX9_roster 20 = .ok (.iconst 2, 1) := by decide +kernel
set_option maxRecDepth 20000 in
theorem dX9_roster_21 : decode cX9_roster 21 = .ok (.invokestatic 72, 3) := by decide +kernel
set_option maxRecDepth 20000 in
theorem dX9_roster_24 : decode cX9_roster 24 = .ok (.ifCond .eq 6, 3) := by decide +kernel
set_option maxRecDepth 20000 in
theorem dX9_roster_27 : decode cX9_roster 27 = .ok (.bipush (-2), 2) := by decide +kernel
set_option maxRecDepth 20000 in
theorem dX9_roster_29 : decode cX9_roster 29 = .ok (.ireturn, 1) := by decide +kernel
set_option maxRecDepth 20000 in
theorem dX9_roster_30 : decode cX9_roster 30 = .ok (.aload_n 0, 1) := by decide +kernel
set_option maxRecDepth 20000 in
theorem dX9_roster_31 : decode cX9_roster 31 = .ok (.getfield 20, 3) := by decide +kernel
set_option maxRecDepth 20000 in
theorem dX9_roster_34 : decode cX9_roster 34 = .ok (.getfield 101, 3) := by decide +kernel
set_option maxRecDepth 20000 in
theorem dX9_roster_37 : decode cX9_roster 37 = .ok (.ifCond .ne 6, 3) := by decide +kernel
set_option maxRecDepth 20000 in
theorem dX9_roster_40 : decode cX9_roster 40 = .ok (.bipush (-3), 2) := by decide +kernel
set_option maxRecDepth 20000 in
theorem dX9_roster_42 : decode cX9_roster 42 = .ok (.ireturn, 1) := by decide +kernel
set_option maxRecDepth 20000 in
theorem dX9_roster_43 : decode cX9_roster 43 = .ok (.aload 5, 2) := by decide +kernel
set_option maxRecDepth 20000 in
theorem dX9_roster_45 : decode cX9_roster 45 = .ok (.iload_n 2, 1) := by decide +kernel
set_option maxRecDepth 20000 in
theorem dX9_roster_46 : decode cX9_roster 46 = .ok (.iload_n 3, 1) := by decide +kernel
set_option maxRecDepth 20000 in
theorem dX9_roster_47 : decode cX9_roster 47 = .ok (.iload 4, 2) := by decide +kernel
set_option maxRecDepth 20000 in
theorem dX9_roster_49 : decode cX9_roster 49 = .ok (.invokevirtual 76, 3) := by decide +kernel
set_option maxRecDepth 20000 in
theorem dX9_roster_52 : decode cX9_roster 52 = .ok (.istore 6, 2) := by decide +kernel
set_option maxRecDepth 20000 in
theorem dX9_roster_54 : decode cX9_roster 54 = .ok (.iload 6, 2) := by decide +kernel
set_option maxRecDepth 20000 in
theorem dX9_roster_56 : decode cX9_roster 56 = .ok (.ifCond .eq 10, 3) := by decide +kernel
set_option maxRecDepth 20000 in
theorem dX9_roster_59 : decode cX9_roster 59 = .ok (.aload_n 0, 1) := by decide +kernel
set_option maxRecDepth 20000 in
theorem dX9_roster_60 : decode cX9_roster 60 = .ok (.iload 6, 2) := by decide +kernel
set_option maxRecDepth 20000 in
theorem dX9_roster_62 : decode cX9_roster 62 = .ok (.invokevirtual 80, 3) := by decide +kernel
set_option maxRecDepth 20000 in
theorem dX9_roster_65 : decode cX9_roster 65 = .ok (.ireturn, 1) := by decide +kernel
set_option maxRecDepth 20000 in
theorem dX9_roster_66 : decode cX9_roster 66 = .ok (.iload 4, 2) := by decide +kernel
set_option maxRecDepth 20000 in
theorem dX9_roster_68 : decode cX9_roster 68 = .ok (.aload_n 0, 1) := by decide +kernel
set_option maxRecDepth 20000 in
theorem dX9_roster_69 : decode cX9_roster 69 = .ok (.getfield 20, 3) := by decide +kernel
set_option maxRecDepth 20000 in
theorem dX9_roster_72 : decode cX9_roster 72 = .ok (.getfield 101, 3) := by decide +kernel
set_option maxRecDepth 20000 in
theorem dX9_roster_75 : decode cX9_roster 75 = .ok (.if_icmp .eq 6, 3) := by decide +kernel
set_option maxRecDepth 20000 in
theorem dX9_roster_78 : decode cX9_roster 78 = .ok (.bipush (-2), 2) := by decide +kernel
set_option maxRecDepth 20000 in
theorem dX9_roster_80 : decode cX9_roster 80 = .ok (.ireturn, 1) := by decide +kernel
set_option maxRecDepth 20000 in
theorem dX9_roster_81 : decode cX9_roster 81 = .ok (.aload_n 0, 1) := by decide +kernel
set_option maxRecDepth 20000 in
theorem dX9_roster_82 : decode cX9_roster 82 = .ok (.aload 5, 2) := by decide +kernel
set_option maxRecDepth 20000 in
theorem dX9_roster_84 : decode cX9_roster 84 = .ok (.iload_n 3, 1) := by decide +kernel
set_option maxRecDepth 20000 in
theorem dX9_roster_85 : decode cX9_roster 85 = .ok (.invokevirtual 189, 3) := by decide +kernel
set_option maxRecDepth 20000 in
theorem dX9_roster_88 : decode cX9_roster 88 = .ok (.ifCond .ne 5, 3) := by decide +kernel
set_option maxRecDepth 20000 in
theorem dX9_roster_91 : decode cX9_roster 91 = .ok (.iconst (-1), 1) := by decide +kernel
set_option maxRecDepth 20000 in
theorem dX9_roster_92 : decode cX9_roster 92 = .ok (.ireturn, 1) := by decide +kernel
set_option maxRecDepth 20000 in
theorem dX9_roster_93 : decode cX9_roster 93 = .ok (.aload_n 0, 1) := by decide +kernel
set_option maxRecDepth 20000 in
theorem dX9_roster_94 : decode cX9_roster 94 = .ok (.aload 5, 2) := by decide +kernel
set_option maxRecDepth 20000 in
theorem dX9_roster_96 : decode cX9_roster 96 = .ok (.iload_n 3, 1) := by decide +kernel
set_option maxRecDepth 20000 in
theorem dX9_roster_97 : decode cX9_roster 97 = .ok (.invokevirtual 193, 3) := by decide +kernel
set_option maxRecDepth 20000 in
theorem dX9_roster_100 : decode cX9_roster 100 = .ok (.ireturn, 1) := by decide +kernel
set_option maxRecDepth 20000 in
theorem dX9_reading_0 : decode cX9_reading 0 = .ok (.aload_n 0, 1) := by decide +kernel
set_option maxRecDepth 20000 in
theorem dX9_reading_1 : decode cX9_reading 1 = .ok (.getfield 20, 3) := by decide +kernel
set_option maxRecDepth 20000 in
theorem dX9_reading_4 : decode cX9_reading 4 = .ok (.iload_n 1, 1) := by decide +kernel
set_option maxRecDepth 20000 in
theorem dX9_reading_5 : decode cX9_reading 5 = .ok (.invokevirtual 102, 3) := by decide +kernel
set_option maxRecDepth 20000 in
theorem dX9_reading_8 : decode cX9_reading 8 = .ok (.ifnull 20, 3) := by decide +kernel
set_option maxRecDepth 20000 in
theorem dX9_reading_11 : decode cX9_reading 11 = .ok (.iload_n 2, 1) := by decide +kernel
set_option maxRecDepth 20000 in
theorem dX9_reading_12 : decode cX9_reading 12 = .ok (.bipush (-9), 2) := by decide +kernel
set_option maxRecDepth 20000 in
theorem dX9_reading_14 : decode cX9_reading 14 = .ok (.if_icmp .eq 16, 3) := by decide +kernel
set_option maxRecDepth 20000 in
theorem dX9_reading_17 : decode cX9_reading 17 = .ok (.aload_n 0, 1) := by decide +kernel
set_option maxRecDepth 20000 in
theorem dX9_reading_18 : decode cX9_reading 18 = .ok (.getfield 20, 3) := by decide +kernel
set_option maxRecDepth 20000 in
theorem dX9_reading_21 : decode cX9_reading 21 = .ok (.iload_n 2, 1) := by decide +kernel
set_option maxRecDepth 20000 in
theorem dX9_reading_22 : decode cX9_reading 22 = .ok (.invokevirtual 102, 3) := by decide +kernel
set_option maxRecDepth 20000 in
theorem dX9_reading_25 : decode cX9_reading 25 = .ok (.ifnonnull 5, 3) := by decide +kernel
set_option maxRecDepth 20000 in
theorem dX9_reading_28 : decode cX9_reading 28 = .ok (.iconst (-1), 1) := by decide +kernel
set_option maxRecDepth 20000 in
theorem dX9_reading_29 : decode cX9_reading 29 = .ok (.ireturn, 1) := by decide +kernel
set_option maxRecDepth 20000 in
theorem dX9_reading_30 : decode cX9_reading 30 = .ok (.aload_n 0, 1) := by decide +kernel
set_option maxRecDepth 20000 in
theorem dX9_reading_31 : decode cX9_reading 31 = .ok (.getfield 34, 3) := by decide +kernel
set_option maxRecDepth 20000 in
theorem dX9_reading_34 : decode cX9_reading 34 = .ok (.iload_n 1, 1) := by decide +kernel
set_option maxRecDepth 20000 in
theorem dX9_reading_35 : decode cX9_reading 35 = .ok (.iload_n 2, 1) := by decide +kernel
set_option maxRecDepth 20000 in
theorem dX9_reading_36 : decode cX9_reading 36 = .ok (.invokevirtual 197, 3) := by decide +kernel
set_option maxRecDepth 20000 in
theorem dX9_reading_39 : decode cX9_reading 39 = .ok (.ireturn, 1) := by decide +kernel
set_option maxRecDepth 20000 in
theorem dX9_back_0 : decode cX9_back 0 = .ok (.iload_n 1, 1) := by decide +kernel
set_option maxRecDepth 20000 in
theorem dX9_back_1 : decode cX9_back 1 = .ok (.aload_n 0, 1) := by decide +kernel
set_option maxRecDepth 20000 in
theorem dX9_back_2 : decode cX9_back 2 = .ok (.getfield 34, 3) := by decide +kernel
set_option maxRecDepth 20000 in
theorem dX9_back_5 : decode cX9_back 5 = .ok (.getfield 100, 3) := by decide +kernel
set_option maxRecDepth 20000 in
theorem dX9_back_8 : decode cX9_back 8 = .ok (.invokestatic 72, 3) := by decide +kernel
set_option maxRecDepth 20000 in
theorem dX9_back_11 : decode cX9_back 11 = .ok (.ifCond .eq 6, 3) := by decide +kernel
set_option maxRecDepth 20000 in
theorem dX9_back_14 : decode cX9_back 14 = .ok (.bipush (-2), 2) := by decide +kernel
set_option maxRecDepth 20000 in
theorem dX9_back_16 : decode cX9_back 16 = .ok (.ireturn, 1) := by decide +kernel
set_option maxRecDepth 20000 in
theorem dX9_back_17 : decode cX9_back 17 = .ok (.aload_n 0, 1) := by decide +kernel
set_option maxRecDepth 20000 in
theorem dX9_back_18 : decode cX9_back 18 = .ok (.getfield 34, 3) := by decide +kernel
set_option maxRecDepth 20000 in
theorem dX9_back_21 : decode cX9_back 21 = .ok (.dup, 1) := by decide +kernel
set_option maxRecDepth 20000 in
theorem dX9_back_22 : decode cX9_back 22 = .ok (.getfield 100, 3) := by decide +kernel
set_option maxRecDepth 20000 in
theorem dX9_back_25 : decode cX9_back 25 = .ok (.iload_n 1, 1) := by decide +kernel
set_option maxRecDepth 20000 in
theorem dX9_back_26 : decode cX9_back 26 = .ok (.isub, 1) := by decide +kernel
set_option maxRecDepth 20000 in
theorem dX9_back_27 : decode cX9_back 27 = .ok (.putfield 100, 3) := by decide +kernel
set_option maxRecDepth 20000 in
theorem dX9_back_30 : decode cX9_back 30 = .ok (.aload_n 0, 1) := by decide +kernel
set_option maxRecDepth 20000 in
theorem dX9_back_31 : decode cX9_back 31 = .ok (.getfield 34, 3) := by decide +kernel
set_option maxRecDepth 20000 in
theorem dX9_back_34 : decode cX9_back 34 = .ok (.getfield 100, 3) := by decide +kernel
set_option maxRecDepth 20000 in
theorem dX9_back_37 : decode cX9_back 37 = .ok (.ireturn, 1) := by decide +kernel
set_option maxRecDepth 20000 in
theorem dX9_failed_0 : decode cX9_failed 0 = .ok (.aload_n 0, 1) := by decide +kernel
set_option maxRecDepth 20000 in
theorem dX9_failed_1 : decode cX9_failed 1 = .ok (.iload_n 1, 1) := by decide +kernel
set_option maxRecDepth 20000 in
theorem dX9_failed_2 : decode cX9_failed 2 = .ok (.iconst 2, 1) := by decide +kernel
set_option maxRecDepth 20000 in
theorem dX9_failed_3 : decode cX9_failed 3 = .ok (.invokevirtual 136, 3) := by decide +kernel
set_option maxRecDepth 20000 in
theorem dX9_failed_6 : decode cX9_failed 6 = .ok (.istore_n 2, 1) := by decide +kernel
set_option maxRecDepth 20000 in
theorem dX9_failed_7 : decode cX9_failed 7 = .ok (.iload_n 2, 1) := by decide +kernel
set_option maxRecDepth 20000 in
theorem dX9_failed_8 : decode cX9_failed 8 = .ok (.ifCond .eq 5, 3) := by decide +kernel
set_option maxRecDepth 20000 in
theorem dX9_failed_11 : decode cX9_failed 11 = .ok (.iload_n 2, 1) := by decide +kernel
set_option maxRecDepth 20000 in
theorem dX9_failed_12 : decode cX9_failed 12 = .ok (.ireturn, 1) := by decide +kernel
set_option maxRecDepth 20000 in
theorem dX9_failed_13 : decode cX9_failed 13 = .ok (.aload_n 0, 1) := by decide +kernel
set_option maxRecDepth 20000 in
theorem dX9_failed_14 : decode cX9_failed 14 = .ok (.getfield 52, 3) := by decide +kernel
set_option maxRecDepth 20000 in
theorem dX9_failed_17 : decode cX9_failed 17 = .ok (.aload_n 0, 1) := by decide +kernel
set_option maxRecDepth 20000 in
theorem dX9_failed_18 : decode cX9_failed 18 = .ok (.getfield 34, 3) := by decide +kernel
set_option maxRecDepth 20000 in
theorem dX9_failed_21 : decode cX9_failed 21 = .ok (.invokevirtual 199, 3) := by decide +kernel
set_option maxRecDepth 20000 in
theorem dX9_failed_24 : decode cX9_failed 24 = .ok (.iload_n 1, 1) := by decide +kernel
set_option maxRecDepth 20000 in
theorem dX9_failed_25 : decode cX9_failed 25 = .ok (.lookupswitch 43 #[(0, 27), (1, 35)], 27) := by decide +kernel
set_option maxRecDepth 20000 in
theorem dX9_failed_52 : decode cX9_failed 52 = .ok (.aload_n 0, 1) := by decide +kernel
set_option maxRecDepth 20000 in
theorem dX9_failed_53 : decode cX9_failed 53 = .ok (.getfield 52, 3) := by decide +kernel
set_option maxRecDepth 20000 in
theorem dX9_failed_56 : decode cX9_failed 56 = .ok (.getfield 203, 3) := by decide +kernel
set_option maxRecDepth 20000 in
theorem dX9_failed_59 : decode cX9_failed 59 = .ok (.ireturn, 1) := by decide +kernel
set_option maxRecDepth 20000 in
theorem dX9_failed_60 : decode cX9_failed 60 = .ok (.aload_n 0, 1) := by decide +kernel
set_option maxRecDepth 20000 in
theorem dX9_failed_61 : decode cX9_failed 61 = .ok (.getfield 52, 3) := by decide +kernel
set_option maxRecDepth 20000 in
theorem dX9_failed_64 : decode cX9_failed 64 = .ok (.getfield 206, 3) := by decide +kernel
set_option maxRecDepth 20000 in
theorem dX9_failed_67 : decode cX9_failed 67 = .ok (.ireturn, 1) := by decide +kernel
set_option maxRecDepth 20000 in
theorem dX9_failed_68 : decode cX9_failed 68 = .ok (.aload_n 0, 1) := by decide +kernel
set_option maxRecDepth 20000 in
theorem dX9_failed_69 : decode cX9_failed 69 = .ok (.getfield 52, 3) := by decide +kernel
set_option maxRecDepth 20000 in
theorem dX9_failed_72 : decode cX9_failed 72 = .ok (.getfield 209, 3) := by decide +kernel
set_option maxRecDepth 20000 in
theorem dX9_failed_75 : decode cX9_failed 75 = .ok (.ireturn, 1) := by decide +kernel
set_option maxRecDepth 20000 in
theorem dX9_laws_0 : decode cX9_laws 0 = .ok (.aload_n 0, 1) := by decide +kernel
set_option maxRecDepth 20000 in
theorem dX9_laws_1 : decode cX9_laws 1 = .ok (.getfield 20, 3) := by decide +kernel
set_option maxRecDepth 20000 in
theorem dX9_laws_4 : decode cX9_laws 4 = .ok (.getfield 101, 3) := by decide +kernel
set_option maxRecDepth 20000 in
theorem dX9_laws_7 : decode cX9_laws 7 = .ok (.ifCond .ne 6, 3) := by decide +kernel
set_option maxRecDepth 20000 in
theorem dX9_laws_10 : decode cX9_laws 10 = .ok (.bipush (-3), 2) := by decide +kernel
set_option maxRecDepth 20000 in
theorem dX9_laws_12 : decode cX9_laws 12 = .ok (.ireturn, 1) := by decide +kernel
set_option maxRecDepth 20000 in
theorem dX9_laws_13 : decode cX9_laws 13 = .ok (.iconst 0, 1) := by decide +kernel
set_option maxRecDepth 20000 in
theorem dX9_laws_14 : decode cX9_laws 14 = .ok (.istore_n 1, 1) := by decide +kernel
set_option maxRecDepth 20000 in
theorem dX9_laws_15 : decode cX9_laws 15 = .ok (.iconst 0, 1) := by decide +kernel
set_option maxRecDepth 20000 in
theorem dX9_laws_16 : decode cX9_laws 16 = .ok (.istore_n 2, 1) := by decide +kernel
set_option maxRecDepth 20000 in
theorem dX9_laws_17 : decode cX9_laws 17 = .ok (.iload_n 2, 1) := by decide +kernel
set_option maxRecDepth 20000 in
theorem dX9_laws_18 : decode cX9_laws 18 = .ok (.iconst 2, 1) := by decide +kernel
set_option maxRecDepth 20000 in
theorem dX9_laws_19 : decode cX9_laws 19 = .ok (.if_icmp .gt 45, 3) := by decide +kernel
set_option maxRecDepth 20000 in
theorem dX9_laws_22 : decode cX9_laws 22 = .ok (.aload_n 0, 1) := by decide +kernel
set_option maxRecDepth 20000 in
theorem dX9_laws_23 : decode cX9_laws 23 = .ok (.getfield 43, 3) := by decide +kernel
set_option maxRecDepth 20000 in
theorem dX9_laws_26 : decode cX9_laws 26 = .ok (.iload_n 2, 1) := by decide +kernel
set_option maxRecDepth 20000 in
theorem dX9_laws_27 : decode cX9_laws 27 = .ok (.aload_n 0, 1) := by decide +kernel
set_option maxRecDepth 20000 in
theorem dX9_laws_28 : decode cX9_laws 28 = .ok (.getfield 27, 3) := by decide +kernel
set_option maxRecDepth 20000 in
theorem dX9_laws_31 : decode cX9_laws 31 = .ok (.iconst 0, 1) := by decide +kernel
set_option maxRecDepth 20000 in
theorem dX9_laws_32 : decode cX9_laws 32 = .ok (.invokevirtual 154, 3) := by decide +kernel
set_option maxRecDepth 20000 in
theorem dX9_laws_35 : decode cX9_laws 35 = .ok (.invokevirtual 186, 3) := by decide +kernel
set_option maxRecDepth 20000 in
theorem dX9_laws_38 : decode cX9_laws 38 = .ok (.aload_n 0, 1) := by decide +kernel
set_option maxRecDepth 20000 in
theorem dX9_laws_39 : decode cX9_laws 39 = .ok (.getfield 34, 3) := by decide +kernel
set_option maxRecDepth 20000 in
theorem dX9_laws_42 : decode cX9_laws 42 = .ok (.aload_n 0, 1) := by decide +kernel
set_option maxRecDepth 20000 in
theorem dX9_laws_43 : decode cX9_laws 43 = .ok (.getfield 43, 3) := by decide +kernel
set_option maxRecDepth 20000 in
theorem dX9_laws_46 : decode cX9_laws 46 = .ok (.invokevirtual 212, 3) := by decide +kernel
set_option maxRecDepth 20000 in
theorem dX9_laws_49 : decode cX9_laws 49 = .ok (.ifCond .eq 9, 3) := by decide +kernel
set_option maxRecDepth 20000 in
theorem dX9_laws_52 : decode cX9_laws 52 = .ok (.iload_n 1, 1) := by decide +kernel
set_option maxRecDepth 20000 in
theorem dX9_laws_53 : decode cX9_laws 53 = .ok (.iconst 1, 1) := by decide +kernel
set_option maxRecDepth 20000 in
theorem dX9_laws_54 : decode cX9_laws 54 = .ok (.iload_n 2, 1) := by decide +kernel
set_option maxRecDepth 20000 in
theorem dX9_laws_55 : decode cX9_laws 55 = .ok (.ishl, 1) := by decide +kernel
set_option maxRecDepth 20000 in
theorem dX9_laws_56 : decode cX9_laws 56 = .ok (.ior, 1) := by decide +kernel
set_option maxRecDepth 20000 in
theorem dX9_laws_57 : decode cX9_laws 57 = .ok (.istore_n 1, 1) := by decide +kernel
set_option maxRecDepth 20000 in
theorem dX9_laws_58 : decode cX9_laws 58 = .ok (.iinc 2 1, 3) := by decide +kernel
set_option maxRecDepth 20000 in
theorem dX9_laws_61 : decode cX9_laws 61 = .ok (.goto (-44), 3) := by decide +kernel
set_option maxRecDepth 20000 in
theorem dX9_laws_64 : decode cX9_laws 64 = .ok (.iload_n 1, 1) := by decide +kernel
set_option maxRecDepth 20000 in
theorem dX9_laws_65 : decode cX9_laws 65 = .ok (.ireturn, 1) := by decide +kernel
set_option maxRecDepth 20000 in
theorem dX9_odds_0 : decode cX9_odds 0 = .ok (.aload_n 0, 1) := by decide +kernel
set_option maxRecDepth 20000 in
theorem dX9_odds_1 : decode cX9_odds 1 = .ok (.getfield 20, 3) := by decide +kernel
set_option maxRecDepth 20000 in
theorem dX9_odds_4 : decode cX9_odds 4 = .ok (.iload_n 1, 1) := by decide +kernel
set_option maxRecDepth 20000 in
theorem dX9_odds_5 : decode cX9_odds 5 = .ok (.invokevirtual 102, 3) := by decide +kernel
set_option maxRecDepth 20000 in
theorem dX9_odds_8 : decode cX9_odds 8 = .ok (.ifnull 11, 3) := by decide +kernel
set_option maxRecDepth 20000 in
theorem dX9_odds_11 : decode cX9_odds 11 = .ok (.iload_n 2, 1) := by decide +kernel
set_option maxRecDepth 20000 in
theorem dX9_odds_12 : decode cX9_odds 12 = .ok (.iconst 1, 1) := by decide +kernel
set_option maxRecDepth 20000 in
theorem dX9_odds_13 : decode cX9_odds 13 = .ok (.invokestatic 72, 3) := by decide +kernel
end
section
set_option maxRecDepth 20000 in
theorem dX9_odds_16 : decode cX9_odds 16 = .ok (.ifCond .eq 7, 3) := by decide +kernel
set_option maxRecDepth 20000 in
theorem dX9_odds_19 : decode cX9_odds 19 = .ok (.ldc2_w 216, 3) := by decide +kernel
set_option maxRecDepth 20000 in
theorem dX9_odds_22 : decode cX9_odds 22 = .ok (.lreturn, 1) := by decide +kernel
set_option maxRecDepth 20000 in
theorem dX9_odds_23 : decode cX9_odds 23 = .ok (.aload_n 0, 1) := by decide +kernel
set_option maxRecDepth 20000 in
theorem dX9_odds_24 : decode cX9_odds 24 = .ok (.getfield 52, 3) := by decide +kernel
set_option maxRecDepth 20000 in
theorem dX9_odds_27 : decode cX9_odds 27 = .ok (.iload_n 1, 1) := by decide +kernel
set_option maxRecDepth 20000 in
theorem dX9_odds_28 : decode cX9_odds 28 = .ok (.invokevirtual 218, 3) := by decide +kernel
set_option maxRecDepth 20000 in
theorem dX9_odds_31 : decode cX9_odds 31 = .ok (.istore_n 3, 1) := by decide +kernel
set_option maxRecDepth 20000 in
theorem dX9_odds_32 : decode cX9_odds 32 = .ok (.aload_n 0, 1) := by decide +kernel
set_option maxRecDepth 20000 in
theorem dX9_odds_33 : decode cX9_odds 33 = .ok (.getfield 20, 3) := by decide +kernel
set_option maxRecDepth 20000 in
theorem dX9_odds_36 : decode cX9_odds 36 = .ok (.invokevirtual 221, 3) := by decide +kernel
set_option maxRecDepth 20000 in
theorem dX9_odds_39 : decode cX9_odds 39 = .ok (.istore 4, 2) := by decide +kernel
set_option maxRecDepth 20000 in
theorem dX9_odds_41 : decode cX9_odds 41 = .ok (.iload 4, 2) := by decide +kernel
set_option maxRecDepth 20000 in
theorem dX9_odds_43 : decode cX9_odds 43 = .ok (.iconst 1, 1) := by decide +kernel
set_option maxRecDepth 20000 in
theorem dX9_odds_44 : decode cX9_odds 44 = .ok (.if_icmp .le 22, 3) := by decide +kernel
set_option maxRecDepth 20000 in
theorem dX9_odds_47 : decode cX9_odds 47 = .ok (.iload_n 3, 1) := by decide +kernel
set_option maxRecDepth 20000 in
theorem dX9_odds_48 : decode cX9_odds 48 = .ok (.iconst 2, 1) := by decide +kernel
set_option maxRecDepth 20000 in
theorem dX9_odds_49 : decode cX9_odds 49 = .ok (.irem, 1) := by decide +kernel
set_option maxRecDepth 20000 in
theorem dX9_odds_50 : decode cX9_odds 50 = .ok (.ifCond .ne 16, 3) := by decide +kernel
set_option maxRecDepth 20000 in
theorem dX9_odds_53 : decode cX9_odds 53 = .ok (.iload_n 3, 1) := by decide +kernel
set_option maxRecDepth 20000 in
theorem dX9_odds_54 : decode cX9_odds 54 = .ok (.iconst 2, 1) := by decide +kernel
set_option maxRecDepth 20000 in
theorem dX9_odds_55 : decode cX9_odds 55 = .ok (.idiv, 1) := by decide +kernel
set_option maxRecDepth 20000 in
theorem dX9_odds_56 : decode cX9_odds 56 = .ok (.istore_n 3, 1) := by decide +kernel
set_option maxRecDepth 20000 in
theorem dX9_odds_57 : decode cX9_odds 57 = .ok (.iload 4, 2) := by decide +kernel
set_option maxRecDepth 20000 in
theorem dX9_odds_59 : decode cX9_odds 59 = .ok (.iconst 2, 1) := by decide +kernel
set_option maxRecDepth 20000 in
theorem dX9_odds_60 : decode cX9_odds 60 = .ok (.idiv, 1) := by decide +kernel
set_option maxRecDepth 20000 in
theorem dX9_odds_61 : decode cX9_odds 61 = .ok (.istore 4, 2) := by decide +kernel
set_option maxRecDepth 20000 in
theorem dX9_odds_63 : decode cX9_odds 63 = .ok (.goto (-22), 3) := by decide +kernel
set_option maxRecDepth 20000 in
theorem dX9_odds_66 : decode cX9_odds 66 = .ok (.iload_n 2, 1) := by decide +kernel
set_option maxRecDepth 20000 in
theorem dX9_odds_67 : decode cX9_odds 67 = .ok (.ifCond .ne 8, 3) := by decide +kernel
set_option maxRecDepth 20000 in
theorem dX9_odds_70 : decode cX9_odds 70 = .ok (.iload_n 3, 1) := by decide +kernel
set_option maxRecDepth 20000 in
theorem dX9_odds_71 : decode cX9_odds 71 = .ok (.i2l, 1) := by decide +kernel
set_option maxRecDepth 20000 in
theorem dX9_odds_72 : decode cX9_odds 72 = .ok (.goto 6, 3) := by decide +kernel
set_option maxRecDepth 20000 in
theorem dX9_odds_75 : decode cX9_odds 75 = .ok (.iload 4, 2) := by decide +kernel
set_option maxRecDepth 20000 in
theorem dX9_odds_77 : decode cX9_odds 77 = .ok (.i2l, 1) := by decide +kernel
set_option maxRecDepth 20000 in
theorem dX9_odds_78 : decode cX9_odds 78 = .ok (.lreturn, 1) := by decide +kernel
set_option maxRecDepth 20000 in
theorem dX9_sheet_0 : decode cX9_sheet 0 = .ok (.aload_n 0, 1) := by decide +kernel
set_option maxRecDepth 20000 in
theorem dX9_sheet_1 : decode cX9_sheet 1 = .ok (.iconst 0, 1) := by decide +kernel
set_option maxRecDepth 20000 in
theorem dX9_sheet_2 : decode cX9_sheet 2 = .ok (.putfield 63, 3) := by decide +kernel
set_option maxRecDepth 20000 in
theorem dX9_sheet_5 : decode cX9_sheet 5 = .ok (.aload_n 0, 1) := by decide +kernel
set_option maxRecDepth 20000 in
theorem dX9_sheet_6 : decode cX9_sheet 6 = .ok (.iload_n 1, 1) := by decide +kernel
set_option maxRecDepth 20000 in
theorem dX9_sheet_7 : decode cX9_sheet 7 = .ok (.invokevirtual 68, 3) := by decide +kernel
set_option maxRecDepth 20000 in
theorem dX9_sheet_10 : decode cX9_sheet 10 = .ok (.astore 4, 2) := by decide +kernel
set_option maxRecDepth 20000 in
theorem dX9_sheet_12 : decode cX9_sheet 12 = .ok (.aload 4, 2) := by decide +kernel
set_option maxRecDepth 20000 in
theorem dX9_sheet_14 : decode cX9_sheet 14 = .ok (.ifnonnull 5, 3) := by decide +kernel
set_option maxRecDepth 20000 in
theorem dX9_sheet_17 : decode cX9_sheet 17 = .ok (.iconst (-1), 1) := by decide +kernel
set_option maxRecDepth 20000 in
theorem dX9_sheet_18 : decode cX9_sheet 18 = .ok (.ireturn, 1) := by decide +kernel
set_option maxRecDepth 20000 in
theorem dX9_sheet_19 : decode cX9_sheet 19 = .ok (.iload_n 2, 1) := by decide +kernel
set_option maxRecDepth 20000 in
theorem dX9_sheet_20 : decode cX9_sheet 20 = .ok (.iconst 2, 1) := by decide +kernel
set_option maxRecDepth 20000 in
theorem dX9_sheet_21 : decode cX9_sheet 21 = .ok (.invokestatic 72, 3) := by decide +kernel
set_option maxRecDepth 20000 in
theorem dX9_sheet_24 : decode cX9_sheet 24 = .ok (.ifCond .ne 9, 3) := by decide +kernel
set_option maxRecDepth 20000 in
theorem dX9_sheet_27 : decode cX9_sheet 27 = .ok (.iload_n 3, 1) := by decide +kernel
set_option maxRecDepth 20000 in
theorem dX9_sheet_28 : decode cX9_sheet 28 = .ok (.bipush 60, 2) := by decide +kernel
set_option maxRecDepth 20000 in
theorem dX9_sheet_30 : decode cX9_sheet 30 = .ok (.if_icmp .le 6, 3) := by decide +kernel
set_option maxRecDepth 20000 in
theorem dX9_sheet_33 : decode cX9_sheet 33 = .ok (.bipush (-2), 2) := by decide +kernel
set_option maxRecDepth 20000 in
theorem dX9_sheet_35 : decode cX9_sheet 35 = .ok (.ireturn, 1) := by decide +kernel
set_option maxRecDepth 20000 in
theorem dX9_sheet_36 : decode cX9_sheet 36 = .ok (.iload_n 3, 1) := by decide +kernel
set_option maxRecDepth 20000 in
theorem dX9_sheet_37 : decode cX9_sheet 37 = .ok (.ifCond .ge 9, 3) := by decide +kernel
set_option maxRecDepth 20000 in
theorem dX9_sheet_40 : decode cX9_sheet 40 = .ok (.aload_n 0, 1) := by decide +kernel
set_option maxRecDepth 20000 in
theorem dX9_sheet_41 : decode cX9_sheet 41 = .ok (.iconst 4, 1) := by decide +kernel
set_option maxRecDepth 20000 in
theorem dX9_sheet_42 : decode cX9_sheet 42 = .ok (.invokevirtual 80, 3) := by decide +kernel
set_option maxRecDepth 20000 in
theorem dX9_sheet_45 : decode cX9_sheet 45 = .ok (.ireturn, 1) := by decide +kernel
set_option maxRecDepth 20000 in
theorem dX9_sheet_46 : decode cX9_sheet 46 = .ok (.aload 4, 2) := by decide +kernel
set_option maxRecDepth 20000 in
theorem dX9_sheet_48 : decode cX9_sheet 48 = .ok (.iload_n 2, 1) := by decide +kernel
set_option maxRecDepth 20000 in
theorem dX9_sheet_49 : decode cX9_sheet 49 = .ok (.iload_n 3, 1) := by decide +kernel
set_option maxRecDepth 20000 in
theorem dX9_sheet_50 : decode cX9_sheet 50 = .ok (.invokevirtual 224, 3) := by decide +kernel
set_option maxRecDepth 20000 in
theorem dX9_sheet_53 : decode cX9_sheet 53 = .ok (.iconst 1, 1) := by decide +kernel
set_option maxRecDepth 20000 in
theorem dX9_sheet_54 : decode cX9_sheet 54 = .ok (.ireturn, 1) := by decide +kernel
set_option maxRecDepth 20000 in
theorem dX9_lose_0 : decode cX9_lose 0 = .ok (.aload_n 0, 1) := by decide +kernel
set_option maxRecDepth 20000 in
theorem dX9_lose_1 : decode cX9_lose 1 = .ok (.iload_n 1, 1) := by decide +kernel
set_option maxRecDepth 20000 in
theorem dX9_lose_2 : decode cX9_lose 2 = .ok (.invokevirtual 68, 3) := by decide +kernel
set_option maxRecDepth 20000 in
theorem dX9_lose_5 : decode cX9_lose 5 = .ok (.astore_n 2, 1) := by decide +kernel
set_option maxRecDepth 20000 in
theorem dX9_lose_6 : decode cX9_lose 6 = .ok (.aload_n 2, 1) := by decide +kernel
set_option maxRecDepth 20000 in
theorem dX9_lose_7 : decode cX9_lose 7 = .ok (.ifnonnull 5, 3) := by decide +kernel
set_option maxRecDepth 20000 in
theorem dX9_lose_10 : decode cX9_lose 10 = .ok (.iconst (-1), 1) := by decide +kernel
set_option maxRecDepth 20000 in
theorem dX9_lose_11 : decode cX9_lose 11 = .ok (.ireturn, 1) := by decide +kernel
set_option maxRecDepth 20000 in
theorem dX9_lose_12 : decode cX9_lose 12 = .ok (.aload_n 2, 1) := by decide +kernel
set_option maxRecDepth 20000 in
theorem dX9_lose_13 : decode cX9_lose 13 = .ok (.getfield 227, 3) := by decide +kernel
set_option maxRecDepth 20000 in
theorem dX9_lose_16 : decode cX9_lose 16 = .ok (.ifCond .eq 7, 3) := by decide +kernel
set_option maxRecDepth 20000 in
theorem dX9_lose_19 : decode cX9_lose 19 = .ok (.iconst 1, 1) := by decide +kernel
set_option maxRecDepth 20000 in
theorem dX9_lose_20 : decode cX9_lose 20 = .ok (.goto 4, 3) := by decide +kernel
set_option maxRecDepth 20000 in
theorem dX9_lose_23 : decode cX9_lose 23 = .ok (.iconst 0, 1) := by decide +kernel
set_option maxRecDepth 20000 in
theorem dX9_lose_24 : decode cX9_lose 24 = .ok (.istore_n 3, 1) := by decide +kernel
set_option maxRecDepth 20000 in
theorem dX9_lose_25 : decode cX9_lose 25 = .ok (.aload_n 2, 1) := by decide +kernel
set_option maxRecDepth 20000 in
theorem dX9_lose_26 : decode cX9_lose 26 = .ok (.iconst 0, 1) := by decide +kernel
set_option maxRecDepth 20000 in
theorem dX9_lose_27 : decode cX9_lose 27 = .ok (.putfield 227, 3) := by decide +kernel
set_option maxRecDepth 20000 in
theorem dX9_lose_30 : decode cX9_lose 30 = .ok (.iload_n 3, 1) := by decide +kernel
set_option maxRecDepth 20000 in
theorem dX9_lose_31 : decode cX9_lose 31 = .ok (.ireturn, 1) := by decide +kernel
set_option maxRecDepth 20000 in
theorem dX9_put_0 : decode cX9_put 0 = .ok (.aload_n 0, 1) := by decide +kernel
set_option maxRecDepth 20000 in
theorem dX9_put_1 : decode cX9_put 1 = .ok (.iconst 0, 1) := by decide +kernel
set_option maxRecDepth 20000 in
theorem dX9_put_2 : decode cX9_put 2 = .ok (.putfield 63, 3) := by decide +kernel
set_option maxRecDepth 20000 in
theorem dX9_put_5 : decode cX9_put 5 = .ok (.aload_n 0, 1) := by decide +kernel
set_option maxRecDepth 20000 in
theorem dX9_put_6 : decode cX9_put 6 = .ok (.iload_n 1, 1) := by decide +kernel
set_option maxRecDepth 20000 in
theorem dX9_put_7 : decode cX9_put 7 = .ok (.invokevirtual 68, 3) := by decide +kernel
set_option maxRecDepth 20000 in
theorem dX9_put_10 : decode cX9_put 10 = .ok (.astore 4, 2) := by decide +kernel
set_option maxRecDepth 20000 in
theorem dX9_put_12 : decode cX9_put 12 = .ok (.aload 4, 2) := by decide +kernel
set_option maxRecDepth 20000 in
theorem dX9_put_14 : decode cX9_put 14 = .ok (.ifnonnull 5, 3) := by decide +kernel
set_option maxRecDepth 20000 in
theorem dX9_put_17 : decode cX9_put 17 = .ok (.iconst (-1), 1) := by decide +kernel
set_option maxRecDepth 20000 in
theorem dX9_put_18 : decode cX9_put 18 = .ok (.ireturn, 1) := by decide +kernel
set_option maxRecDepth 20000 in
theorem dX9_put_19 : decode cX9_put 19 = .ok (.aload 4, 2) := by decide +kernel
set_option maxRecDepth 20000 in
theorem dX9_put_21 : decode cX9_put 21 = .ok (.aload 4, 2) := by decide +kernel
set_option maxRecDepth 20000 in
theorem dX9_put_23 : decode cX9_put 23 = .ok (.getfield 231, 3) := by decide +kernel
set_option maxRecDepth 20000 in
theorem dX9_put_26 : decode cX9_put 26 = .ok (.iload_n 2, 1) := by decide +kernel
set_option maxRecDepth 20000 in
theorem dX9_put_27 : decode cX9_put 27 = .ok (.iconst 1, 1) := by decide +kernel
set_option maxRecDepth 20000 in
theorem dX9_put_28 : decode cX9_put 28 = .ok (.invokevirtual 76, 3) := by decide +kernel
set_option maxRecDepth 20000 in
theorem dX9_put_31 : decode cX9_put 31 = .ok (.istore 5, 2) := by decide +kernel
set_option maxRecDepth 20000 in
theorem dX9_put_33 : decode cX9_put 33 = .ok (.iload 5, 2) := by decide +kernel
set_option maxRecDepth 20000 in
theorem dX9_put_35 : decode cX9_put 35 = .ok (.ifCond .eq 10, 3) := by decide +kernel
set_option maxRecDepth 20000 in
theorem dX9_put_38 : decode cX9_put 38 = .ok (.aload_n 0, 1) := by decide +kernel
set_option maxRecDepth 20000 in
theorem dX9_put_39 : decode cX9_put 39 = .ok (.iload 5, 2) := by decide +kernel
set_option maxRecDepth 20000 in
theorem dX9_put_41 : decode cX9_put 41 = .ok (.invokevirtual 80, 3) := by decide +kernel
set_option maxRecDepth 20000 in
theorem dX9_put_44 : decode cX9_put 44 = .ok (.ireturn, 1) := by decide +kernel
set_option maxRecDepth 20000 in
theorem dX9_put_45 : decode cX9_put 45 = .ok (.aload 4, 2) := by decide +kernel
set_option maxRecDepth 20000 in
theorem dX9_put_47 : decode cX9_put 47 = .ok (.iload_n 2, 1) := by decide +kernel
set_option maxRecDepth 20000 in
theorem dX9_put_48 : decode cX9_put 48 = .ok (.iload_n 3, 1) := by decide +kernel
set_option maxRecDepth 20000 in
theorem dX9_put_49 : decode cX9_put 49 = .ok (.invokevirtual 234, 3) := by decide +kernel
set_option maxRecDepth 20000 in
theorem dX9_put_52 : decode cX9_put 52 = .ok (.iconst 1, 1) := by decide +kernel
set_option maxRecDepth 20000 in
theorem dX9_put_53 : decode cX9_put 53 = .ok (.ireturn, 1) := by decide +kernel
set_option maxRecDepth 20000 in
theorem dX9_cell_0 : decode cX9_cell 0 = .ok (.aload_n 0, 1) := by decide +kernel
set_option maxRecDepth 20000 in
theorem dX9_cell_1 : decode cX9_cell 1 = .ok (.iconst 0, 1) := by decide +kernel
set_option maxRecDepth 20000 in
theorem dX9_cell_2 : decode cX9_cell 2 = .ok (.putfield 63, 3) := by decide +kernel
set_option maxRecDepth 20000 in
theorem dX9_cell_5 : decode cX9_cell 5 = .ok (.aload_n 0, 1) := by decide +kernel
set_option maxRecDepth 20000 in
theorem dX9_cell_6 : decode cX9_cell 6 = .ok (.iload_n 1, 1) := by decide +kernel
set_option maxRecDepth 20000 in
theorem dX9_cell_7 : decode cX9_cell 7 = .ok (.invokevirtual 68, 3) := by decide +kernel
set_option maxRecDepth 20000 in
theorem dX9_cell_10 : decode cX9_cell 10 = .ok (.astore 4, 2) := by decide +kernel
set_option maxRecDepth 20000 in
theorem dX9_cell_12 : decode cX9_cell 12 = .ok (.aload 4, 2) := by decide +kernel
set_option maxRecDepth 20000 in
theorem dX9_cell_14 : decode cX9_cell 14 = .ok (.ifnull 11, 3) := by decide +kernel
set_option maxRecDepth 20000 in
theorem dX9_cell_17 : decode cX9_cell 17 = .ok (.iload_n 3, 1) := by decide +kernel
set_option maxRecDepth 20000 in
theorem dX9_cell_18 : decode cX9_cell 18 = .ok (.iconst 2, 1) := by decide +kernel
set_option maxRecDepth 20000 in
theorem dX9_cell_19 : decode cX9_cell 19 = .ok (.invokestatic 72, 3) := by decide +kernel
set_option maxRecDepth 20000 in
theorem dX9_cell_22 : decode cX9_cell 22 = .ok (.ifCond .eq 7, 3) := by decide +kernel
set_option maxRecDepth 20000 in
theorem dX9_cell_25 : decode cX9_cell 25 = .ok (.ldc2_w 216, 3) := by decide +kernel
set_option maxRecDepth 20000 in
theorem dX9_cell_28 : decode cX9_cell 28 = .ok (.lreturn, 1) := by decide +kernel
set_option maxRecDepth 20000 in
theorem dX9_cell_29 : decode cX9_cell 29 = .ok (.aload_n 0, 1) := by decide +kernel
set_option maxRecDepth 20000 in
theorem dX9_cell_30 : decode cX9_cell 30 = .ok (.aload 4, 2) := by decide +kernel
set_option maxRecDepth 20000 in
theorem dX9_cell_32 : decode cX9_cell 32 = .ok (.iload_n 3, 1) := by decide +kernel
set_option maxRecDepth 20000 in
theorem dX9_cell_33 : decode cX9_cell 33 = .ok (.iload_n 2, 1) := by decide +kernel
set_option maxRecDepth 20000 in
theorem dX9_cell_34 : decode cX9_cell 34 = .ok (.iconst 1, 1) := by decide +kernel
set_option maxRecDepth 20000 in
theorem dX9_cell_35 : decode cX9_cell 35 = .ok (.invokevirtual 76, 3) := by decide +kernel
set_option maxRecDepth 20000 in
theorem dX9_cell_38 : decode cX9_cell 38 = .ok (.putfield 63, 3) := by decide +kernel
set_option maxRecDepth 20000 in
theorem dX9_cell_41 : decode cX9_cell 41 = .ok (.aload_n 0, 1) := by decide +kernel
set_option maxRecDepth 20000 in
theorem dX9_cell_42 : decode cX9_cell 42 = .ok (.getfield 63, 3) := by decide +kernel
set_option maxRecDepth 20000 in
theorem dX9_cell_45 : decode cX9_cell 45 = .ok (.ifCond .ne 13, 3) := by decide +kernel
set_option maxRecDepth 20000 in
theorem dX9_cell_48 : decode cX9_cell 48 = .ok (.aload 4, 2) := by decide +kernel
set_option maxRecDepth 20000 in
theorem dX9_cell_50 : decode cX9_cell 50 = .ok (.iload_n 2, 1) := by decide +kernel
set_option maxRecDepth 20000 in
theorem dX9_cell_51 : decode cX9_cell 51 = .ok (.invokevirtual 237, 3) := by decide +kernel
set_option maxRecDepth 20000 in
theorem dX9_cell_54 : decode cX9_cell 54 = .ok (.i2l, 1) := by decide +kernel
set_option maxRecDepth 20000 in
theorem dX9_cell_55 : decode cX9_cell 55 = .ok (.goto 6, 3) := by decide +kernel
set_option maxRecDepth 20000 in
theorem dX9_cell_58 : decode cX9_cell 58 = .ok (.ldc2_w 216, 3) := by decide +kernel
set_option maxRecDepth 20000 in
theorem dX9_cell_61 : decode cX9_cell 61 = .ok (.lreturn, 1) := by decide +kernel
set_option maxRecDepth 20000 in
theorem dX9_copy_0 : decode cX9_copy 0 = .ok (.aload_n 0, 1) := by decide +kernel
set_option maxRecDepth 20000 in
theorem dX9_copy_1 : decode cX9_copy 1 = .ok (.iconst 0, 1) := by decide +kernel
set_option maxRecDepth 20000 in
theorem dX9_copy_2 : decode cX9_copy 2 = .ok (.putfield 63, 3) := by decide +kernel
set_option maxRecDepth 20000 in
theorem dX9_copy_5 : decode cX9_copy 5 = .ok (.aload_n 0, 1) := by decide +kernel
set_option maxRecDepth 20000 in
theorem dX9_copy_6 : decode cX9_copy 6 = .ok (.iload_n 1, 1) := by decide +kernel
set_option maxRecDepth 20000 in
theorem dX9_copy_7 : decode cX9_copy 7 = .ok (.invokevirtual 68, 3) := by decide +kernel
set_option maxRecDepth 20000 in
theorem dX9_copy_10 : decode cX9_copy 10 = .ok (.astore 6, 2) := by decide +kernel
set_option maxRecDepth 20000 in
theorem dX9_copy_12 : decode cX9_copy 12 = .ok (.aload_n 0, 1) := by decide +kernel
set_option maxRecDepth 20000 in
theorem dX9_copy_13 : decode cX9_copy 13 = .ok (.iload_n 3, 1) := by decide +kernel
set_option maxRecDepth 20000 in
theorem dX9_copy_14 : decode cX9_copy 14 = .ok (.invokevirtual 68, 3) := by decide +kernel
set_option maxRecDepth 20000 in
theorem dX9_copy_17 : decode cX9_copy 17 = .ok (.astore 7, 2) := by decide +kernel
set_option maxRecDepth 20000 in
theorem dX9_copy_19 : decode cX9_copy 19 = .ok (.aload 6, 2) := by decide +kernel
set_option maxRecDepth 20000 in
theorem dX9_copy_21 : decode cX9_copy 21 = .ok (.ifnull 8, 3) := by decide +kernel
set_option maxRecDepth 20000 in
theorem dX9_copy_24 : decode cX9_copy 24 = .ok (.aload 7, 2) := by decide +kernel
set_option maxRecDepth 20000 in
theorem dX9_copy_26 : decode cX9_copy 26 = .ok (.ifnonnull 5, 3) := by decide +kernel
set_option maxRecDepth 20000 in
theorem dX9_copy_29 : decode cX9_copy 29 = .ok (.iconst (-1), 1) := by decide +kernel
set_option maxRecDepth 20000 in
theorem dX9_copy_30 : decode cX9_copy 30 = .ok (.ireturn, 1) := by decide +kernel
set_option maxRecDepth 20000 in
theorem dX9_copy_31 : decode cX9_copy 31 = .ok (.aload 6, 2) := by decide +kernel
set_option maxRecDepth 20000 in
theorem dX9_copy_33 : decode cX9_copy 33 = .ok (.getfield 227, 3) := by decide +kernel
set_option maxRecDepth 20000 in
theorem dX9_copy_36 : decode cX9_copy 36 = .ok (.ifCond .eq 11, 3) := by decide +kernel
set_option maxRecDepth 20000 in
theorem dX9_copy_39 : decode cX9_copy 39 = .ok (.aload 7, 2) := by decide +kernel
set_option maxRecDepth 20000 in
theorem dX9_copy_41 : decode cX9_copy 41 = .ok (.getfield 227, 3) := by decide +kernel
set_option maxRecDepth 20000 in
theorem dX9_copy_44 : decode cX9_copy 44 = .ok (.ifCond .ne 9, 3) := by decide +kernel
set_option maxRecDepth 20000 in
theorem dX9_copy_47 : decode cX9_copy 47 = .ok (.aload_n 0, 1) := by decide +kernel
set_option maxRecDepth 20000 in
theorem dX9_copy_48 : decode cX9_copy 48 = .ok (.iconst 1, 1) := by decide +kernel
set_option maxRecDepth 20000 in
theorem dX9_copy_49 : decode cX9_copy 49 = .ok (.invokevirtual 80, 3) := by decide +kernel
set_option maxRecDepth 20000 in
theorem dX9_copy_52 : decode cX9_copy 52 = .ok (.ireturn, 1) := by decide +kernel
set_option maxRecDepth 20000 in
theorem dX9_copy_53 : decode cX9_copy 53 = .ok (.aload 6, 2) := by decide +kernel
set_option maxRecDepth 20000 in
theorem dX9_copy_55 : decode cX9_copy 55 = .ok (.getfield 231, 3) := by decide +kernel
set_option maxRecDepth 20000 in
theorem dX9_copy_58 : decode cX9_copy 58 = .ok (.aload 7, 2) := by decide +kernel
set_option maxRecDepth 20000 in
theorem dX9_copy_60 : decode cX9_copy 60 = .ok (.getfield 231, 3) := by decide +kernel
set_option maxRecDepth 20000 in
theorem dX9_copy_63 : decode cX9_copy 63 = .ok (.if_icmp .eq 9, 3) := by decide +kernel
set_option maxRecDepth 20000 in
theorem dX9_copy_66 : decode cX9_copy 66 = .ok (.aload_n 0, 1) := by decide +kernel
set_option maxRecDepth 20000 in
theorem dX9_copy_67 : decode cX9_copy 67 = .ok (.iconst 2, 1) := by decide +kernel
set_option maxRecDepth 20000 in
theorem dX9_copy_68 : decode cX9_copy 68 = .ok (.invokevirtual 80, 3) := by decide +kernel
set_option maxRecDepth 20000 in
theorem dX9_copy_71 : decode cX9_copy 71 = .ok (.ireturn, 1) := by decide +kernel
set_option maxRecDepth 20000 in
theorem dX9_copy_72 : decode cX9_copy 72 = .ok (.iload 5, 2) := by decide +kernel
set_option maxRecDepth 20000 in
theorem dX9_copy_74 : decode cX9_copy 74 = .ok (.ifCond .lt 26, 3) := by decide +kernel
set_option maxRecDepth 20000 in
theorem dX9_copy_77 : decode cX9_copy 77 = .ok (.aload 6, 2) := by decide +kernel
set_option maxRecDepth 20000 in
theorem dX9_copy_79 : decode cX9_copy 79 = .ok (.iload_n 2, 1) := by decide +kernel
set_option maxRecDepth 20000 in
theorem dX9_copy_80 : decode cX9_copy 80 = .ok (.iload 5, 2) := by decide +kernel
set_option maxRecDepth 20000 in
theorem dX9_copy_82 : decode cX9_copy 82 = .ok (.invokevirtual 240, 3) := by decide +kernel
set_option maxRecDepth 20000 in
theorem dX9_copy_85 : decode cX9_copy 85 = .ok (.ifCond .ne 15, 3) := by decide +kernel
set_option maxRecDepth 20000 in
theorem dX9_copy_88 : decode cX9_copy 88 = .ok (.aload 7, 2) := by decide +kernel
set_option maxRecDepth 20000 in
theorem dX9_copy_90 : decode cX9_copy 90 = .ok (.iload 4, 2) := by decide +kernel
set_option maxRecDepth 20000 in
theorem dX9_copy_92 : decode cX9_copy 92 = .ok (.iload 5, 2) := by decide +kernel
set_option maxRecDepth 20000 in
theorem dX9_copy_94 : decode cX9_copy 94 = .ok (.invokevirtual 240, 3) := by decide +kernel
set_option maxRecDepth 20000 in
theorem dX9_copy_97 : decode cX9_copy 97 = .ok (.ifCond .eq 9, 3) := by decide +kernel
set_option maxRecDepth 20000 in
theorem dX9_copy_100 : decode cX9_copy 100 = .ok (.aload_n 0, 1) := by decide +kernel
set_option maxRecDepth 20000 in
theorem dX9_copy_101 : decode cX9_copy 101 = .ok (.iconst 3, 1) := by decide +kernel
set_option maxRecDepth 20000 in
theorem dX9_copy_102 : decode cX9_copy 102 = .ok (.invokevirtual 80, 3) := by decide +kernel
set_option maxRecDepth 20000 in
theorem dX9_copy_105 : decode cX9_copy 105 = .ok (.ireturn, 1) := by decide +kernel
set_option maxRecDepth 20000 in
theorem dX9_copy_106 : decode cX9_copy 106 = .ok (.aload 6, 2) := by decide +kernel
set_option maxRecDepth 20000 in
theorem dX9_copy_108 : decode cX9_copy 108 = .ok (.getfield 243, 3) := by decide +kernel
set_option maxRecDepth 20000 in
theorem dX9_copy_111 : decode cX9_copy 111 = .ok (.iload_n 2, 1) := by decide +kernel
set_option maxRecDepth 20000 in
theorem dX9_copy_112 : decode cX9_copy 112 = .ok (.aload 7, 2) := by decide +kernel
set_option maxRecDepth 20000 in
theorem dX9_copy_114 : decode cX9_copy 114 = .ok (.getfield 243, 3) := by decide +kernel
set_option maxRecDepth 20000 in
theorem dX9_copy_117 : decode cX9_copy 117 = .ok (.iload 4, 2) := by decide +kernel
set_option maxRecDepth 20000 in
theorem dX9_copy_119 : decode cX9_copy 119 = .ok (.iload 5, 2) := by decide +kernel
set_option maxRecDepth 20000 in
theorem dX9_copy_121 : decode cX9_copy 121 = .ok (.invokestatic 247, 3) := by decide +kernel
set_option maxRecDepth 20000 in
theorem dX9_copy_124 : decode cX9_copy 124 = .ok (.iload 5, 2) := by decide +kernel
set_option maxRecDepth 20000 in
theorem dX9_copy_126 : decode cX9_copy 126 = .ok (.ireturn, 1) := by decide +kernel
set_option maxRecDepth 20000 in
theorem dX9_tell_0 : decode cX9_tell 0 = .ok (.aload_n 0, 1) := by decide +kernel
set_option maxRecDepth 20000 in
theorem dX9_tell_1 : decode cX9_tell 1 = .ok (.getfield 20, 3) := by decide +kernel
set_option maxRecDepth 20000 in
theorem dX9_tell_4 : decode cX9_tell 4 = .ok (.iload_n 1, 1) := by decide +kernel
set_option maxRecDepth 20000 in
theorem dX9_tell_5 : decode cX9_tell 5 = .ok (.invokevirtual 102, 3) := by decide +kernel
set_option maxRecDepth 20000 in
theorem dX9_tell_8 : decode cX9_tell 8 = .ok (.astore_n 2, 1) := by decide +kernel
set_option maxRecDepth 20000 in
theorem dX9_tell_9 : decode cX9_tell 9 = .ok (.aload_n 2, 1) := by decide +kernel
set_option maxRecDepth 20000 in
theorem dX9_tell_10 : decode cX9_tell 10 = .ok (.ifnonnull 7, 3) := by decide +kernel
set_option maxRecDepth 20000 in
theorem dX9_tell_13 : decode cX9_tell 13 = .ok (.iconst (-1), 1) := by decide +kernel
set_option maxRecDepth 20000 in
theorem dX9_tell_14 : decode cX9_tell 14 = .ok (.goto 11, 3) := by decide +kernel
set_option maxRecDepth 20000 in
theorem dX9_tell_17 : decode cX9_tell 17 = .ok (.aload_n 0, 1) := by decide +kernel
set_option maxRecDepth 20000 in
theorem dX9_tell_18 : decode cX9_tell 18 = .ok (.getfield 59, 3) := by decide +kernel
set_option maxRecDepth 20000 in
theorem dX9_tell_21 : decode cX9_tell 21 = .ok (.aload_n 2, 1) := by decide +kernel
set_option maxRecDepth 20000 in
theorem dX9_tell_22 : decode cX9_tell 22 = .ok (.invokevirtual 253, 3) := by decide +kernel
set_option maxRecDepth 20000 in
theorem dX9_tell_25 : decode cX9_tell 25 = .ok (.ireturn, 1) := by decide +kernel
set_option maxRecDepth 20000 in
theorem dX9_call_0 : decode cX9_call 0 = .ok (.aload_n 0, 1) := by decide +kernel
set_option maxRecDepth 20000 in
theorem dX9_call_1 : decode cX9_call 1 = .ok (.getfield 20, 3) := by decide +kernel
set_option maxRecDepth 20000 in
theorem dX9_call_4 : decode cX9_call 4 = .ok (.iload_n 1, 1) := by decide +kernel
set_option maxRecDepth 20000 in
theorem dX9_call_5 : decode cX9_call 5 = .ok (.invokevirtual 102, 3) := by decide +kernel
set_option maxRecDepth 20000 in
theorem dX9_call_8 : decode cX9_call 8 = .ok (.astore_n 2, 1) := by decide +kernel
set_option maxRecDepth 20000 in
theorem dX9_call_9 : decode cX9_call 9 = .ok (.aload_n 2, 1) := by decide +kernel
set_option maxRecDepth 20000 in
theorem dX9_call_10 : decode cX9_call 10 = .ok (.ifnonnull 7, 3) := by decide +kernel
set_option maxRecDepth 20000 in
theorem dX9_call_13 : decode cX9_call 13 = .ok (.iconst (-1), 1) := by decide +kernel
set_option maxRecDepth 20000 in
theorem dX9_call_14 : decode cX9_call 14 = .ok (.goto 11, 3) := by decide +kernel
set_option maxRecDepth 20000 in
theorem dX9_call_17 : decode cX9_call 17 = .ok (.aload_n 0, 1) := by decide +kernel
set_option maxRecDepth 20000 in
theorem dX9_call_18 : decode cX9_call 18 = .ok (.getfield 59, 3) := by decide +kernel
set_option maxRecDepth 20000 in
theorem dX9_call_21 : decode cX9_call 21 = .ok (.aload_n 2, 1) := by decide +kernel
set_option maxRecDepth 20000 in
theorem dX9_call_22 : decode cX9_call 22 = .ok (.invokevirtual 257, 3) := by decide +kernel
set_option maxRecDepth 20000 in
theorem dX9_call_25 : decode cX9_call 25 = .ok (.ireturn, 1) := by decide +kernel
set_option maxRecDepth 20000 in
theorem dX9_as_0 : decode cX9_as 0 = .ok (.aload_n 0, 1) := by decide +kernel
set_option maxRecDepth 20000 in
theorem dX9_as_1 : decode cX9_as 1 = .ok (.iconst 0, 1) := by decide +kernel
set_option maxRecDepth 20000 in
theorem dX9_as_2 : decode cX9_as 2 = .ok (.putfield 63, 3) := by decide +kernel
set_option maxRecDepth 20000 in
theorem dX9_as_5 : decode cX9_as 5 = .ok (.aload_n 0, 1) := by decide +kernel
set_option maxRecDepth 20000 in
theorem dX9_as_6 : decode cX9_as 6 = .ok (.getfield 20, 3) := by decide +kernel
set_option maxRecDepth 20000 in
theorem dX9_as_9 : decode cX9_as 9 = .ok (.iload_n 1, 1) := by decide +kernel
set_option maxRecDepth 20000 in
theorem dX9_as_10 : decode cX9_as 10 = .ok (.invokevirtual 102, 3) := by decide +kernel
set_option maxRecDepth 20000 in
theorem dX9_as_13 : decode cX9_as 13 = .ok (.astore_n 3, 1) := by decide +kernel
set_option maxRecDepth 20000 in
theorem dX9_as_14 : decode cX9_as 14 = .ok (.aload_n 3, 1) := by decide +kernel
set_option maxRecDepth 20000 in
theorem dX9_as_15 : decode cX9_as 15 = .ok (.ifnonnull 5, 3) := by decide +kernel
set_option maxRecDepth 20000 in
theorem dX9_as_18 : decode cX9_as 18 = .ok (.iconst (-1), 1) := by decide +kernel
set_option maxRecDepth 20000 in
theorem dX9_as_19 : decode cX9_as 19 = .ok (.ireturn, 1) := by decide +kernel
set_option maxRecDepth 20000 in
theorem dX9_as_20 : decode cX9_as 20 = .ok (.iload_n 2, 1) := by decide +kernel
set_option maxRecDepth 20000 in
theorem dX9_as_21 : decode cX9_as 21 = .ok (.iconst 2, 1) := by decide +kernel
set_option maxRecDepth 20000 in
theorem dX9_as_22 : decode cX9_as 22 = .ok (.invokestatic 72, 3) := by decide +kernel
set_option maxRecDepth 20000 in
theorem dX9_as_25 : decode cX9_as 25 = .ok (.ifCond .eq 6, 3) := by decide +kernel
set_option maxRecDepth 20000 in
theorem dX9_as_28 : decode cX9_as 28 = .ok (.bipush (-2), 2) := by decide +kernel
set_option maxRecDepth 20000 in
theorem dX9_as_30 : decode cX9_as 30 = .ok (.ireturn, 1) := by decide +kernel
set_option maxRecDepth 20000 in
theorem dX9_as_31 : decode cX9_as 31 = .ok (.aload_n 3, 1) := by decide +kernel
set_option maxRecDepth 20000 in
theorem dX9_as_32 : decode cX9_as 32 = .ok (.getfield 106, 3) := by decide +kernel
set_option maxRecDepth 20000 in
theorem dX9_as_35 : decode cX9_as 35 = .ok (.iload_n 2, 1) := by decide +kernel
set_option maxRecDepth 20000 in
theorem dX9_as_36 : decode cX9_as 36 = .ok (.if_icmp .ge 11, 3) := by decide +kernel
set_option maxRecDepth 20000 in
theorem dX9_as_39 : decode cX9_as 39 = .ok (.aload_n 0, 1) := by decide +kernel
set_option maxRecDepth 20000 in
theorem dX9_as_40 : decode cX9_as 40 = .ok (.iconst 2, 1) := by decide +kernel
set_option maxRecDepth 20000 in
theorem dX9_as_41 : decode cX9_as 41 = .ok (.invokevirtual 80, 3) := by decide +kernel
set_option maxRecDepth 20000 in
theorem dX9_as_44 : decode cX9_as 44 = .ok (.goto 4, 3) := by decide +kernel
set_option maxRecDepth 20000 in
theorem dX9_as_47 : decode cX9_as 47 = .ok (.iconst 1, 1) := by decide +kernel
set_option maxRecDepth 20000 in
theorem dX9_as_48 : decode cX9_as 48 = .ok (.ireturn, 1) := by decide +kernel
set_option maxRecDepth 20000 in
theorem dX9_trace_0 : decode cX9_trace 0 = .ok (.aload_n 0, 1) := by decide +kernel
set_option maxRecDepth 20000 in
theorem dX9_trace_1 : decode cX9_trace 1 = .ok (.getfield 59, 3) := by decide +kernel
set_option maxRecDepth 20000 in
theorem dX9_trace_4 : decode cX9_trace 4 = .ok (.getfield 260, 3) := by decide +kernel
set_option maxRecDepth 20000 in
theorem dX9_trace_7 : decode cX9_trace 7 = .ok (.ireturn, 1) := by decide +kernel
set_option maxRecDepth 20000 in
theorem dX9_fault_0 : decode cX9_fault 0 = .ok (.aload_n 0, 1) := by decide +kernel
set_option maxRecDepth 20000 in
theorem dX9_fault_1 : decode cX9_fault 1 = .ok (.getfield 63, 3) := by decide +kernel
set_option maxRecDepth 20000 in
theorem dX9_fault_4 : decode cX9_fault 4 = .ok (.ireturn, 1) := by decide +kernel
set_option maxRecDepth 20000 in
theorem dX9_many_0 : decode cX9_many 0 = .ok (.iload_n 1, 1) := by decide +kernel
set_option maxRecDepth 20000 in
theorem dX9_many_1 : decode cX9_many 1 = .ok (.tableswitch 63 0 3 #[31, 39, 47, 55], 31) := by decide +kernel
set_option maxRecDepth 20000 in
theorem dX9_many_32 : decode cX9_many 32 = .ok (.aload_n 0, 1) := by decide +kernel
set_option maxRecDepth 20000 in
theorem dX9_many_33 : decode cX9_many 33 = .ok (.getfield 20, 3) := by decide +kernel
set_option maxRecDepth 20000 in
theorem dX9_many_36 : decode cX9_many 36 = .ok (.getfield 101, 3) := by decide +kernel
set_option maxRecDepth 20000 in
theorem dX9_many_39 : decode cX9_many 39 = .ok (.ireturn, 1) := by decide +kernel
set_option maxRecDepth 20000 in
theorem dX9_many_40 : decode cX9_many 40 = .ok (.aload_n 0, 1) := by decide +kernel
set_option maxRecDepth 20000 in
theorem dX9_many_41 : decode cX9_many 41 = .ok (.getfield 27, 3) := by decide +kernel
set_option maxRecDepth 20000 in
theorem dX9_many_44 : decode cX9_many 44 = .ok (.getfield 97, 3) := by decide +kernel
set_option maxRecDepth 20000 in
theorem dX9_many_47 : decode cX9_many 47 = .ok (.ireturn, 1) := by decide +kernel
set_option maxRecDepth 20000 in
theorem dX9_many_48 : decode cX9_many 48 = .ok (.aload_n 0, 1) := by decide +kernel
set_option maxRecDepth 20000 in
theorem dX9_many_49 : decode cX9_many 49 = .ok (.getfield 34, 3) := by decide +kernel
set_option maxRecDepth 20000 in
theorem dX9_many_52 : decode cX9_many 52 = .ok (.getfield 100, 3) := by decide +kernel
set_option maxRecDepth 20000 in
theorem dX9_many_55 : decode cX9_many 55 = .ok (.ireturn, 1) := by decide +kernel
set_option maxRecDepth 20000 in
theorem dX9_many_56 : decode cX9_many 56 = .ok (.aload_n 0, 1) := by decide +kernel
set_option maxRecDepth 20000 in
theorem dX9_many_57 : decode cX9_many 57 = .ok (.getfield 20, 3) := by decide +kernel
set_option maxRecDepth 20000 in
theorem dX9_many_60 : decode cX9_many 60 = .ok (.getfield 123, 3) := by decide +kernel
set_option maxRecDepth 20000 in
theorem dX9_many_63 : decode cX9_many 63 = .ok (.ireturn, 1) := by decide +kernel
set_option maxRecDepth 20000 in
theorem dX9_many_64 : decode cX9_many 64 = .ok (.bipush (-2), 2) := by decide +kernel
set_option maxRecDepth 20000 in
theorem dX9_many_66 : decode cX9_many 66 = .ok (.ireturn, 1) := by decide +kernel
set_option maxRecDepth 20000 in
theorem dX9_sheetAt_0 : decode cX9_sheetAt 0 = .ok (.iload_n 1, 1) := by decide +kernel
set_option maxRecDepth 20000 in
theorem dX9_sheetAt_1 : decode cX9_sheetAt 1 = .ok (.ifCond .lt 17, 3) := by decide +kernel
set_option maxRecDepth 20000 in
theorem dX9_sheetAt_4 : decode cX9_sheetAt 4 = .ok (.iload_n 1, 1) := by decide +kernel
set_option maxRecDepth 20000 in
theorem dX9_sheetAt_5 : decode cX9_sheetAt 5 = .ok (.iconst 4, 1) := by decide +kernel
set_option maxRecDepth 20000 in
theorem dX9_sheetAt_6 : decode cX9_sheetAt 6 = .ok (.if_icmp .ge 12, 3) := by decide +kernel
set_option maxRecDepth 20000 in
theorem dX9_sheetAt_9 : decode cX9_sheetAt 9 = .ok (.aload_n 0, 1) := by decide +kernel
set_option maxRecDepth 20000 in
theorem dX9_sheetAt_10 : decode cX9_sheetAt 10 = .ok (.getfield 13, 3) := by decide +kernel
set_option maxRecDepth 20000 in
theorem dX9_sheetAt_13 : decode cX9_sheetAt 13 = .ok (.iload_n 1, 1) := by decide +kernel
set_option maxRecDepth 20000 in
theorem dX9_sheetAt_14 : decode cX9_sheetAt 14 = .ok (.aaload, 1) := by decide +kernel
set_option maxRecDepth 20000 in
theorem dX9_sheetAt_15 : decode cX9_sheetAt 15 = .ok (.goto 4, 3) := by decide +kernel
set_option maxRecDepth 20000 in
theorem dX9_sheetAt_18 : decode cX9_sheetAt 18 = .ok (.aconst_null, 1) := by decide +kernel
set_option maxRecDepth 20000 in
theorem dX9_sheetAt_19 : decode cX9_sheetAt 19 = .ok (.areturn, 1) := by decide +kernel
set_option maxRecDepth 20000 in
theorem dX9_refusalOf_0 : decode cX9_refusalOf 0 = .ok (.iload_n 1, 1) := by decide +kernel
set_option maxRecDepth 20000 in
theorem dX9_refusalOf_1 : decode cX9_refusalOf 1 = .ok (.iload_n 2, 1) := by decide +kernel
set_option maxRecDepth 20000 in
theorem dX9_refusalOf_2 : decode cX9_refusalOf 2 = .ok (.invokestatic 72, 3) := by decide +kernel
set_option maxRecDepth 20000 in
theorem dX9_refusalOf_5 : decode cX9_refusalOf 5 = .ok (.ifCond .eq 6, 3) := by decide +kernel
set_option maxRecDepth 20000 in
theorem dX9_refusalOf_8 : decode cX9_refusalOf 8 = .ok (.bipush (-2), 2) := by decide +kernel
set_option maxRecDepth 20000 in
theorem dX9_refusalOf_10 : decode cX9_refusalOf 10 = .ok (.ireturn, 1) := by decide +kernel
set_option maxRecDepth 20000 in
theorem dX9_refusalOf_11 : decode cX9_refusalOf 11 = .ok (.aload_n 0, 1) := by decide +kernel
set_option maxRecDepth 20000 in
theorem dX9_refusalOf_12 : decode cX9_refusalOf 12 = .ok (.getfield 20, 3) := by decide +kernel
set_option maxRecDepth 20000 in
theorem dX9_refusalOf_15 : decode cX9_refusalOf 15 = .ok (.getfield 101, 3) := by decide +kernel
set_option maxRecDepth 20000 in
theorem dX9_refusalOf_18 : decode cX9_refusalOf 18 = .ok (.ifCond .ne 8, 3) := by decide +kernel
set_option maxRecDepth 20000 in
theorem dX9_refusalOf_21 : decode cX9_refusalOf 21 = .ok (.bipush (-3), 2) := by decide +kernel
set_option maxRecDepth 20000 in
theorem dX9_refusalOf_23 : decode cX9_refusalOf 23 = .ok (.goto 4, 3) := by decide +kernel
set_option maxRecDepth 20000 in
theorem dX9_refusalOf_26 : decode cX9_refusalOf 26 = .ok (.iconst 0, 1) := by decide +kernel
set_option maxRecDepth 20000 in
theorem dX9_refusalOf_27 : decode cX9_refusalOf 27 = .ok (.ireturn, 1) := by decide +kernel
set_option maxRecDepth 20000 in
theorem dX9_cameTo_0 : decode cX9_cameTo 0 = .ok (.aload_n 0, 1) := by decide +kernel
set_option maxRecDepth 20000 in
theorem dX9_cameTo_1 : decode cX9_cameTo 1 = .ok (.iload_n 1, 1) := by decide +kernel
set_option maxRecDepth 20000 in
theorem dX9_cameTo_2 : decode cX9_cameTo 2 = .ok (.putfield 63, 3) := by decide +kernel
set_option maxRecDepth 20000 in
theorem dX9_cameTo_5 : decode cX9_cameTo 5 = .ok (.bipush (-10), 2) := by decide +kernel
set_option maxRecDepth 20000 in
theorem dX9_cameTo_7 : decode cX9_cameTo 7 = .ok (.iload_n 1, 1) := by decide +kernel
set_option maxRecDepth 20000 in
theorem dX9_cameTo_8 : decode cX9_cameTo 8 = .ok (.isub, 1) := by decide +kernel
set_option maxRecDepth 20000 in
theorem dX9_cameTo_9 : decode cX9_cameTo 9 = .ok (.ireturn, 1) := by decide +kernel
set_option maxRecDepth 20000 in
theorem dX9_namesThings_0 : decode cX9_namesThings 0 = .ok (.iconst 0, 1) := by decide +kernel
set_option maxRecDepth 20000 in
theorem dX9_namesThings_1 : decode cX9_namesThings 1 = .ok (.istore_n 3, 1) := by decide +kernel
set_option maxRecDepth 20000 in
theorem dX9_namesThings_2 : decode cX9_namesThings 2 = .ok (.iload_n 3, 1) := by decide +kernel
set_option maxRecDepth 20000 in
theorem dX9_namesThings_3 : decode cX9_namesThings 3 = .ok (.aload_n 0, 1) := by decide +kernel
set_option maxRecDepth 20000 in
theorem dX9_namesThings_4 : decode cX9_namesThings 4 = .ok (.getfield 20, 3) := by decide +kernel
set_option maxRecDepth 20000 in
theorem dX9_namesThings_7 : decode cX9_namesThings 7 = .ok (.getfield 101, 3) := by decide +kernel
set_option maxRecDepth 20000 in
theorem dX9_namesThings_10 : decode cX9_namesThings 10 = .ok (.if_icmp .ge 39, 3) := by decide +kernel
set_option maxRecDepth 20000 in
theorem dX9_namesThings_13 : decode cX9_namesThings 13 = .ok (.aload_n 1, 1) := by decide +kernel
set_option maxRecDepth 20000 in
theorem dX9_namesThings_14 : decode cX9_namesThings 14 = .ok (.iload_n 2, 1) := by decide +kernel
set_option maxRecDepth 20000 in
theorem dX9_namesThings_15 : decode cX9_namesThings 15 = .ok (.iload_n 3, 1) := by decide +kernel
set_option maxRecDepth 20000 in
theorem dX9_namesThings_16 : decode cX9_namesThings 16 = .ok (.iadd, 1) := by decide +kernel
set_option maxRecDepth 20000 in
theorem dX9_namesThings_17 : decode cX9_namesThings 17 = .ok (.invokevirtual 237, 3) := by decide +kernel
set_option maxRecDepth 20000 in
theorem dX9_namesThings_20 : decode cX9_namesThings 20 = .ok (.istore 4, 2) := by decide +kernel
set_option maxRecDepth 20000 in
theorem dX9_namesThings_22 : decode cX9_namesThings 22 = .ok (.iload 4, 2) := by decide +kernel
set_option maxRecDepth 20000 in
theorem dX9_namesThings_24 : decode cX9_namesThings 24 = .ok (.bipush (-9), 2) := by decide +kernel
set_option maxRecDepth 20000 in
theorem dX9_namesThings_26 : decode cX9_namesThings 26 = .ok (.if_icmp .eq 17, 3) := by decide +kernel
set_option maxRecDepth 20000 in
theorem dX9_namesThings_29 : decode cX9_namesThings 29 = .ok (.aload_n 0, 1) := by decide +kernel
set_option maxRecDepth 20000 in
theorem dX9_namesThings_30 : decode cX9_namesThings 30 = .ok (.getfield 20, 3) := by decide +kernel
set_option maxRecDepth 20000 in
theorem dX9_namesThings_33 : decode cX9_namesThings 33 = .ok (.iload 4, 2) := by decide +kernel
set_option maxRecDepth 20000 in
theorem dX9_namesThings_35 : decode cX9_namesThings 35 = .ok (.invokevirtual 102, 3) := by decide +kernel
set_option maxRecDepth 20000 in
theorem dX9_namesThings_38 : decode cX9_namesThings 38 = .ok (.ifnonnull 5, 3) := by decide +kernel
set_option maxRecDepth 20000 in
theorem dX9_namesThings_41 : decode cX9_namesThings 41 = .ok (.iconst 0, 1) := by decide +kernel
set_option maxRecDepth 20000 in
theorem dX9_namesThings_42 : decode cX9_namesThings 42 = .ok (.ireturn, 1) := by decide +kernel
set_option maxRecDepth 20000 in
theorem dX9_namesThings_43 : decode cX9_namesThings 43 = .ok (.iinc 3 1, 3) := by decide +kernel
set_option maxRecDepth 20000 in
theorem dX9_namesThings_46 : decode cX9_namesThings 46 = .ok (.goto (-44), 3) := by decide +kernel
set_option maxRecDepth 20000 in
theorem dX9_namesThings_49 : decode cX9_namesThings 49 = .ok (.iconst 1, 1) := by decide +kernel
set_option maxRecDepth 20000 in
theorem dX9_namesThings_50 : decode cX9_namesThings 50 = .ok (.ireturn, 1) := by decide +kernel
set_option maxRecDepth 20000 in
theorem dX9_firstUnlike_0 : decode cX9_firstUnlike 0 = .ok (.aload_n 0, 1) := by decide +kernel
set_option maxRecDepth 20000 in
theorem dX9_firstUnlike_1 : decode cX9_firstUnlike 1 = .ok (.getfield 43, 3) := by decide +kernel
set_option maxRecDepth 20000 in
theorem dX9_firstUnlike_4 : decode cX9_firstUnlike 4 = .ok (.aload_n 0, 1) := by decide +kernel
set_option maxRecDepth 20000 in
theorem dX9_firstUnlike_5 : decode cX9_firstUnlike 5 = .ok (.getfield 20, 3) := by decide +kernel
set_option maxRecDepth 20000 in
theorem dX9_firstUnlike_8 : decode cX9_firstUnlike 8 = .ok (.getfield 123, 3) := by decide +kernel
set_option maxRecDepth 20000 in
theorem dX9_firstUnlike_11 : decode cX9_firstUnlike 11 = .ok (.aload_n 0, 1) := by decide +kernel
set_option maxRecDepth 20000 in
theorem dX9_firstUnlike_12 : decode cX9_firstUnlike 12 = .ok (.getfield 27, 3) := by decide +kernel
set_option maxRecDepth 20000 in
theorem dX9_firstUnlike_15 : decode cX9_firstUnlike 15 = .ok (.iconst 0, 1) := by decide +kernel
set_option maxRecDepth 20000 in
theorem dX9_firstUnlike_16 : decode cX9_firstUnlike 16 = .ok (.invokevirtual 154, 3) := by decide +kernel
set_option maxRecDepth 20000 in
theorem dX9_firstUnlike_19 : decode cX9_firstUnlike 19 = .ok (.invokevirtual 186, 3) := by decide +kernel
set_option maxRecDepth 20000 in
theorem dX9_firstUnlike_22 : decode cX9_firstUnlike 22 = .ok (.iconst 0, 1) := by decide +kernel
set_option maxRecDepth 20000 in
theorem dX9_firstUnlike_23 : decode cX9_firstUnlike 23 = .ok (.istore_n 3, 1) := by decide +kernel
set_option maxRecDepth 20000 in
theorem dX9_firstUnlike_24 : decode cX9_firstUnlike 24 = .ok (.iload_n 3, 1) := by decide +kernel
set_option maxRecDepth 20000 in
theorem dX9_firstUnlike_25 : decode cX9_firstUnlike 25 = .ok (.aload_n 0, 1) := by decide +kernel
set_option maxRecDepth 20000 in
theorem dX9_firstUnlike_26 : decode cX9_firstUnlike 26 = .ok (.getfield 20, 3) := by decide +kernel
set_option maxRecDepth 20000 in
theorem dX9_firstUnlike_29 : decode cX9_firstUnlike 29 = .ok (.getfield 101, 3) := by decide +kernel
set_option maxRecDepth 20000 in
theorem dX9_firstUnlike_32 : decode cX9_firstUnlike 32 = .ok (.if_icmp .ge 29, 3) := by decide +kernel
set_option maxRecDepth 20000 in
theorem dX9_firstUnlike_35 : decode cX9_firstUnlike 35 = .ok (.aload_n 1, 1) := by decide +kernel
set_option maxRecDepth 20000 in
theorem dX9_firstUnlike_36 : decode cX9_firstUnlike 36 = .ok (.iload_n 2, 1) := by decide +kernel
set_option maxRecDepth 20000 in
theorem dX9_firstUnlike_37 : decode cX9_firstUnlike 37 = .ok (.iload_n 3, 1) := by decide +kernel
set_option maxRecDepth 20000 in
theorem dX9_firstUnlike_38 : decode cX9_firstUnlike 38 = .ok (.iadd, 1) := by decide +kernel
set_option maxRecDepth 20000 in
theorem dX9_firstUnlike_39 : decode cX9_firstUnlike 39 = .ok (.invokevirtual 237, 3) := by decide +kernel
set_option maxRecDepth 20000 in
theorem dX9_firstUnlike_42 : decode cX9_firstUnlike 42 = .ok (.aload_n 0, 1) := by decide +kernel
set_option maxRecDepth 20000 in
theorem dX9_firstUnlike_43 : decode cX9_firstUnlike 43 = .ok (.getfield 43, 3) := by decide +kernel
set_option maxRecDepth 20000 in
theorem dX9_firstUnlike_46 : decode cX9_firstUnlike 46 = .ok (.iload_n 3, 1) := by decide +kernel
set_option maxRecDepth 20000 in
theorem dX9_firstUnlike_47 : decode cX9_firstUnlike 47 = .ok (.invokevirtual 133, 3) := by decide +kernel
set_option maxRecDepth 20000 in
theorem dX9_firstUnlike_50 : decode cX9_firstUnlike 50 = .ok (.if_icmp .eq 5, 3) := by decide +kernel
set_option maxRecDepth 20000 in
theorem dX9_firstUnlike_53 : decode cX9_firstUnlike 53 = .ok (.iload_n 3, 1) := by decide +kernel
set_option maxRecDepth 20000 in
theorem dX9_firstUnlike_54 : decode cX9_firstUnlike 54 = .ok (.ireturn, 1) := by decide +kernel
set_option maxRecDepth 20000 in
theorem dX9_firstUnlike_55 : decode cX9_firstUnlike 55 = .ok (.iinc 3 1, 3) := by decide +kernel
set_option maxRecDepth 20000 in
theorem dX9_firstUnlike_58 : decode cX9_firstUnlike 58 = .ok (.goto (-34), 3) := by decide +kernel
set_option maxRecDepth 20000 in
theorem dX9_firstUnlike_61 : decode cX9_firstUnlike 61 = .ok (.bipush (-9), 2) := by decide +kernel
set_option maxRecDepth 20000 in
theorem dX9_firstUnlike_63 : decode cX9_firstUnlike 63 = .ok (.ireturn, 1) := by decide +kernel
set_option maxRecDepth 20000 in
theorem dX9_isBeyond_0 : decode cX9_isBeyond 0 = .ok (.iload_n 0, 1) := by decide +kernel
set_option maxRecDepth 20000 in
theorem dX9_isBeyond_1 : decode cX9_isBeyond 1 = .ok (.ifCond .lt 8, 3) := by decide +kernel
set_option maxRecDepth 20000 in
theorem dX9_isBeyond_4 : decode cX9_isBeyond 4 = .ok (.iload_n 0, 1) := by decide +kernel
set_option maxRecDepth 20000 in
theorem dX9_isBeyond_5 : decode cX9_isBeyond 5 = .ok (.iload_n 1, 1) := by decide +kernel
set_option maxRecDepth 20000 in
theorem dX9_isBeyond_6 : decode cX9_isBeyond 6 = .ok (.if_icmp .le 7, 3) := by decide +kernel
set_option maxRecDepth 20000 in
theorem dX9_isBeyond_9 : decode cX9_isBeyond 9 = .ok (.iconst 1, 1) := by decide +kernel
set_option maxRecDepth 20000 in
theorem dX9_isBeyond_10 : decode cX9_isBeyond 10 = .ok (.goto 4, 3) := by decide +kernel
set_option maxRecDepth 20000 in
theorem dX9_isBeyond_13 : decode cX9_isBeyond 13 = .ok (.iconst 0, 1) := by decide +kernel
set_option maxRecDepth 20000 in
theorem dX9_isBeyond_14 : decode cX9_isBeyond 14 = .ok (.ireturn, 1) := by decide +kernel
set_option maxRecDepth 20000 in
theorem dX9_leastOf_0 : decode cX9_leastOf 0 = .ok (.iconst 0, 1) := by decide +kernel
set_option maxRecDepth 20000 in
theorem dX9_leastOf_1 : decode cX9_leastOf 1 = .ok (.istore_n 1, 1) := by decide +kernel
set_option maxRecDepth 20000 in
theorem dX9_leastOf_2 : decode cX9_leastOf 2 = .ok (.iload_n 1, 1) := by decide +kernel
set_option maxRecDepth 20000 in
theorem dX9_leastOf_3 : decode cX9_leastOf 3 = .ok (.bipush 8, 2) := by decide +kernel
set_option maxRecDepth 20000 in
theorem dX9_leastOf_5 : decode cX9_leastOf 5 = .ok (.if_icmp .ge 19, 3) := by decide +kernel
set_option maxRecDepth 20000 in
theorem dX9_leastOf_8 : decode cX9_leastOf 8 = .ok (.iload_n 0, 1) := by decide +kernel
set_option maxRecDepth 20000 in
theorem dX9_leastOf_9 : decode cX9_leastOf 9 = .ok (.iload_n 1, 1) := by decide +kernel
set_option maxRecDepth 20000 in
theorem dX9_leastOf_10 : decode cX9_leastOf 10 = .ok (.ishr, 1) := by decide +kernel
set_option maxRecDepth 20000 in
theorem dX9_leastOf_11 : decode cX9_leastOf 11 = .ok (.iconst 1, 1) := by decide +kernel
set_option maxRecDepth 20000 in
theorem dX9_leastOf_12 : decode cX9_leastOf 12 = .ok (.iand, 1) := by decide +kernel
set_option maxRecDepth 20000 in
theorem dX9_leastOf_13 : decode cX9_leastOf 13 = .ok (.ifCond .eq 5, 3) := by decide +kernel
set_option maxRecDepth 20000 in
theorem dX9_leastOf_16 : decode cX9_leastOf 16 = .ok (.iload_n 1, 1) := by decide +kernel
set_option maxRecDepth 20000 in
theorem dX9_leastOf_17 : decode cX9_leastOf 17 = .ok (.ireturn, 1) := by decide +kernel
set_option maxRecDepth 20000 in
theorem dX9_leastOf_18 : decode cX9_leastOf 18 = .ok (.iinc 1 1, 3) := by decide +kernel
set_option maxRecDepth 20000 in
theorem dX9_leastOf_21 : decode cX9_leastOf 21 = .ok (.goto (-19), 3) := by decide +kernel
set_option maxRecDepth 20000 in
theorem dX9_leastOf_24 : decode cX9_leastOf 24 = .ok (.bipush (-9), 2) := by decide +kernel
set_option maxRecDepth 20000 in
theorem dX9_leastOf_26 : decode cX9_leastOf 26 = .ok (.ireturn, 1) := by decide +kernel
set_option maxRecDepth 20000 in
theorem dX10_init_0 : decode cX10_init 0 = .ok (.aload_n 0, 1) := by decide +kernel
set_option maxRecDepth 20000 in
theorem dX10_init_1 : decode cX10_init 1 = .ok (.invokespecial 1, 3) := by decide +kernel
set_option maxRecDepth 20000 in
theorem dX10_init_4 : decode cX10_init 4 = .ok (.aload_n 0, 1) := by decide +kernel
set_option maxRecDepth 20000 in
theorem dX10_init_5 : decode cX10_init 5 = .ok (.bipush 8, 2) := by decide +kernel
set_option maxRecDepth 20000 in
theorem dX10_init_7 : decode cX10_init 7 = .ok (.newarray .int, 2) := by decide +kernel
set_option maxRecDepth 20000 in
theorem dX10_init_9 : decode cX10_init 9 = .ok (.putfield 7, 3) := by decide +kernel
set_option maxRecDepth 20000 in
theorem dX10_init_12 : decode cX10_init 12 = .ok (.aload_n 0, 1) := by decide +kernel
set_option maxRecDepth 20000 in
theorem dX10_init_13 : decode cX10_init 13 = .ok (.bipush 8, 2) := by decide +kernel
set_option maxRecDepth 20000 in
theorem dX10_init_15 : decode cX10_init 15 = .ok (.newarray .int, 2) := by decide +kernel
set_option maxRecDepth 20000 in
theorem dX10_init_17 : decode cX10_init 17 = .ok (.putfield 13, 3) := by decide +kernel
set_option maxRecDepth 20000 in
theorem dX10_init_20 : decode cX10_init 20 = .ok (.aload_n 0, 1) := by decide +kernel
set_option maxRecDepth 20000 in
theorem dX10_init_21 : decode cX10_init 21 = .ok (.bipush 8, 2) := by decide +kernel
set_option maxRecDepth 20000 in
theorem dX10_init_23 : decode cX10_init 23 = .ok (.newarray .int, 2) := by decide +kernel
set_option maxRecDepth 20000 in
theorem dX10_init_25 : decode cX10_init 25 = .ok (.putfield 16, 3) := by decide +kernel
set_option maxRecDepth 20000 in
theorem dX10_init_28 : decode cX10_init 28 = .ok (.aload_n 0, 1) := by decide +kernel
set_option maxRecDepth 20000 in
theorem dX10_init_29 : decode cX10_init 29 = .ok (.bipush 8, 2) := by decide +kernel
set_option maxRecDepth 20000 in
theorem dX10_init_31 : decode cX10_init 31 = .ok (.newarray .int, 2) := by decide +kernel
set_option maxRecDepth 20000 in
theorem dX10_init_33 : decode cX10_init 33 = .ok (.putfield 19, 3) := by decide +kernel
set_option maxRecDepth 20000 in
theorem dX10_init_36 : decode cX10_init 36 = .ok (.aload_n 0, 1) := by decide +kernel
set_option maxRecDepth 20000 in
theorem dX10_init_37 : decode cX10_init 37 = .ok (.bipush 8, 2) := by decide +kernel
set_option maxRecDepth 20000 in
theorem dX10_init_39 : decode cX10_init 39 = .ok (.newarray .int, 2) := by decide +kernel
set_option maxRecDepth 20000 in
theorem dX10_init_41 : decode cX10_init 41 = .ok (.putfield 22, 3) := by decide +kernel
set_option maxRecDepth 20000 in
theorem dX10_init_44 : decode cX10_init 44 = .ok (.aload_n 0, 1) := by decide +kernel
set_option maxRecDepth 20000 in
theorem dX10_init_45 : decode cX10_init 45 = .ok (.bipush 8, 2) := by decide +kernel
set_option maxRecDepth 20000 in
theorem dX10_init_47 : decode cX10_init 47 = .ok (.newarray .int, 2) := by decide +kernel
set_option maxRecDepth 20000 in
theorem dX10_init_49 : decode cX10_init 49 = .ok (.putfield 25, 3) := by decide +kernel
set_option maxRecDepth 20000 in
theorem dX10_init_52 : decode cX10_init 52 = .ok (.aload_n 0, 1) := by decide +kernel
set_option maxRecDepth 20000 in
theorem dX10_init_53 : decode cX10_init 53 = .ok (.bipush 8, 2) := by decide +kernel
set_option maxRecDepth 20000 in
theorem dX10_init_55 : decode cX10_init 55 = .ok (.newarray .int, 2) := by decide +kernel
set_option maxRecDepth 20000 in
theorem dX10_init_57 : decode cX10_init 57 = .ok (.putfield 28, 3) := by decide +kernel
set_option maxRecDepth 20000 in
theorem dX10_init_60 : decode cX10_init 60 = .ok (.aload_n 0, 1) := by decide +kernel
set_option maxRecDepth 20000 in
theorem dX10_init_61 : decode cX10_init 61 = .ok (.bipush 8, 2) := by decide +kernel
set_option maxRecDepth 20000 in
theorem dX10_init_63 : decode cX10_init 63 = .ok (.newarray .int, 2) := by decide +kernel
set_option maxRecDepth 20000 in
theorem dX10_init_65 : decode cX10_init 65 = .ok (.putfield 31, 3) := by decide +kernel
set_option maxRecDepth 20000 in
theorem dX10_init_68 : decode cX10_init 68 = .ok (.aload_n 0, 1) := by decide +kernel
set_option maxRecDepth 20000 in
theorem dX10_init_69 : decode cX10_init 69 = .ok (.bipush 8, 2) := by decide +kernel
set_option maxRecDepth 20000 in
theorem dX10_init_71 : decode cX10_init 71 = .ok (.newarray .int, 2) := by decide +kernel
set_option maxRecDepth 20000 in
theorem dX10_init_73 : decode cX10_init 73 = .ok (.putfield 34, 3) := by decide +kernel
set_option maxRecDepth 20000 in
theorem dX10_init_76 : decode cX10_init 76 = .ok (.aload_n 0, 1) := by decide +kernel
set_option maxRecDepth 20000 in
theorem dX10_init_77 : decode cX10_init 77 = .ok (.bipush 8, 2) := by decide +kernel
set_option maxRecDepth 20000 in
theorem dX10_init_79 : decode cX10_init 79 = .ok (.newarray .int, 2) := by decide +kernel
set_option maxRecDepth 20000 in
theorem dX10_init_81 : decode cX10_init 81 = .ok (.putfield 37, 3) := by decide +kernel
set_option maxRecDepth 20000 in
theorem dX10_init_84 : decode cX10_init 84 = .ok (.aload_n 0, 1) := by decide +kernel
set_option maxRecDepth 20000 in
theorem dX10_init_85 : decode cX10_init 85 = .ok (.bipush 8, 2) := by decide +kernel
set_option maxRecDepth 20000 in
theorem dX10_init_87 : decode cX10_init 87 = .ok (.newarray .int, 2) := by decide +kernel
set_option maxRecDepth 20000 in
theorem dX10_init_89 : decode cX10_init 89 = .ok (.putfield 40, 3) := by decide +kernel
set_option maxRecDepth 20000 in
theorem dX10_init_92 : decode cX10_init 92 = .ok (.aload_n 0, 1) := by decide +kernel
set_option maxRecDepth 20000 in
theorem dX10_init_93 : decode cX10_init 93 = .ok (.bipush 8, 2) := by decide +kernel
set_option maxRecDepth 20000 in
theorem dX10_init_95 : decode cX10_init 95 = .ok (.newarray .int, 2) := by decide +kernel
set_option maxRecDepth 20000 in
theorem dX10_init_97 : decode cX10_init 97 = .ok (.putfield 43, 3) := by decide +kernel
set_option maxRecDepth 20000 in
theorem dX10_init_100 : decode cX10_init 100 = .ok (.aload_n 0, 1) := by decide +kernel
set_option maxRecDepth 20000 in
theorem dX10_init_101 : decode cX10_init 101 = .ok (.bipush 8, 2) := by decide +kernel
set_option maxRecDepth 20000 in
theorem dX10_init_103 : decode cX10_init 103 = .ok (.newarray .int, 2) := by decide +kernel
set_option maxRecDepth 20000 in
theorem dX10_init_105 : decode cX10_init 105 = .ok (.putfield 46, 3) := by decide +kernel
set_option maxRecDepth 20000 in
theorem dX10_init_108 : decode cX10_init 108 = .ok (.aload_n 0, 1) := by decide +kernel
set_option maxRecDepth 20000 in
theorem dX10_init_109 : decode cX10_init 109 = .ok (.bipush 8, 2) := by decide +kernel
set_option maxRecDepth 20000 in
theorem dX10_init_111 : decode cX10_init 111 = .ok (.newarray .int, 2) := by decide +kernel
set_option maxRecDepth 20000 in
theorem dX10_init_113 : decode cX10_init 113 = .ok (.putfield 49, 3) := by decide +kernel
set_option maxRecDepth 20000 in
theorem dX10_init_116 : decode cX10_init 116 = .ok (.aload_n 0, 1) := by decide +kernel
set_option maxRecDepth 20000 in
theorem dX10_init_117 : decode cX10_init 117 = .ok (.bipush 8, 2) := by decide +kernel
set_option maxRecDepth 20000 in
theorem dX10_init_119 : decode cX10_init 119 = .ok (.newarray .int, 2) := by decide +kernel
set_option maxRecDepth 20000 in
theorem dX10_init_121 : decode cX10_init 121 = .ok (.putfield 52, 3) := by decide +kernel
set_option maxRecDepth 20000 in
theorem dX10_init_124 : decode cX10_init 124 = .ok (.aload_n 0, 1) := by decide +kernel
set_option maxRecDepth 20000 in
theorem dX10_init_125 : decode cX10_init 125 = .ok (.bipush 8, 2) := by decide +kernel
set_option maxRecDepth 20000 in
theorem dX10_init_127 : decode cX10_init 127 = .ok (.newarray .int, 2) := by decide +kernel
set_option maxRecDepth 20000 in
theorem dX10_init_129 : decode cX10_init 129 = .ok (.putfield 55, 3) := by decide +kernel
set_option maxRecDepth 20000 in
theorem dX10_init_132 : decode cX10_init 132 = .ok (.aload_n 0, 1) := by decide +kernel
set_option maxRecDepth 20000 in
theorem dX10_init_133 : decode cX10_init 133 = .ok (.iconst 4, 1) := by decide +kernel
set_option maxRecDepth 20000 in
theorem dX10_init_134 : decode cX10_init 134 = .ok (.newarray .int, 2) := by decide +kernel
set_option maxRecDepth 20000 in
theorem dX10_init_136 : decode cX10_init 136 = .ok (.putfield 58, 3) := by decide +kernel
set_option maxRecDepth 20000 in
theorem dX10_init_139 : decode cX10_init 139 = .ok (.aload_n 0, 1) := by decide +kernel
set_option maxRecDepth 20000 in
theorem dX10_init_140 : decode cX10_init 140 = .ok (.iconst 4, 1) := by decide +kernel
set_option maxRecDepth 20000 in
theorem dX10_init_141 : decode cX10_init 141 = .ok (.newarray .int, 2) := by decide +kernel
set_option maxRecDepth 20000 in
theorem dX10_init_143 : decode cX10_init 143 = .ok (.putfield 61, 3) := by decide +kernel
set_option maxRecDepth 20000 in
theorem dX10_init_146 : decode cX10_init 146 = .ok (.aload_n 0, 1) := by decide +kernel
set_option maxRecDepth 20000 in
theorem dX10_init_147 : decode cX10_init 147 = .ok (.sipush 240, 3) := by decide +kernel
set_option maxRecDepth 20000 in
theorem dX10_init_150 : decode cX10_init 150 = .ok (.newarray .int, 2) := by decide +kernel
set_option maxRecDepth 20000 in
theorem dX10_init_152 : decode cX10_init 152 = .ok (.putfield 64, 3) := by decide +kernel
set_option maxRecDepth 20000 in
theorem dX10_init_155 : decode cX10_init 155 = .ok (.aload_n 0, 1) := by decide +kernel
set_option maxRecDepth 20000 in
theorem dX10_init_156 : decode cX10_init 156 = .ok (.bipush 60, 2) := by decide +kernel
set_option maxRecDepth 20000 in
theorem dX10_init_158 : decode cX10_init 158 = .ok (.newarray .int, 2) := by decide +kernel
set_option maxRecDepth 20000 in
theorem dX10_init_160 : decode cX10_init 160 = .ok (.putfield 67, 3) := by decide +kernel
set_option maxRecDepth 20000 in
theorem dX10_init_163 : decode cX10_init 163 = .ok (.iconst 0, 1) := by decide +kernel
set_option maxRecDepth 20000 in
theorem dX10_init_164 : decode cX10_init 164 = .ok (.istore_n 1, 1) := by decide +kernel
set_option maxRecDepth 20000 in
theorem dX10_init_165 : decode cX10_init 165 = .ok (.iload_n 1, 1) := by decide +kernel
set_option maxRecDepth 20000 in
theorem dX10_init_166 : decode cX10_init 166 = .ok (.iconst 4, 1) := by decide +kernel
set_option maxRecDepth 20000 in
theorem dX10_init_167 : decode cX10_init 167 = .ok (.if_icmp .ge 16, 3) := by decide +kernel
set_option maxRecDepth 20000 in
theorem dX10_init_170 : decode cX10_init 170 = .ok (.aload_n 0, 1) := by decide +kernel
set_option maxRecDepth 20000 in
theorem dX10_init_171 : decode cX10_init 171 = .ok (.getfield 58, 3) := by decide +kernel
set_option maxRecDepth 20000 in
theorem dX10_init_174 : decode cX10_init 174 = .ok (.iload_n 1, 1) := by decide +kernel
set_option maxRecDepth 20000 in
theorem dX10_init_175 : decode cX10_init 175 = .ok (.iconst (-1), 1) := by decide +kernel
set_option maxRecDepth 20000 in
theorem dX10_init_176 : decode cX10_init 176 = .ok (.iastore, 1) := by decide +kernel
set_option maxRecDepth 20000 in
theorem dX10_init_177 : decode cX10_init 177 = .ok (.iinc 1 1, 3) := by decide +kernel
set_option maxRecDepth 20000 in
theorem dX10_init_180 : decode cX10_init 180 = .ok (.goto (-15), 3) := by decide +kernel
set_option maxRecDepth 20000 in
theorem dX10_init_183 : decode cX10_init 183 = .ok (.return_, 1) := by decide +kernel
set_option maxRecDepth 20000 in
theorem dX10_in_0 : decode cX10_in 0 = .ok (.lload_n 0, 1) := by decide +kernel
set_option maxRecDepth 20000 in
theorem dX10_in_1 : decode cX10_in 1 = .ok (.lload_n 2, 1) := by decide +kernel
set_option maxRecDepth 20000 in
theorem dX10_in_2 : decode cX10_in 2 = .ok (.lcmp, 1) := by decide +kernel
set_option maxRecDepth 20000 in
theorem dX10_in_3 : decode cX10_in 3 = .ok (.ifCond .lt 14, 3) := by decide +kernel
set_option maxRecDepth 20000 in
theorem dX10_in_6 : decode cX10_in 6 = .ok (.lload_n 0, 1) := by decide +kernel
set_option maxRecDepth 20000 in
theorem dX10_in_7 : decode cX10_in 7 = .ok (.lload 4, 2) := by decide +kernel
set_option maxRecDepth 20000 in
theorem dX10_in_9 : decode cX10_in 9 = .ok (.lcmp, 1) := by decide +kernel
set_option maxRecDepth 20000 in
theorem dX10_in_10 : decode cX10_in 10 = .ok (.ifCond .gt 7, 3) := by decide +kernel
set_option maxRecDepth 20000 in
theorem dX10_in_13 : decode cX10_in 13 = .ok (.iconst 1, 1) := by decide +kernel
set_option maxRecDepth 20000 in
theorem dX10_in_14 : decode cX10_in 14 = .ok (.goto 4, 3) := by decide +kernel
set_option maxRecDepth 20000 in
theorem dX10_in_17 : decode cX10_in 17 = .ok (.iconst 0, 1) := by decide +kernel
set_option maxRecDepth 20000 in
theorem dX10_in_18 : decode cX10_in 18 = .ok (.ireturn, 1) := by decide +kernel
set_option maxRecDepth 20000 in
theorem dX10_lost_0 : decode cX10_lost 0 = .ok (.ldc2_w 70, 3) := by decide +kernel
set_option maxRecDepth 20000 in
theorem dX10_lost_3 : decode cX10_lost 3 = .ok (.lreturn, 1) := by decide +kernel
set_option maxRecDepth 20000 in
theorem dX10_isIn_0 : decode cX10_isIn 0 = .ok (.iload_n 0, 1) := by decide +kernel
set_option maxRecDepth 20000 in
theorem dX10_isIn_1 : decode cX10_isIn 1 = .ok (.iload_n 1, 1) := by decide +kernel
set_option maxRecDepth 20000 in
theorem dX10_isIn_2 : decode cX10_isIn 2 = .ok (.ishr, 1) := by decide +kernel
set_option maxRecDepth 20000 in
theorem dX10_isIn_3 : decode cX10_isIn 3 = .ok (.iconst 1, 1) := by decide +kernel
set_option maxRecDepth 20000 in
theorem dX10_isIn_4 : decode cX10_isIn 4 = .ok (.iand, 1) := by decide +kernel
set_option maxRecDepth 20000 in
theorem dX10_isIn_5 : decode cX10_isIn 5 = .ok (.iconst 1, 1) := by decide +kernel
set_option maxRecDepth 20000 in
theorem dX10_isIn_6 : decode cX10_isIn 6 = .ok (.if_icmp .ne 7, 3) := by decide +kernel
set_option maxRecDepth 20000 in
theorem dX10_isIn_9 : decode cX10_isIn 9 = .ok (.iconst 1, 1) := by decide +kernel
set_option maxRecDepth 20000 in
theorem dX10_isIn_10 : decode cX10_isIn 10 = .ok (.goto 4, 3) := by decide +kernel
set_option maxRecDepth 20000 in
theorem dX10_isIn_13 : decode cX10_isIn 13 = .ok (.iconst 0, 1) := by decide +kernel
set_option maxRecDepth 20000 in
theorem dX10_isIn_14 : decode cX10_isIn 14 = .ok (.ireturn, 1) := by decide +kernel
set_option maxRecDepth 20000 in
theorem dX10_bits_0 : decode cX10_bits 0 = .ok (.iconst 0, 1) := by decide +kernel
set_option maxRecDepth 20000 in
theorem dX10_bits_1 : decode cX10_bits 1 = .ok (.istore_n 1, 1) := by decide +kernel
set_option maxRecDepth 20000 in
theorem dX10_bits_2 : decode cX10_bits 2 = .ok (.iload_n 0, 1) := by decide +kernel
set_option maxRecDepth 20000 in
theorem dX10_bits_3 : decode cX10_bits 3 = .ok (.istore_n 2, 1) := by decide +kernel
set_option maxRecDepth 20000 in
theorem dX10_bits_4 : decode cX10_bits 4 = .ok (.iload_n 2, 1) := by decide +kernel
set_option maxRecDepth 20000 in
theorem dX10_bits_5 : decode cX10_bits 5 = .ok (.ifCond .le 16, 3) := by decide +kernel
set_option maxRecDepth 20000 in
theorem dX10_bits_8 : decode cX10_bits 8 = .ok (.iload_n 1, 1) := by decide +kernel
set_option maxRecDepth 20000 in
theorem dX10_bits_9 : decode cX10_bits 9 = .ok (.iload_n 2, 1) := by decide +kernel
set_option maxRecDepth 20000 in
theorem dX10_bits_10 : decode cX10_bits 10 = .ok (.iconst 1, 1) := by decide +kernel
set_option maxRecDepth 20000 in
theorem dX10_bits_11 : decode cX10_bits 11 = .ok (.iand, 1) := by decide +kernel
set_option maxRecDepth 20000 in
theorem dX10_bits_12 : decode cX10_bits 12 = .ok (.iadd, 1) := by decide +kernel
set_option maxRecDepth 20000 in
theorem dX10_bits_13 : decode cX10_bits 13 = .ok (.istore_n 1, 1) := by decide +kernel
set_option maxRecDepth 20000 in
theorem dX10_bits_14 : decode cX10_bits 14 = .ok (.iload_n 2, 1) := by decide +kernel
set_option maxRecDepth 20000 in
theorem dX10_bits_15 : decode cX10_bits 15 = .ok (.iconst 1, 1) := by decide +kernel
set_option maxRecDepth 20000 in
theorem dX10_bits_16 : decode cX10_bits 16 = .ok (.ishr, 1) := by decide +kernel
set_option maxRecDepth 20000 in
theorem dX10_bits_17 : decode cX10_bits 17 = .ok (.istore_n 2, 1) := by decide +kernel
set_option maxRecDepth 20000 in
theorem dX10_bits_18 : decode cX10_bits 18 = .ok (.goto (-14), 3) := by decide +kernel
set_option maxRecDepth 20000 in
theorem dX10_bits_21 : decode cX10_bits 21 = .ok (.iload_n 1, 1) := by decide +kernel
set_option maxRecDepth 20000 in
theorem dX10_bits_22 : decode cX10_bits 22 = .ok (.ireturn, 1) := by decide +kernel
set_option maxRecDepth 20000 in
theorem dX10_told_0 : decode cX10_told 0 = .ok (.lload_n 0, 1) := by decide +kernel
set_option maxRecDepth 20000 in
theorem dX10_told_1 : decode cX10_told 1 = .ok (.lstore 5, 2) := by decide +kernel
set_option maxRecDepth 20000 in
theorem dX10_told_3 : decode cX10_told 3 = .ok (.lload_n 2, 1) := by decide +kernel
set_option maxRecDepth 20000 in
theorem dX10_told_4 : decode cX10_told 4 = .ok (.lstore 7, 2) := by decide +kernel
set_option maxRecDepth 20000 in
theorem dX10_told_6 : decode cX10_told 6 = .ok (.lload 7, 2) := by decide +kernel
set_option maxRecDepth 20000 in
theorem dX10_told_8 : decode cX10_told 8 = .ok (.lconst 0, 1) := by decide +kernel
set_option maxRecDepth 20000 in
theorem dX10_told_9 : decode cX10_told 9 = .ok (.lcmp, 1) := by decide +kernel
set_option maxRecDepth 20000 in
theorem dX10_told_10 : decode cX10_told 10 = .ok (.ifCond .eq 21, 3) := by decide +kernel
set_option maxRecDepth 20000 in
theorem dX10_told_13 : decode cX10_told 13 = .ok (.lload 5, 2) := by decide +kernel
set_option maxRecDepth 20000 in
theorem dX10_told_15 : decode cX10_told 15 = .ok (.lload 7, 2) := by decide +kernel
set_option maxRecDepth 20000 in
theorem dX10_told_17 : decode cX10_told 17 = .ok (.lrem, 1) := by decide +kernel
set_option maxRecDepth 20000 in
theorem dX10_told_18 : decode cX10_told 18 = .ok (.lstore 9, 2) := by decide +kernel
set_option maxRecDepth 20000 in
theorem dX10_told_20 : decode cX10_told 20 = .ok (.lload 7, 2) := by decide +kernel
set_option maxRecDepth 20000 in
theorem dX10_told_22 : decode cX10_told 22 = .ok (.lstore 5, 2) := by decide +kernel
set_option maxRecDepth 20000 in
theorem dX10_told_24 : decode cX10_told 24 = .ok (.lload 9, 2) := by decide +kernel
set_option maxRecDepth 20000 in
theorem dX10_told_26 : decode cX10_told 26 = .ok (.lstore 7, 2) := by decide +kernel
set_option maxRecDepth 20000 in
theorem dX10_told_28 : decode cX10_told 28 = .ok (.goto (-22), 3) := by decide +kernel
set_option maxRecDepth 20000 in
theorem dX10_told_31 : decode cX10_told 31 = .ok (.iload 4, 2) := by decide +kernel
set_option maxRecDepth 20000 in
theorem dX10_told_33 : decode cX10_told 33 = .ok (.ifCond .ne 7, 3) := by decide +kernel
set_option maxRecDepth 20000 in
theorem dX10_told_36 : decode cX10_told 36 = .ok (.lload_n 0, 1) := by decide +kernel
set_option maxRecDepth 20000 in
theorem dX10_told_37 : decode cX10_told 37 = .ok (.goto 4, 3) := by decide +kernel
set_option maxRecDepth 20000 in
theorem dX10_told_40 : decode cX10_told 40 = .ok (.lload_n 2, 1) := by decide +kernel
set_option maxRecDepth 20000 in
theorem dX10_told_41 : decode cX10_told 41 = .ok (.lload 5, 2) := by decide +kernel
set_option maxRecDepth 20000 in
theorem dX10_told_43 : decode cX10_told 43 = .ok (.ldiv, 1) := by decide +kernel
set_option maxRecDepth 20000 in
theorem dX10_told_44 : decode cX10_told 44 = .ok (.lreturn, 1) := by decide +kernel
set_option maxRecDepth 20000 in
theorem dX10_refused_0 : decode cX10_refused 0 = .ok (.aload_n 0, 1) := by decide +kernel
set_option maxRecDepth 20000 in
theorem dX10_refused_1 : decode cX10_refused 1 = .ok (.iconst 0, 1) := by decide +kernel
set_option maxRecDepth 20000 in
theorem dX10_refused_2 : decode cX10_refused 2 = .ok (.putfield 72, 3) := by decide +kernel
set_option maxRecDepth 20000 in
theorem dX10_refused_5 : decode cX10_refused 5 = .ok (.iload_n 1, 1) := by decide +kernel
set_option maxRecDepth 20000 in
theorem dX10_refused_6 : decode cX10_refused 6 = .ok (.ireturn, 1) := by decide +kernel
set_option maxRecDepth 20000 in
theorem dX10_faulted_0 : decode cX10_faulted 0 = .ok (.aload_n 0, 1) := by decide +kernel
set_option maxRecDepth 20000 in
theorem dX10_faulted_1 : decode cX10_faulted 1 = .ok (.iload_n 1, 1) := by decide +kernel
set_option maxRecDepth 20000 in
theorem dX10_faulted_2 : decode cX10_faulted 2 = .ok (.putfield 72, 3) := by decide +kernel
set_option maxRecDepth 20000 in
theorem dX10_faulted_5 : decode cX10_faulted 5 = .ok (.bipush (-10), 2) := by decide +kernel
set_option maxRecDepth 20000 in
theorem dX10_faulted_7 : decode cX10_faulted 7 = .ok (.iload_n 1, 1) := by decide +kernel
set_option maxRecDepth 20000 in
theorem dX10_faulted_8 : decode cX10_faulted 8 = .ok (.isub, 1) := by decide +kernel
set_option maxRecDepth 20000 in
theorem dX10_faulted_9 : decode cX10_faulted 9 = .ok (.ireturn, 1) := by decide +kernel
set_option maxRecDepth 20000 in
theorem dX10_faultedLong_0 : decode cX10_faultedLong 0 = .ok (.aload_n 0, 1) := by decide +kernel
set_option maxRecDepth 20000 in
theorem dX10_faultedLong_1 : decode cX10_faultedLong 1 = .ok (.iload_n 1, 1) := by decide +kernel
set_option maxRecDepth 20000 in
theorem dX10_faultedLong_2 : decode cX10_faultedLong 2 = .ok (.putfield 72, 3) := by decide +kernel
set_option maxRecDepth 20000 in
theorem dX10_faultedLong_5 : decode cX10_faultedLong 5 = .ok (.invokestatic 76, 3) := by decide +kernel
set_option maxRecDepth 20000 in
theorem dX10_faultedLong_8 : decode cX10_faultedLong 8 = .ok (.lreturn, 1) := by decide +kernel
set_option maxRecDepth 20000 in
theorem dX10_noThing_0 : decode cX10_noThing 0 = .ok (.iload_n 1, 1) := by decide +kernel
set_option maxRecDepth 20000 in
theorem dX10_noThing_1 : decode cX10_noThing 1 = .ok (.i2l, 1) := by decide +kernel
set_option maxRecDepth 20000 in
theorem dX10_noThing_2 : decode cX10_noThing 2 = .ok (.lconst 0, 1) := by decide +kernel
set_option maxRecDepth 20000 in
theorem dX10_noThing_3 : decode cX10_noThing 3 = .ok (.aload_n 0, 1) := by decide +kernel
set_option maxRecDepth 20000 in
theorem dX10_noThing_4 : decode cX10_noThing 4 = .ok (.getfield 80, 3) := by decide +kernel
set_option maxRecDepth 20000 in
theorem dX10_noThing_7 : decode cX10_noThing 7 = .ok (.i2l, 1) := by decide +kernel
set_option maxRecDepth 20000 in
theorem dX10_noThing_8 : decode cX10_noThing 8 = .ok (.lconst 1, 1) := by decide +kernel
set_option maxRecDepth 20000 in
theorem dX10_noThing_9 : decode cX10_noThing 9 = .ok (.lsub, 1) := by decide +kernel
set_option maxRecDepth 20000 in
theorem dX10_noThing_10 : decode cX10_noThing 10 = .ok (.invokestatic 83, 3) := by decide +kernel
set_option maxRecDepth 20000 in
theorem dX10_noThing_13 : decode cX10_noThing 13 = .ok (.ifCond .ne 7, 3) := by decide +kernel
set_option maxRecDepth 20000 in
theorem dX10_noThing_16 : decode cX10_noThing 16 = .ok (.iconst 1, 1) := by decide +kernel
set_option maxRecDepth 20000 in
theorem dX10_noThing_17 : decode cX10_noThing 17 = .ok (.goto 4, 3) := by decide +kernel
set_option maxRecDepth 20000 in
theorem dX10_noThing_20 : decode cX10_noThing 20 = .ok (.iconst 0, 1) := by decide +kernel
set_option maxRecDepth 20000 in
theorem dX10_noThing_21 : decode cX10_noThing 21 = .ok (.ireturn, 1) := by decide +kernel
set_option maxRecDepth 20000 in
theorem dX10_isHour_0 : decode cX10_isHour 0 = .ok (.iload_n 0, 1) := by decide +kernel
set_option maxRecDepth 20000 in
theorem dX10_isHour_1 : decode cX10_isHour 1 = .ok (.i2l, 1) := by decide +kernel
set_option maxRecDepth 20000 in
theorem dX10_isHour_2 : decode cX10_isHour 2 = .ok (.lconst 0, 1) := by decide +kernel
set_option maxRecDepth 20000 in
theorem dX10_isHour_3 : decode cX10_isHour 3 = .ok (.ldc2_w 87, 3) := by decide +kernel
set_option maxRecDepth 20000 in
theorem dX10_isHour_6 : decode cX10_isHour 6 = .ok (.invokestatic 83, 3) := by decide +kernel
set_option maxRecDepth 20000 in
theorem dX10_isHour_9 : decode cX10_isHour 9 = .ok (.ireturn, 1) := by decide +kernel
set_option maxRecDepth 20000 in
theorem dX10_all_0 : decode cX10_all 0 = .ok (.iconst 1, 1) := by decide +kernel
set_option maxRecDepth 20000 in
theorem dX10_all_1 : decode cX10_all 1 = .ok (.aload_n 0, 1) := by decide +kernel
set_option maxRecDepth 20000 in
theorem dX10_all_2 : decode cX10_all 2 = .ok (.getfield 80, 3) := by decide +kernel
set_option maxRecDepth 20000 in
theorem dX10_all_5 : decode cX10_all 5 = .ok (.ishl, 1) := by decide +kernel
set_option maxRecDepth 20000 in
theorem dX10_all_6 : decode cX10_all 6 = .ok (.iconst 1, 1) := by decide +kernel
set_option maxRecDepth 20000 in
theorem dX10_all_7 : decode cX10_all 7 = .ok (.isub, 1) := by decide +kernel
set_option maxRecDepth 20000 in
theorem dX10_all_8 : decode cX10_all 8 = .ok (.ireturn, 1) := by decide +kernel
set_option maxRecDepth 20000 in
theorem dX10_codeAt_0 : decode cX10_codeAt 0 = .ok (.aload_n 0, 1) := by decide +kernel
set_option maxRecDepth 20000 in
theorem dX10_codeAt_1 : decode cX10_codeAt 1 = .ok (.getfield 89, 3) := by decide +kernel
set_option maxRecDepth 20000 in
theorem dX10_codeAt_4 : decode cX10_codeAt 4 = .ok (.iload_n 2, 1) := by decide +kernel
set_option maxRecDepth 20000 in
theorem dX10_codeAt_5 : decode cX10_codeAt 5 = .ok (.if_icmp .ge 17, 3) := by decide +kernel
set_option maxRecDepth 20000 in
theorem dX10_codeAt_8 : decode cX10_codeAt 8 = .ok (.aload_n 0, 1) := by decide +kernel
set_option maxRecDepth 20000 in
theorem dX10_codeAt_9 : decode cX10_codeAt 9 = .ok (.getfield 64, 3) := by decide +kernel
set_option maxRecDepth 20000 in
theorem dX10_codeAt_12 : decode cX10_codeAt 12 = .ok (.iload_n 1, 1) := by decide +kernel
set_option maxRecDepth 20000 in
theorem dX10_codeAt_13 : decode cX10_codeAt 13 = .ok (.aload_n 0, 1) := by decide +kernel
set_option maxRecDepth 20000 in
theorem dX10_codeAt_14 : decode cX10_codeAt 14 = .ok (.getfield 89, 3) := by decide +kernel
set_option maxRecDepth 20000 in
theorem dX10_codeAt_17 : decode cX10_codeAt 17 = .ok (.iadd, 1) := by decide +kernel
set_option maxRecDepth 20000 in
theorem dX10_codeAt_18 : decode cX10_codeAt 18 = .ok (.iaload, 1) := by decide +kernel
set_option maxRecDepth 20000 in
theorem dX10_codeAt_19 : decode cX10_codeAt 19 = .ok (.goto 5, 3) := by decide +kernel
set_option maxRecDepth 20000 in
theorem dX10_codeAt_22 : decode cX10_codeAt 22 = .ok (.bipush (-9), 2) := by decide +kernel
set_option maxRecDepth 20000 in
theorem dX10_codeAt_24 : decode cX10_codeAt 24 = .ok (.ireturn, 1) := by decide +kernel
set_option maxRecDepth 20000 in
theorem dX10_figure_0 : decode cX10_figure 0 = .ok (.aload_n 0, 1) := by decide +kernel
set_option maxRecDepth 20000 in
theorem dX10_figure_1 : decode cX10_figure 1 = .ok (.iload_n 1, 1) := by decide +kernel
set_option maxRecDepth 20000 in
theorem dX10_figure_2 : decode cX10_figure 2 = .ok (.iload_n 2, 1) := by decide +kernel
set_option maxRecDepth 20000 in
theorem dX10_figure_3 : decode cX10_figure 3 = .ok (.invokevirtual 92, 3) := by decide +kernel
set_option maxRecDepth 20000 in
theorem dX10_figure_6 : decode cX10_figure 6 = .ok (.bipush 48, 2) := by decide +kernel
set_option maxRecDepth 20000 in
theorem dX10_figure_8 : decode cX10_figure 8 = .ok (.isub, 1) := by decide +kernel
set_option maxRecDepth 20000 in
theorem dX10_figure_9 : decode cX10_figure 9 = .ok (.istore 6, 2) := by decide +kernel
set_option maxRecDepth 20000 in
theorem dX10_figure_11 : decode cX10_figure 11 = .ok (.iload 6, 2) := by decide +kernel
set_option maxRecDepth 20000 in
theorem dX10_figure_13 : decode cX10_figure 13 = .ok (.i2l, 1) := by decide +kernel
set_option maxRecDepth 20000 in
theorem dX10_figure_14 : decode cX10_figure 14 = .ok (.iload_n 3, 1) := by decide +kernel
set_option maxRecDepth 20000 in
theorem dX10_figure_15 : decode cX10_figure 15 = .ok (.i2l, 1) := by decide +kernel
set_option maxRecDepth 20000 in
theorem dX10_figure_16 : decode cX10_figure 16 = .ok (.iload 4, 2) := by decide +kernel
set_option maxRecDepth 20000 in
theorem dX10_figure_18 : decode cX10_figure 18 = .ok (.i2l, 1) := by decide +kernel
set_option maxRecDepth 20000 in
theorem dX10_figure_19 : decode cX10_figure 19 = .ok (.invokestatic 83, 3) := by decide +kernel
set_option maxRecDepth 20000 in
theorem dX10_figure_22 : decode cX10_figure 22 = .ok (.ifCond .eq 14, 3) := by decide +kernel
set_option maxRecDepth 20000 in
theorem dX10_figure_25 : decode cX10_figure 25 = .ok (.iload 6, 2) := by decide +kernel
set_option maxRecDepth 20000 in
theorem dX10_figure_27 : decode cX10_figure 27 = .ok (.iload 5, 2) := by decide +kernel
set_option maxRecDepth 20000 in
theorem dX10_figure_29 : decode cX10_figure 29 = .ok (.if_icmp .eq 7, 3) := by decide +kernel
set_option maxRecDepth 20000 in
theorem dX10_figure_32 : decode cX10_figure 32 = .ok (.iconst 1, 1) := by decide +kernel
set_option maxRecDepth 20000 in
theorem dX10_figure_33 : decode cX10_figure 33 = .ok (.goto 4, 3) := by decide +kernel
set_option maxRecDepth 20000 in
theorem dX10_figure_36 : decode cX10_figure 36 = .ok (.iconst 0, 1) := by decide +kernel
set_option maxRecDepth 20000 in
theorem dX10_figure_37 : decode cX10_figure 37 = .ok (.istore 7, 2) := by decide +kernel
set_option maxRecDepth 20000 in
theorem dX10_figure_39 : decode cX10_figure 39 = .ok (.aload_n 0, 1) := by decide +kernel
set_option maxRecDepth 20000 in
theorem dX10_figure_40 : decode cX10_figure 40 = .ok (.dup, 1) := by decide +kernel
set_option maxRecDepth 20000 in
theorem dX10_figure_41 : decode cX10_figure 41 = .ok (.getfield 89, 3) := by decide +kernel
set_option maxRecDepth 20000 in
theorem dX10_figure_44 : decode cX10_figure 44 = .ok (.iload 7, 2) := by decide +kernel
set_option maxRecDepth 20000 in
theorem dX10_figure_46 : decode cX10_figure 46 = .ok (.ifCond .eq 7, 3) := by decide +kernel
set_option maxRecDepth 20000 in
theorem dX10_figure_49 : decode cX10_figure 49 = .ok (.iconst 1, 1) := by decide +kernel
set_option maxRecDepth 20000 in
theorem dX10_figure_50 : decode cX10_figure 50 = .ok (.goto 4, 3) := by decide +kernel
set_option maxRecDepth 20000 in
theorem dX10_figure_53 : decode cX10_figure 53 = .ok (.iconst 0, 1) := by decide +kernel
set_option maxRecDepth 20000 in
theorem dX10_figure_54 : decode cX10_figure 54 = .ok (.iadd, 1) := by decide +kernel
set_option maxRecDepth 20000 in
theorem dX10_figure_55 : decode cX10_figure 55 = .ok (.putfield 89, 3) := by decide +kernel
set_option maxRecDepth 20000 in
theorem dX10_figure_58 : decode cX10_figure 58 = .ok (.iload 7, 2) := by decide +kernel
set_option maxRecDepth 20000 in
theorem dX10_figure_60 : decode cX10_figure 60 = .ok (.ifCond .eq 8, 3) := by decide +kernel
set_option maxRecDepth 20000 in
theorem dX10_figure_63 : decode cX10_figure 63 = .ok (.iload 6, 2) := by decide +kernel
set_option maxRecDepth 20000 in
theorem dX10_figure_65 : decode cX10_figure 65 = .ok (.goto 5, 3) := by decide +kernel
set_option maxRecDepth 20000 in
theorem dX10_figure_68 : decode cX10_figure 68 = .ok (.bipush (-9), 2) := by decide +kernel
set_option maxRecDepth 20000 in
theorem dX10_figure_70 : decode cX10_figure 70 = .ok (.ireturn, 1) := by decide +kernel
set_option maxRecDepth 20000 in
theorem dX10_readsThing_0 : decode cX10_readsThing 0 = .ok (.aload_n 0, 1) := by decide +kernel
set_option maxRecDepth 20000 in
theorem dX10_readsThing_1 : decode cX10_readsThing 1 = .ok (.getfield 96, 3) := by decide +kernel
set_option maxRecDepth 20000 in
theorem dX10_readsThing_4 : decode cX10_readsThing 4 = .ok (.bipush 8, 2) := by decide +kernel
set_option maxRecDepth 20000 in
theorem dX10_readsThing_6 : decode cX10_readsThing 6 = .ok (.if_icmp .eq 14, 3) := by decide +kernel
set_option maxRecDepth 20000 in
theorem dX10_readsThing_9 : decode cX10_readsThing 9 = .ok (.aload_n 0, 1) := by decide +kernel
set_option maxRecDepth 20000 in
theorem dX10_readsThing_10 : decode cX10_readsThing 10 = .ok (.iload_n 1, 1) := by decide +kernel
set_option maxRecDepth 20000 in
theorem dX10_readsThing_11 : decode cX10_readsThing 11 = .ok (.iload_n 2, 1) := by decide +kernel
set_option maxRecDepth 20000 in
theorem dX10_readsThing_12 : decode cX10_readsThing 12 = .ok (.invokevirtual 92, 3) := by decide +kernel
set_option maxRecDepth 20000 in
theorem dX10_readsThing_15 : decode cX10_readsThing 15 = .ok (.bipush 59, 2) := by decide +kernel
set_option maxRecDepth 20000 in
theorem dX10_readsThing_17 : decode cX10_readsThing 17 = .ok (.if_icmp .eq 5, 3) := by decide +kernel
set_option maxRecDepth 20000 in
theorem dX10_readsThing_20 : decode cX10_readsThing 20 = .ok (.iconst 0, 1) := by decide +kernel
set_option maxRecDepth 20000 in
theorem dX10_readsThing_21 : decode cX10_readsThing 21 = .ok (.ireturn, 1) := by decide +kernel
set_option maxRecDepth 20000 in
theorem dX10_readsThing_22 : decode cX10_readsThing 22 = .ok (.aload_n 0, 1) := by decide +kernel
set_option maxRecDepth 20000 in
theorem dX10_readsThing_23 : decode cX10_readsThing 23 = .ok (.dup, 1) := by decide +kernel
set_option maxRecDepth 20000 in
theorem dX10_readsThing_24 : decode cX10_readsThing 24 = .ok (.getfield 89, 3) := by decide +kernel
set_option maxRecDepth 20000 in
theorem dX10_readsThing_27 : decode cX10_readsThing 27 = .ok (.iconst 1, 1) := by decide +kernel
set_option maxRecDepth 20000 in
theorem dX10_readsThing_28 : decode cX10_readsThing 28 = .ok (.iadd, 1) := by decide +kernel
set_option maxRecDepth 20000 in
theorem dX10_readsThing_29 : decode cX10_readsThing 29 = .ok (.putfield 89, 3) := by decide +kernel
set_option maxRecDepth 20000 in
theorem dX10_readsThing_32 : decode cX10_readsThing 32 = .ok (.aload_n 0, 1) := by decide +kernel
set_option maxRecDepth 20000 in
theorem dX10_readsThing_33 : decode cX10_readsThing 33 = .ok (.iload_n 1, 1) := by decide +kernel
set_option maxRecDepth 20000 in
theorem dX10_readsThing_34 : decode cX10_readsThing 34 = .ok (.iload_n 2, 1) := by decide +kernel
set_option maxRecDepth 20000 in
theorem dX10_readsThing_35 : decode cX10_readsThing 35 = .ok (.invokevirtual 92, 3) := by decide +kernel
set_option maxRecDepth 20000 in
theorem dX10_readsThing_38 : decode cX10_readsThing 38 = .ok (.istore_n 3, 1) := by decide +kernel
set_option maxRecDepth 20000 in
theorem dX10_readsThing_39 : decode cX10_readsThing 39 = .ok (.iload_n 3, 1) := by decide +kernel
set_option maxRecDepth 20000 in
theorem dX10_readsThing_40 : decode cX10_readsThing 40 = .ok (.bipush 116, 2) := by decide +kernel
set_option maxRecDepth 20000 in
theorem dX10_readsThing_42 : decode cX10_readsThing 42 = .ok (.if_icmp .eq 17, 3) := by decide +kernel
set_option maxRecDepth 20000 in
theorem dX10_readsThing_45 : decode cX10_readsThing 45 = .ok (.iload_n 3, 1) := by decide +kernel
set_option maxRecDepth 20000 in
theorem dX10_readsThing_46 : decode cX10_readsThing 46 = .ok (.bipush 115, 2) := by decide +kernel
set_option maxRecDepth 20000 in
theorem dX10_readsThing_48 : decode cX10_readsThing 48 = .ok (.if_icmp .eq 11, 3) := by decide +kernel
set_option maxRecDepth 20000 in
theorem dX10_readsThing_51 : decode cX10_readsThing 51 = .ok (.iload_n 3, 1) := by decide +kernel
set_option maxRecDepth 20000 in
theorem dX10_readsThing_52 : decode cX10_readsThing 52 = .ok (.bipush 109, 2) := by decide +kernel
set_option maxRecDepth 20000 in
theorem dX10_readsThing_54 : decode cX10_readsThing 54 = .ok (.if_icmp .eq 5, 3) := by decide +kernel
set_option maxRecDepth 20000 in
theorem dX10_readsThing_57 : decode cX10_readsThing 57 = .ok (.iconst 0, 1) := by decide +kernel
set_option maxRecDepth 20000 in
theorem dX10_readsThing_58 : decode cX10_readsThing 58 = .ok (.ireturn, 1) := by decide +kernel
set_option maxRecDepth 20000 in
theorem dX10_readsThing_59 : decode cX10_readsThing 59 = .ok (.aload_n 0, 1) := by decide +kernel
set_option maxRecDepth 20000 in
theorem dX10_readsThing_60 : decode cX10_readsThing 60 = .ok (.dup, 1) := by decide +kernel
set_option maxRecDepth 20000 in
theorem dX10_readsThing_61 : decode cX10_readsThing 61 = .ok (.getfield 89, 3) := by decide +kernel
set_option maxRecDepth 20000 in
theorem dX10_readsThing_64 : decode cX10_readsThing 64 = .ok (.iconst 1, 1) := by decide +kernel
set_option maxRecDepth 20000 in
theorem dX10_readsThing_65 : decode cX10_readsThing 65 = .ok (.iadd, 1) := by decide +kernel
set_option maxRecDepth 20000 in
theorem dX10_readsThing_66 : decode cX10_readsThing 66 = .ok (.putfield 89, 3) := by decide +kernel
set_option maxRecDepth 20000 in
theorem dX10_readsThing_69 : decode cX10_readsThing 69 = .ok (.aload_n 0, 1) := by decide +kernel
set_option maxRecDepth 20000 in
theorem dX10_readsThing_70 : decode cX10_readsThing 70 = .ok (.iload_n 1, 1) := by decide +kernel
set_option maxRecDepth 20000 in
theorem dX10_readsThing_71 : decode cX10_readsThing 71 = .ok (.iload_n 2, 1) := by decide +kernel
set_option maxRecDepth 20000 in
theorem dX10_readsThing_72 : decode cX10_readsThing 72 = .ok (.iconst 0, 1) := by decide +kernel
set_option maxRecDepth 20000 in
theorem dX10_readsThing_73 : decode cX10_readsThing 73 = .ok (.bipush 7, 2) := by decide +kernel
set_option maxRecDepth 20000 in
theorem dX10_readsThing_75 : decode cX10_readsThing 75 = .ok (.aload_n 0, 1) := by decide +kernel
set_option maxRecDepth 20000 in
theorem dX10_readsThing_76 : decode cX10_readsThing 76 = .ok (.getfield 96, 3) := by decide +kernel
set_option maxRecDepth 20000 in
theorem dX10_readsThing_79 : decode cX10_readsThing 79 = .ok (.invokevirtual 99, 3) := by decide +kernel
set_option maxRecDepth 20000 in
theorem dX10_readsThing_82 : decode cX10_readsThing 82 = .ok (.istore 4, 2) := by decide +kernel
set_option maxRecDepth 20000 in
theorem dX10_readsThing_84 : decode cX10_readsThing 84 = .ok (.iload 4, 2) := by decide +kernel
set_option maxRecDepth 20000 in
theorem dX10_readsThing_86 : decode cX10_readsThing 86 = .ok (.ifCond .ge 8, 3) := by decide +kernel
set_option maxRecDepth 20000 in
theorem dX10_readsThing_89 : decode cX10_readsThing 89 = .ok (.bipush (-9), 2) := by decide +kernel
set_option maxRecDepth 20000 in
theorem dX10_readsThing_91 : decode cX10_readsThing 91 = .ok (.goto 14, 3) := by decide +kernel
set_option maxRecDepth 20000 in
theorem dX10_readsThing_94 : decode cX10_readsThing 94 = .ok (.aload_n 0, 1) := by decide +kernel
set_option maxRecDepth 20000 in
theorem dX10_readsThing_95 : decode cX10_readsThing 95 = .ok (.iload_n 1, 1) := by decide +kernel
set_option maxRecDepth 20000 in
theorem dX10_readsThing_96 : decode cX10_readsThing 96 = .ok (.iload_n 2, 1) := by decide +kernel
set_option maxRecDepth 20000 in
theorem dX10_readsThing_97 : decode cX10_readsThing 97 = .ok (.iconst 1, 1) := by decide +kernel
set_option maxRecDepth 20000 in
theorem dX10_readsThing_98 : decode cX10_readsThing 98 = .ok (.bipush 9, 2) := by decide +kernel
set_option maxRecDepth 20000 in
theorem dX10_readsThing_100 : decode cX10_readsThing 100 = .ok (.bipush (-9), 2) := by decide +kernel
set_option maxRecDepth 20000 in
theorem dX10_readsThing_102 : decode cX10_readsThing 102 = .ok (.invokevirtual 99, 3) := by decide +kernel
set_option maxRecDepth 20000 in
theorem dX10_readsThing_105 : decode cX10_readsThing 105 = .ok (.istore 5, 2) := by decide +kernel
set_option maxRecDepth 20000 in
theorem dX10_readsThing_107 : decode cX10_readsThing 107 = .ok (.iload 5, 2) := by decide +kernel
set_option maxRecDepth 20000 in
theorem dX10_readsThing_109 : decode cX10_readsThing 109 = .ok (.ifCond .ge 8, 3) := by decide +kernel
set_option maxRecDepth 20000 in
theorem dX10_readsThing_112 : decode cX10_readsThing 112 = .ok (.bipush (-9), 2) := by decide +kernel
set_option maxRecDepth 20000 in
theorem dX10_readsThing_114 : decode cX10_readsThing 114 = .ok (.goto 14, 3) := by decide +kernel
set_option maxRecDepth 20000 in
theorem dX10_readsThing_117 : decode cX10_readsThing 117 = .ok (.aload_n 0, 1) := by decide +kernel
set_option maxRecDepth 20000 in
theorem dX10_readsThing_118 : decode cX10_readsThing 118 = .ok (.iload_n 1, 1) := by decide +kernel
set_option maxRecDepth 20000 in
theorem dX10_readsThing_119 : decode cX10_readsThing 119 = .ok (.iload_n 2, 1) := by decide +kernel
set_option maxRecDepth 20000 in
theorem dX10_readsThing_120 : decode cX10_readsThing 120 = .ok (.iconst 1, 1) := by decide +kernel
set_option maxRecDepth 20000 in
theorem dX10_readsThing_121 : decode cX10_readsThing 121 = .ok (.bipush 9, 2) := by decide +kernel
set_option maxRecDepth 20000 in
theorem dX10_readsThing_123 : decode cX10_readsThing 123 = .ok (.bipush (-9), 2) := by decide +kernel
set_option maxRecDepth 20000 in
theorem dX10_readsThing_125 : decode cX10_readsThing 125 = .ok (.invokevirtual 99, 3) := by decide +kernel
set_option maxRecDepth 20000 in
theorem dX10_readsThing_128 : decode cX10_readsThing 128 = .ok (.istore 6, 2) := by decide +kernel
set_option maxRecDepth 20000 in
theorem dX10_readsThing_130 : decode cX10_readsThing 130 = .ok (.iload 6, 2) := by decide +kernel
set_option maxRecDepth 20000 in
theorem dX10_readsThing_132 : decode cX10_readsThing 132 = .ok (.ifCond .ge 5, 3) := by decide +kernel
set_option maxRecDepth 20000 in
theorem dX10_readsThing_135 : decode cX10_readsThing 135 = .ok (.iconst 0, 1) := by decide +kernel
set_option maxRecDepth 20000 in
theorem dX10_readsThing_136 : decode cX10_readsThing 136 = .ok (.ireturn, 1) := by decide +kernel
set_option maxRecDepth 20000 in
theorem dX10_readsThing_137 : decode cX10_readsThing 137 = .ok (.aload_n 0, 1) := by decide +kernel
set_option maxRecDepth 20000 in
theorem dX10_readsThing_138 : decode cX10_readsThing 138 = .ok (.getfield 22, 3) := by decide +kernel
set_option maxRecDepth 20000 in
theorem dX10_readsThing_141 : decode cX10_readsThing 141 = .ok (.aload_n 0, 1) := by decide +kernel
set_option maxRecDepth 20000 in
theorem dX10_readsThing_142 : decode cX10_readsThing 142 = .ok (.getfield 96, 3) := by decide +kernel
set_option maxRecDepth 20000 in
theorem dX10_readsThing_145 : decode cX10_readsThing 145 = .ok (.iload_n 3, 1) := by decide +kernel
set_option maxRecDepth 20000 in
theorem dX10_readsThing_146 : decode cX10_readsThing 146 = .ok (.bipush 116, 2) := by decide +kernel
set_option maxRecDepth 20000 in
theorem dX10_readsThing_148 : decode cX10_readsThing 148 = .ok (.if_icmp .ne 7, 3) := by decide +kernel
set_option maxRecDepth 20000 in
theorem dX10_readsThing_151 : decode cX10_readsThing 151 = .ok (.iconst 0, 1) := by decide +kernel
set_option maxRecDepth 20000 in
theorem dX10_readsThing_152 : decode cX10_readsThing 152 = .ok (.goto 14, 3) := by decide +kernel
set_option maxRecDepth 20000 in
theorem dX10_readsThing_155 : decode cX10_readsThing 155 = .ok (.iload_n 3, 1) := by decide +kernel
set_option maxRecDepth 20000 in
theorem dX10_readsThing_156 : decode cX10_readsThing 156 = .ok (.bipush 115, 2) := by decide +kernel
set_option maxRecDepth 20000 in
theorem dX10_readsThing_158 : decode cX10_readsThing 158 = .ok (.if_icmp .ne 7, 3) := by decide +kernel
set_option maxRecDepth 20000 in
theorem dX10_readsThing_161 : decode cX10_readsThing 161 = .ok (.iconst 1, 1) := by decide +kernel
set_option maxRecDepth 20000 in
theorem dX10_readsThing_162 : decode cX10_readsThing 162 = .ok (.goto 4, 3) := by decide +kernel
set_option maxRecDepth 20000 in
theorem dX10_readsThing_165 : decode cX10_readsThing 165 = .ok (.iconst 2, 1) := by decide +kernel
set_option maxRecDepth 20000 in
theorem dX10_readsThing_166 : decode cX10_readsThing 166 = .ok (.iastore, 1) := by decide +kernel
set_option maxRecDepth 20000 in
theorem dX10_readsThing_167 : decode cX10_readsThing 167 = .ok (.aload_n 0, 1) := by decide +kernel
set_option maxRecDepth 20000 in
theorem dX10_readsThing_168 : decode cX10_readsThing 168 = .ok (.getfield 25, 3) := by decide +kernel
set_option maxRecDepth 20000 in
theorem dX10_readsThing_171 : decode cX10_readsThing 171 = .ok (.aload_n 0, 1) := by decide +kernel
set_option maxRecDepth 20000 in
theorem dX10_readsThing_172 : decode cX10_readsThing 172 = .ok (.getfield 96, 3) := by decide +kernel
set_option maxRecDepth 20000 in
theorem dX10_readsThing_175 : decode cX10_readsThing 175 = .ok (.iload 4, 2) := by decide +kernel
set_option maxRecDepth 20000 in
theorem dX10_readsThing_177 : decode cX10_readsThing 177 = .ok (.iastore, 1) := by decide +kernel
set_option maxRecDepth 20000 in
theorem dX10_readsThing_178 : decode cX10_readsThing 178 = .ok (.aload_n 0, 1) := by decide +kernel
set_option maxRecDepth 20000 in
theorem dX10_readsThing_179 : decode cX10_readsThing 179 = .ok (.getfield 28, 3) := by decide +kernel
set_option maxRecDepth 20000 in
theorem dX10_readsThing_182 : decode cX10_readsThing 182 = .ok (.aload_n 0, 1) := by decide +kernel
set_option maxRecDepth 20000 in
theorem dX10_readsThing_183 : decode cX10_readsThing 183 = .ok (.getfield 96, 3) := by decide +kernel
set_option maxRecDepth 20000 in
theorem dX10_readsThing_186 : decode cX10_readsThing 186 = .ok (.iload 5, 2) := by decide +kernel
set_option maxRecDepth 20000 in
theorem dX10_readsThing_188 : decode cX10_readsThing 188 = .ok (.iastore, 1) := by decide +kernel
set_option maxRecDepth 20000 in
theorem dX10_readsThing_189 : decode cX10_readsThing 189 = .ok (.aload_n 0, 1) := by decide +kernel
set_option maxRecDepth 20000 in
theorem dX10_readsThing_190 : decode cX10_readsThing 190 = .ok (.getfield 31, 3) := by decide +kernel
set_option maxRecDepth 20000 in
theorem dX10_readsThing_193 : decode cX10_readsThing 193 = .ok (.aload_n 0, 1) := by decide +kernel
set_option maxRecDepth 20000 in
theorem dX10_readsThing_194 : decode cX10_readsThing 194 = .ok (.getfield 96, 3) := by decide +kernel
set_option maxRecDepth 20000 in
theorem dX10_readsThing_197 : decode cX10_readsThing 197 = .ok (.iload 6, 2) := by decide +kernel
set_option maxRecDepth 20000 in
theorem dX10_readsThing_199 : decode cX10_readsThing 199 = .ok (.iastore, 1) := by decide +kernel
set_option maxRecDepth 20000 in
theorem dX10_readsThing_200 : decode cX10_readsThing 200 = .ok (.aload_n 0, 1) := by decide +kernel
set_option maxRecDepth 20000 in
theorem dX10_readsThing_201 : decode cX10_readsThing 201 = .ok (.dup, 1) := by decide +kernel
set_option maxRecDepth 20000 in
theorem dX10_readsThing_202 : decode cX10_readsThing 202 = .ok (.getfield 96, 3) := by decide +kernel
set_option maxRecDepth 20000 in
theorem dX10_readsThing_205 : decode cX10_readsThing 205 = .ok (.iconst 1, 1) := by decide +kernel
set_option maxRecDepth 20000 in
theorem dX10_readsThing_206 : decode cX10_readsThing 206 = .ok (.iadd, 1) := by decide +kernel
set_option maxRecDepth 20000 in
theorem dX10_readsThing_207 : decode cX10_readsThing 207 = .ok (.putfield 96, 3) := by decide +kernel
set_option maxRecDepth 20000 in
theorem dX10_readsThing_210 : decode cX10_readsThing 210 = .ok (.iconst 1, 1) := by decide +kernel
set_option maxRecDepth 20000 in
theorem dX10_readsThing_211 : decode cX10_readsThing 211 = .ok (.ireturn, 1) := by decide +kernel
set_option maxRecDepth 20000 in
theorem dX10_readsTown_0 : decode cX10_readsTown 0 = .ok (.aload_n 0, 1) := by decide +kernel
set_option maxRecDepth 20000 in
theorem dX10_readsTown_1 : decode cX10_readsTown 1 = .ok (.iconst 0, 1) := by decide +kernel
set_option maxRecDepth 20000 in
theorem dX10_readsTown_2 : decode cX10_readsTown 2 = .ok (.putfield 89, 3) := by decide +kernel
set_option maxRecDepth 20000 in
theorem dX10_readsTown_5 : decode cX10_readsTown 5 = .ok (.aload_n 0, 1) := by decide +kernel
set_option maxRecDepth 20000 in
theorem dX10_readsTown_6 : decode cX10_readsTown 6 = .ok (.iconst 0, 1) := by decide +kernel
set_option maxRecDepth 20000 in
theorem dX10_readsTown_7 : decode cX10_readsTown 7 = .ok (.putfield 96, 3) := by decide +kernel
set_option maxRecDepth 20000 in
theorem dX10_readsTown_10 : decode cX10_readsTown 10 = .ok (.aload_n 0, 1) := by decide +kernel
set_option maxRecDepth 20000 in
theorem dX10_readsTown_11 : decode cX10_readsTown 11 = .ok (.iload_n 1, 1) := by decide +kernel
set_option maxRecDepth 20000 in
theorem dX10_readsTown_12 : decode cX10_readsTown 12 = .ok (.iload_n 2, 1) := by decide +kernel
set_option maxRecDepth 20000 in
theorem dX10_readsTown_13 : decode cX10_readsTown 13 = .ok (.invokevirtual 92, 3) := by decide +kernel
set_option maxRecDepth 20000 in
theorem dX10_readsTown_16 : decode cX10_readsTown 16 = .ok (.bipush 101, 2) := by decide +kernel
set_option maxRecDepth 20000 in
theorem dX10_readsTown_18 : decode cX10_readsTown 18 = .ok (.if_icmp .ne 7, 3) := by decide +kernel
set_option maxRecDepth 20000 in
theorem dX10_readsTown_21 : decode cX10_readsTown 21 = .ok (.iconst 1, 1) := by decide +kernel
set_option maxRecDepth 20000 in
theorem dX10_readsTown_22 : decode cX10_readsTown 22 = .ok (.goto 4, 3) := by decide +kernel
set_option maxRecDepth 20000 in
theorem dX10_readsTown_25 : decode cX10_readsTown 25 = .ok (.iconst 0, 1) := by decide +kernel
set_option maxRecDepth 20000 in
theorem dX10_readsTown_26 : decode cX10_readsTown 26 = .ok (.istore_n 3, 1) := by decide +kernel
set_option maxRecDepth 20000 in
theorem dX10_readsTown_27 : decode cX10_readsTown 27 = .ok (.aload_n 0, 1) := by decide +kernel
set_option maxRecDepth 20000 in
theorem dX10_readsTown_28 : decode cX10_readsTown 28 = .ok (.dup, 1) := by decide +kernel
set_option maxRecDepth 20000 in
theorem dX10_readsTown_29 : decode cX10_readsTown 29 = .ok (.getfield 89, 3) := by decide +kernel
set_option maxRecDepth 20000 in
theorem dX10_readsTown_32 : decode cX10_readsTown 32 = .ok (.iload_n 3, 1) := by decide +kernel
set_option maxRecDepth 20000 in
theorem dX10_readsTown_33 : decode cX10_readsTown 33 = .ok (.ifCond .eq 7, 3) := by decide +kernel
set_option maxRecDepth 20000 in
theorem dX10_readsTown_36 : decode cX10_readsTown 36 = .ok (.iconst 1, 1) := by decide +kernel
set_option maxRecDepth 20000 in
theorem dX10_readsTown_37 : decode cX10_readsTown 37 = .ok (.goto 4, 3) := by decide +kernel
set_option maxRecDepth 20000 in
theorem dX10_readsTown_40 : decode cX10_readsTown 40 = .ok (.iconst 0, 1) := by decide +kernel
set_option maxRecDepth 20000 in
theorem dX10_readsTown_41 : decode cX10_readsTown 41 = .ok (.iadd, 1) := by decide +kernel
set_option maxRecDepth 20000 in
theorem dX10_readsTown_42 : decode cX10_readsTown 42 = .ok (.putfield 89, 3) := by decide +kernel
set_option maxRecDepth 20000 in
theorem dX10_readsTown_45 : decode cX10_readsTown 45 = .ok (.iload_n 3, 1) := by decide +kernel
set_option maxRecDepth 20000 in
theorem dX10_readsTown_46 : decode cX10_readsTown 46 = .ok (.ifCond .eq 29, 3) := by decide +kernel
set_option maxRecDepth 20000 in
theorem dX10_readsTown_49 : decode cX10_readsTown 49 = .ok (.aload_n 0, 1) := by decide +kernel
set_option maxRecDepth 20000 in
theorem dX10_readsTown_50 : decode cX10_readsTown 50 = .ok (.getfield 96, 3) := by decide +kernel
set_option maxRecDepth 20000 in
theorem dX10_readsTown_53 : decode cX10_readsTown 53 = .ok (.iconst 2, 1) := by decide +kernel
set_option maxRecDepth 20000 in
theorem dX10_readsTown_54 : decode cX10_readsTown 54 = .ok (.if_icmp .lt 11, 3) := by decide +kernel
set_option maxRecDepth 20000 in
theorem dX10_readsTown_57 : decode cX10_readsTown 57 = .ok (.aload_n 0, 1) := by decide +kernel
set_option maxRecDepth 20000 in
theorem dX10_readsTown_58 : decode cX10_readsTown 58 = .ok (.getfield 89, 3) := by decide +kernel
set_option maxRecDepth 20000 in
theorem dX10_readsTown_61 : decode cX10_readsTown 61 = .ok (.iload_n 2, 1) := by decide +kernel
set_option maxRecDepth 20000 in
theorem dX10_readsTown_62 : decode cX10_readsTown 62 = .ok (.if_icmp .ge 13, 3) := by decide +kernel
set_option maxRecDepth 20000 in
theorem dX10_readsTown_65 : decode cX10_readsTown 65 = .ok (.aload_n 0, 1) := by decide +kernel
set_option maxRecDepth 20000 in
theorem dX10_readsTown_66 : decode cX10_readsTown 66 = .ok (.iload_n 1, 1) := by decide +kernel
set_option maxRecDepth 20000 in
theorem dX10_readsTown_67 : decode cX10_readsTown 67 = .ok (.iload_n 2, 1) := by decide +kernel
set_option maxRecDepth 20000 in
theorem dX10_readsTown_68 : decode cX10_readsTown 68 = .ok (.invokevirtual 103, 3) := by decide +kernel
set_option maxRecDepth 20000 in
theorem dX10_readsTown_71 : decode cX10_readsTown 71 = .ok (.istore_n 3, 1) := by decide +kernel
set_option maxRecDepth 20000 in
theorem dX10_readsTown_72 : decode cX10_readsTown 72 = .ok (.goto (-27), 3) := by decide +kernel
set_option maxRecDepth 20000 in
theorem dX10_readsTown_75 : decode cX10_readsTown 75 = .ok (.iconst 0, 1) := by decide +kernel
set_option maxRecDepth 20000 in
theorem dX10_readsTown_76 : decode cX10_readsTown 76 = .ok (.istore 4, 2) := by decide +kernel
set_option maxRecDepth 20000 in
theorem dX10_readsTown_78 : decode cX10_readsTown 78 = .ok (.iload 4, 2) := by decide +kernel
set_option maxRecDepth 20000 in
theorem dX10_readsTown_80 : decode cX10_readsTown 80 = .ok (.aload_n 0, 1) := by decide +kernel
set_option maxRecDepth 20000 in
theorem dX10_readsTown_81 : decode cX10_readsTown 81 = .ok (.getfield 96, 3) := by decide +kernel
set_option maxRecDepth 20000 in
theorem dX10_readsTown_84 : decode cX10_readsTown 84 = .ok (.if_icmp .ge 54, 3) := by decide +kernel
set_option maxRecDepth 20000 in
theorem dX10_readsTown_87 : decode cX10_readsTown 87 = .ok (.iload_n 3, 1) := by decide +kernel
set_option maxRecDepth 20000 in
theorem dX10_readsTown_88 : decode cX10_readsTown 88 = .ok (.ifCond .eq 50, 3) := by decide +kernel
set_option maxRecDepth 20000 in
theorem dX10_readsTown_91 : decode cX10_readsTown 91 = .ok (.aload_n 0, 1) := by decide +kernel
set_option maxRecDepth 20000 in
theorem dX10_readsTown_92 : decode cX10_readsTown 92 = .ok (.getfield 25, 3) := by decide +kernel
set_option maxRecDepth 20000 in
theorem dX10_readsTown_95 : decode cX10_readsTown 95 = .ok (.iload 4, 2) := by decide +kernel
set_option maxRecDepth 20000 in
theorem dX10_readsTown_97 : decode cX10_readsTown 97 = .ok (.iaload, 1) := by decide +kernel
set_option maxRecDepth 20000 in
theorem dX10_readsTown_98 : decode cX10_readsTown 98 = .ok (.aload_n 0, 1) := by decide +kernel
set_option maxRecDepth 20000 in
theorem dX10_readsTown_99 : decode cX10_readsTown 99 = .ok (.getfield 96, 3) := by decide +kernel
set_option maxRecDepth 20000 in
theorem dX10_readsTown_102 : decode cX10_readsTown 102 = .ok (.if_icmp .ge 7, 3) := by decide +kernel
set_option maxRecDepth 20000 in
theorem dX10_readsTown_105 : decode cX10_readsTown 105 = .ok (.iconst 1, 1) := by decide +kernel
set_option maxRecDepth 20000 in
theorem dX10_readsTown_106 : decode cX10_readsTown 106 = .ok (.goto 4, 3) := by decide +kernel
set_option maxRecDepth 20000 in
theorem dX10_readsTown_109 : decode cX10_readsTown 109 = .ok (.iconst 0, 1) := by decide +kernel
set_option maxRecDepth 20000 in
theorem dX10_readsTown_110 : decode cX10_readsTown 110 = .ok (.istore_n 3, 1) := by decide +kernel
set_option maxRecDepth 20000 in
theorem dX10_readsTown_111 : decode cX10_readsTown 111 = .ok (.aload_n 0, 1) := by decide +kernel
set_option maxRecDepth 20000 in
theorem dX10_readsTown_112 : decode cX10_readsTown 112 = .ok (.iload_n 3, 1) := by decide +kernel
set_option maxRecDepth 20000 in
theorem dX10_readsTown_113 : decode cX10_readsTown 113 = .ok (.ifCond .eq 10, 3) := by decide +kernel
set_option maxRecDepth 20000 in
theorem dX10_readsTown_116 : decode cX10_readsTown 116 = .ok (.aload_n 0, 1) := by decide +kernel
set_option maxRecDepth 20000 in
theorem dX10_readsTown_117 : decode cX10_readsTown 117 = .ok (.getfield 89, 3) := by decide +kernel
set_option maxRecDepth 20000 in
theorem dX10_readsTown_120 : decode cX10_readsTown 120 = .ok (.goto 9, 3) := by decide +kernel
set_option maxRecDepth 20000 in
theorem dX10_readsTown_123 : decode cX10_readsTown 123 = .ok (.iconst 3, 1) := by decide +kernel
set_option maxRecDepth 20000 in
theorem dX10_readsTown_124 : decode cX10_readsTown 124 = .ok (.iconst 5, 1) := by decide +kernel
set_option maxRecDepth 20000 in
theorem dX10_readsTown_125 : decode cX10_readsTown 125 = .ok (.iload 4, 2) := by decide +kernel
set_option maxRecDepth 20000 in
theorem dX10_readsTown_127 : decode cX10_readsTown 127 = .ok (.imul, 1) := by decide +kernel
set_option maxRecDepth 20000 in
theorem dX10_readsTown_128 : decode cX10_readsTown 128 = .ok (.iadd, 1) := by decide +kernel
set_option maxRecDepth 20000 in
theorem dX10_readsTown_129 : decode cX10_readsTown 129 = .ok (.putfield 89, 3) := by decide +kernel
set_option maxRecDepth 20000 in
theorem dX10_readsTown_132 : decode cX10_readsTown 132 = .ok (.iinc 4 1, 3) := by decide +kernel
set_option maxRecDepth 20000 in
theorem dX10_readsTown_135 : decode cX10_readsTown 135 = .ok (.goto (-57), 3) := by decide +kernel
set_option maxRecDepth 20000 in
theorem dX10_readsTown_138 : decode cX10_readsTown 138 = .ok (.iload_n 3, 1) := by decide +kernel
set_option maxRecDepth 20000 in
theorem dX10_readsTown_139 : decode cX10_readsTown 139 = .ok (.ireturn, 1) := by decide +kernel
set_option maxRecDepth 20000 in
theorem dX10_cellsBarred_0 : decode cX10_cellsBarred 0 = .ok (.aload_n 0, 1) := by decide +kernel
set_option maxRecDepth 20000 in
theorem dX10_cellsBarred_1 : decode cX10_cellsBarred 1 = .ok (.getfield 58, 3) := by decide +kernel
set_option maxRecDepth 20000 in
theorem dX10_cellsBarred_4 : decode cX10_cellsBarred 4 = .ok (.iload_n 1, 1) := by decide +kernel
set_option maxRecDepth 20000 in
theorem dX10_cellsBarred_5 : decode cX10_cellsBarred 5 = .ok (.iaload, 1) := by decide +kernel
set_option maxRecDepth 20000 in
theorem dX10_cellsBarred_6 : decode cX10_cellsBarred 6 = .ok (.ifCond .lt 19, 3) := by decide +kernel
set_option maxRecDepth 20000 in
theorem dX10_cellsBarred_9 : decode cX10_cellsBarred 9 = .ok (.aload_n 0, 1) := by decide +kernel
set_option maxRecDepth 20000 in
theorem dX10_cellsBarred_10 : decode cX10_cellsBarred 10 = .ok (.getfield 61, 3) := by decide +kernel
set_option maxRecDepth 20000 in
theorem dX10_cellsBarred_13 : decode cX10_cellsBarred 13 = .ok (.iload_n 1, 1) := by decide +kernel
set_option maxRecDepth 20000 in
theorem dX10_cellsBarred_14 : decode cX10_cellsBarred 14 = .ok (.iaload, 1) := by decide +kernel
set_option maxRecDepth 20000 in
theorem dX10_cellsBarred_15 : decode cX10_cellsBarred 15 = .ok (.iload_n 2, 1) := by decide +kernel
set_option maxRecDepth 20000 in
theorem dX10_cellsBarred_16 : decode cX10_cellsBarred 16 = .ok (.if_icmp .eq 9, 3) := by decide +kernel
set_option maxRecDepth 20000 in
theorem dX10_cellsBarred_19 : decode cX10_cellsBarred 19 = .ok (.aload_n 0, 1) := by decide +kernel
set_option maxRecDepth 20000 in
theorem dX10_cellsBarred_20 : decode cX10_cellsBarred 20 = .ok (.iconst 2, 1) := by decide +kernel
set_option maxRecDepth 20000 in
theorem dX10_cellsBarred_21 : decode cX10_cellsBarred 21 = .ok (.invokevirtual 107, 3) := by decide +kernel
set_option maxRecDepth 20000 in
theorem dX10_cellsBarred_24 : decode cX10_cellsBarred 24 = .ok (.ireturn, 1) := by decide +kernel
set_option maxRecDepth 20000 in
theorem dX10_cellsBarred_25 : decode cX10_cellsBarred 25 = .ok (.aload_n 0, 1) := by decide +kernel
set_option maxRecDepth 20000 in
theorem dX10_cellsBarred_26 : decode cX10_cellsBarred 26 = .ok (.getfield 58, 3) := by decide +kernel
set_option maxRecDepth 20000 in
theorem dX10_cellsBarred_29 : decode cX10_cellsBarred 29 = .ok (.iload_n 1, 1) := by decide +kernel
set_option maxRecDepth 20000 in
theorem dX10_cellsBarred_30 : decode cX10_cellsBarred 30 = .ok (.iaload, 1) := by decide +kernel
set_option maxRecDepth 20000 in
theorem dX10_cellsBarred_31 : decode cX10_cellsBarred 31 = .ok (.ifCond .ge 9, 3) := by decide +kernel
set_option maxRecDepth 20000 in
theorem dX10_cellsBarred_34 : decode cX10_cellsBarred 34 = .ok (.aload_n 0, 1) := by decide +kernel
set_option maxRecDepth 20000 in
theorem dX10_cellsBarred_35 : decode cX10_cellsBarred 35 = .ok (.iconst 1, 1) := by decide +kernel
set_option maxRecDepth 20000 in
theorem dX10_cellsBarred_36 : decode cX10_cellsBarred 36 = .ok (.invokevirtual 107, 3) := by decide +kernel
set_option maxRecDepth 20000 in
theorem dX10_cellsBarred_39 : decode cX10_cellsBarred 39 = .ok (.ireturn, 1) := by decide +kernel
set_option maxRecDepth 20000 in
theorem dX10_cellsBarred_40 : decode cX10_cellsBarred 40 = .ok (.lload 4, 2) := by decide +kernel
set_option maxRecDepth 20000 in
theorem dX10_cellsBarred_42 : decode cX10_cellsBarred 42 = .ok (.lconst 0, 1) := by decide +kernel
set_option maxRecDepth 20000 in
theorem dX10_cellsBarred_43 : decode cX10_cellsBarred 43 = .ok (.lcmp, 1) := by decide +kernel
set_option maxRecDepth 20000 in
theorem dX10_cellsBarred_44 : decode cX10_cellsBarred 44 = .ok (.ifCond .ge 9, 3) := by decide +kernel
set_option maxRecDepth 20000 in
theorem dX10_cellsBarred_47 : decode cX10_cellsBarred 47 = .ok (.aload_n 0, 1) := by decide +kernel
set_option maxRecDepth 20000 in
theorem dX10_cellsBarred_48 : decode cX10_cellsBarred 48 = .ok (.iconst 4, 1) := by decide +kernel
set_option maxRecDepth 20000 in
theorem dX10_cellsBarred_49 : decode cX10_cellsBarred 49 = .ok (.invokevirtual 107, 3) := by decide +kernel
set_option maxRecDepth 20000 in
theorem dX10_cellsBarred_52 : decode cX10_cellsBarred 52 = .ok (.ireturn, 1) := by decide +kernel
set_option maxRecDepth 20000 in
theorem dX10_cellsBarred_53 : decode cX10_cellsBarred 53 = .ok (.iload_n 3, 1) := by decide +kernel
set_option maxRecDepth 20000 in
theorem dX10_cellsBarred_54 : decode cX10_cellsBarred 54 = .ok (.lload 4, 2) := by decide +kernel
set_option maxRecDepth 20000 in
theorem dX10_cellsBarred_56 : decode cX10_cellsBarred 56 = .ok (.aload_n 0, 1) := by decide +kernel
set_option maxRecDepth 20000 in
theorem dX10_cellsBarred_57 : decode cX10_cellsBarred 57 = .ok (.getfield 58, 3) := by decide +kernel
set_option maxRecDepth 20000 in
theorem dX10_cellsBarred_60 : decode cX10_cellsBarred 60 = .ok (.iload_n 1, 1) := by decide +kernel
set_option maxRecDepth 20000 in
theorem dX10_cellsBarred_61 : decode cX10_cellsBarred 61 = .ok (.iaload, 1) := by decide +kernel
set_option maxRecDepth 20000 in
theorem dX10_cellsBarred_62 : decode cX10_cellsBarred 62 = .ok (.invokestatic 111, 3) := by decide +kernel
set_option maxRecDepth 20000 in
theorem dX10_cellsBarred_65 : decode cX10_cellsBarred 65 = .ok (.ifCond .eq 11, 3) := by decide +kernel
set_option maxRecDepth 20000 in
theorem dX10_cellsBarred_68 : decode cX10_cellsBarred 68 = .ok (.aload_n 0, 1) := by decide +kernel
set_option maxRecDepth 20000 in
theorem dX10_cellsBarred_69 : decode cX10_cellsBarred 69 = .ok (.iconst 3, 1) := by decide +kernel
set_option maxRecDepth 20000 in
theorem dX10_cellsBarred_70 : decode cX10_cellsBarred 70 = .ok (.invokevirtual 107, 3) := by decide +kernel
set_option maxRecDepth 20000 in
theorem dX10_cellsBarred_73 : decode cX10_cellsBarred 73 = .ok (.goto 4, 3) := by decide +kernel
set_option maxRecDepth 20000 in
theorem dX10_cellsBarred_76 : decode cX10_cellsBarred 76 = .ok (.iconst 0, 1) := by decide +kernel
set_option maxRecDepth 20000 in
theorem dX10_cellsBarred_77 : decode cX10_cellsBarred 77 = .ok (.ireturn, 1) := by decide +kernel
set_option maxRecDepth 20000 in
theorem dX10_town_0 : decode cX10_town 0 = .ok (.iload_n 1, 1) := by decide +kernel
set_option maxRecDepth 20000 in
theorem dX10_town_1 : decode cX10_town 1 = .ok (.invokestatic 115, 3) := by decide +kernel
set_option maxRecDepth 20000 in
theorem dX10_town_4 : decode cX10_town 4 = .ok (.ifCond .eq 9, 3) := by decide +kernel
set_option maxRecDepth 20000 in
theorem dX10_town_7 : decode cX10_town 7 = .ok (.aload_n 0, 1) := by decide +kernel
set_option maxRecDepth 20000 in
theorem dX10_town_8 : decode cX10_town 8 = .ok (.iconst (-1), 1) := by decide +kernel
set_option maxRecDepth 20000 in
theorem dX10_town_9 : decode cX10_town 9 = .ok (.invokevirtual 119, 3) := by decide +kernel
set_option maxRecDepth 20000 in
theorem dX10_town_12 : decode cX10_town 12 = .ok (.ireturn, 1) := by decide +kernel
set_option maxRecDepth 20000 in
theorem dX10_town_13 : decode cX10_town 13 = .ok (.iload_n 2, 1) := by decide +kernel
set_option maxRecDepth 20000 in
theorem dX10_town_14 : decode cX10_town 14 = .ok (.i2l, 1) := by decide +kernel
set_option maxRecDepth 20000 in
theorem dX10_town_15 : decode cX10_town 15 = .ok (.lconst 0, 1) := by decide +kernel
set_option maxRecDepth 20000 in
theorem dX10_town_16 : decode cX10_town 16 = .ok (.ldc2_w 122, 3) := by decide +kernel
set_option maxRecDepth 20000 in
theorem dX10_town_19 : decode cX10_town 19 = .ok (.invokestatic 83, 3) := by decide +kernel
set_option maxRecDepth 20000 in
theorem dX10_town_22 : decode cX10_town 22 = .ok (.ifCond .ne 10, 3) := by decide +kernel
set_option maxRecDepth 20000 in
theorem dX10_town_25 : decode cX10_town 25 = .ok (.aload_n 0, 1) := by decide +kernel
set_option maxRecDepth 20000 in
theorem dX10_town_26 : decode cX10_town 26 = .ok (.bipush (-2), 2) := by decide +kernel
set_option maxRecDepth 20000 in
theorem dX10_town_28 : decode cX10_town 28 = .ok (.invokevirtual 119, 3) := by decide +kernel
set_option maxRecDepth 20000 in
theorem dX10_town_31 : decode cX10_town 31 = .ok (.ireturn, 1) := by decide +kernel
set_option maxRecDepth 20000 in
theorem dX10_town_32 : decode cX10_town 32 = .ok (.aload_n 0, 1) := by decide +kernel
set_option maxRecDepth 20000 in
theorem dX10_town_33 : decode cX10_town 33 = .ok (.iload_n 1, 1) := by decide +kernel
set_option maxRecDepth 20000 in
theorem dX10_town_34 : decode cX10_town 34 = .ok (.iload_n 2, 1) := by decide +kernel
set_option maxRecDepth 20000 in
theorem dX10_town_35 : decode cX10_town 35 = .ok (.iload_n 3, 1) := by decide +kernel
set_option maxRecDepth 20000 in
theorem dX10_town_36 : decode cX10_town 36 = .ok (.iload 4, 2) := by decide +kernel
set_option maxRecDepth 20000 in
theorem dX10_town_38 : decode cX10_town 38 = .ok (.i2l, 1) := by decide +kernel
set_option maxRecDepth 20000 in
theorem dX10_town_39 : decode cX10_town 39 = .ok (.invokevirtual 124, 3) := by decide +kernel
set_option maxRecDepth 20000 in
theorem dX10_town_42 : decode cX10_town 42 = .ok (.istore 5, 2) := by decide +kernel
set_option maxRecDepth 20000 in
theorem dX10_town_44 : decode cX10_town 44 = .ok (.iload 5, 2) := by decide +kernel
set_option maxRecDepth 20000 in
theorem dX10_town_46 : decode cX10_town 46 = .ok (.ifCond .ge 6, 3) := by decide +kernel
set_option maxRecDepth 20000 in
theorem dX10_town_49 : decode cX10_town 49 = .ok (.iload 5, 2) := by decide +kernel
set_option maxRecDepth 20000 in
theorem dX10_town_51 : decode cX10_town 51 = .ok (.ireturn, 1) := by decide +kernel
set_option maxRecDepth 20000 in
theorem dX10_town_52 : decode cX10_town 52 = .ok (.aload_n 0, 1) := by decide +kernel
set_option maxRecDepth 20000 in
theorem dX10_town_53 : decode cX10_town 53 = .ok (.bipush 60, 2) := by decide +kernel
set_option maxRecDepth 20000 in
theorem dX10_town_55 : decode cX10_town 55 = .ok (.iload_n 1, 1) := by decide +kernel
set_option maxRecDepth 20000 in
theorem dX10_town_56 : decode cX10_town 56 = .ok (.imul, 1) := by decide +kernel
set_option maxRecDepth 20000 in
theorem dX10_town_57 : decode cX10_town 57 = .ok (.iload_n 3, 1) := by decide +kernel
set_option maxRecDepth 20000 in
theorem dX10_town_58 : decode cX10_town 58 = .ok (.iadd, 1) := by decide +kernel
set_option maxRecDepth 20000 in
theorem dX10_town_59 : decode cX10_town 59 = .ok (.iload 4, 2) := by decide +kernel
set_option maxRecDepth 20000 in
theorem dX10_town_61 : decode cX10_town 61 = .ok (.invokevirtual 128, 3) := by decide +kernel
set_option maxRecDepth 20000 in
theorem dX10_town_64 : decode cX10_town 64 = .ok (.ifCond .ne 15, 3) := by decide +kernel
set_option maxRecDepth 20000 in
theorem dX10_town_67 : decode cX10_town 67 = .ok (.aload_n 0, 1) := by decide +kernel
set_option maxRecDepth 20000 in
theorem dX10_town_68 : decode cX10_town 68 = .ok (.bipush (-100), 2) := by decide +kernel
set_option maxRecDepth 20000 in
theorem dX10_town_70 : decode cX10_town 70 = .ok (.aload_n 0, 1) := by decide +kernel
set_option maxRecDepth 20000 in
theorem dX10_town_71 : decode cX10_town 71 = .ok (.getfield 89, 3) := by decide +kernel
set_option maxRecDepth 20000 in
theorem dX10_town_74 : decode cX10_town 74 = .ok (.isub, 1) := by decide +kernel
set_option maxRecDepth 20000 in
theorem dX10_town_75 : decode cX10_town 75 = .ok (.invokevirtual 119, 3) := by decide +kernel
set_option maxRecDepth 20000 in
theorem dX10_town_78 : decode cX10_town 78 = .ok (.ireturn, 1) := by decide +kernel
set_option maxRecDepth 20000 in
theorem dX10_town_79 : decode cX10_town 79 = .ok (.aload_n 0, 1) := by decide +kernel
set_option maxRecDepth 20000 in
theorem dX10_town_80 : decode cX10_town 80 = .ok (.aload_n 0, 1) := by decide +kernel
set_option maxRecDepth 20000 in
theorem dX10_town_81 : decode cX10_town 81 = .ok (.getfield 96, 3) := by decide +kernel
set_option maxRecDepth 20000 in
theorem dX10_town_84 : decode cX10_town 84 = .ok (.putfield 80, 3) := by decide +kernel
set_option maxRecDepth 20000 in
theorem dX10_town_87 : decode cX10_town 87 = .ok (.iconst 0, 1) := by decide +kernel
set_option maxRecDepth 20000 in
theorem dX10_town_88 : decode cX10_town 88 = .ok (.istore 6, 2) := by decide +kernel
set_option maxRecDepth 20000 in
theorem dX10_town_90 : decode cX10_town 90 = .ok (.iload 6, 2) := by decide +kernel
set_option maxRecDepth 20000 in
theorem dX10_town_92 : decode cX10_town 92 = .ok (.aload_n 0, 1) := by decide +kernel
set_option maxRecDepth 20000 in
theorem dX10_town_93 : decode cX10_town 93 = .ok (.getfield 80, 3) := by decide +kernel
set_option maxRecDepth 20000 in
theorem dX10_town_96 : decode cX10_town 96 = .ok (.if_icmp .ge 65, 3) := by decide +kernel
set_option maxRecDepth 20000 in
theorem dX10_town_99 : decode cX10_town 99 = .ok (.aload_n 0, 1) := by decide +kernel
set_option maxRecDepth 20000 in
theorem dX10_town_100 : decode cX10_town 100 = .ok (.getfield 7, 3) := by decide +kernel
set_option maxRecDepth 20000 in
theorem dX10_town_103 : decode cX10_town 103 = .ok (.iload 6, 2) := by decide +kernel
set_option maxRecDepth 20000 in
theorem dX10_town_105 : decode cX10_town 105 = .ok (.aload_n 0, 1) := by decide +kernel
set_option maxRecDepth 20000 in
theorem dX10_town_106 : decode cX10_town 106 = .ok (.getfield 22, 3) := by decide +kernel
set_option maxRecDepth 20000 in
theorem dX10_town_109 : decode cX10_town 109 = .ok (.iload 6, 2) := by decide +kernel
set_option maxRecDepth 20000 in
theorem dX10_town_111 : decode cX10_town 111 = .ok (.iaload, 1) := by decide +kernel
set_option maxRecDepth 20000 in
theorem dX10_town_112 : decode cX10_town 112 = .ok (.iastore, 1) := by decide +kernel
set_option maxRecDepth 20000 in
theorem dX10_town_113 : decode cX10_town 113 = .ok (.aload_n 0, 1) := by decide +kernel
set_option maxRecDepth 20000 in
theorem dX10_town_114 : decode cX10_town 114 = .ok (.getfield 13, 3) := by decide +kernel
set_option maxRecDepth 20000 in
theorem dX10_town_117 : decode cX10_town 117 = .ok (.iload 6, 2) := by decide +kernel
set_option maxRecDepth 20000 in
theorem dX10_town_119 : decode cX10_town 119 = .ok (.aload_n 0, 1) := by decide +kernel
set_option maxRecDepth 20000 in
theorem dX10_town_120 : decode cX10_town 120 = .ok (.getfield 25, 3) := by decide +kernel
set_option maxRecDepth 20000 in
theorem dX10_town_123 : decode cX10_town 123 = .ok (.iload 6, 2) := by decide +kernel
set_option maxRecDepth 20000 in
theorem dX10_town_125 : decode cX10_town 125 = .ok (.iaload, 1) := by decide +kernel
set_option maxRecDepth 20000 in
theorem dX10_town_126 : decode cX10_town 126 = .ok (.iastore, 1) := by decide +kernel
set_option maxRecDepth 20000 in
theorem dX10_town_127 : decode cX10_town 127 = .ok (.aload_n 0, 1) := by decide +kernel
set_option maxRecDepth 20000 in
theorem dX10_town_128 : decode cX10_town 128 = .ok (.getfield 16, 3) := by decide +kernel
set_option maxRecDepth 20000 in
theorem dX10_town_131 : decode cX10_town 131 = .ok (.iload 6, 2) := by decide +kernel
set_option maxRecDepth 20000 in
theorem dX10_town_133 : decode cX10_town 133 = .ok (.aload_n 0, 1) := by decide +kernel
set_option maxRecDepth 20000 in
theorem dX10_town_134 : decode cX10_town 134 = .ok (.getfield 28, 3) := by decide +kernel
set_option maxRecDepth 20000 in
theorem dX10_town_137 : decode cX10_town 137 = .ok (.iload 6, 2) := by decide +kernel
set_option maxRecDepth 20000 in
theorem dX10_town_139 : decode cX10_town 139 = .ok (.iaload, 1) := by decide +kernel
set_option maxRecDepth 20000 in
theorem dX10_town_140 : decode cX10_town 140 = .ok (.iastore, 1) := by decide +kernel
set_option maxRecDepth 20000 in
theorem dX10_town_141 : decode cX10_town 141 = .ok (.aload_n 0, 1) := by decide +kernel
set_option maxRecDepth 20000 in
theorem dX10_town_142 : decode cX10_town 142 = .ok (.getfield 19, 3) := by decide +kernel
set_option maxRecDepth 20000 in
theorem dX10_town_145 : decode cX10_town 145 = .ok (.iload 6, 2) := by decide +kernel
set_option maxRecDepth 20000 in
theorem dX10_town_147 : decode cX10_town 147 = .ok (.aload_n 0, 1) := by decide +kernel
set_option maxRecDepth 20000 in
theorem dX10_town_148 : decode cX10_town 148 = .ok (.getfield 31, 3) := by decide +kernel
set_option maxRecDepth 20000 in
theorem dX10_town_151 : decode cX10_town 151 = .ok (.iload 6, 2) := by decide +kernel
set_option maxRecDepth 20000 in
theorem dX10_town_153 : decode cX10_town 153 = .ok (.iaload, 1) := by decide +kernel
set_option maxRecDepth 20000 in
theorem dX10_town_154 : decode cX10_town 154 = .ok (.iastore, 1) := by decide +kernel
set_option maxRecDepth 20000 in
theorem dX10_town_155 : decode cX10_town 155 = .ok (.iinc 6 1, 3) := by decide +kernel
set_option maxRecDepth 20000 in
theorem dX10_town_158 : decode cX10_town 158 = .ok (.goto (-68), 3) := by decide +kernel
set_option maxRecDepth 20000 in
theorem dX10_town_161 : decode cX10_town 161 = .ok (.aload_n 0, 1) := by decide +kernel
set_option maxRecDepth 20000 in
theorem dX10_town_162 : decode cX10_town 162 = .ok (.iconst 0, 1) := by decide +kernel
set_option maxRecDepth 20000 in
theorem dX10_town_163 : decode cX10_town 163 = .ok (.putfield 131, 3) := by decide +kernel
set_option maxRecDepth 20000 in
theorem dX10_town_166 : decode cX10_town 166 = .ok (.aload_n 0, 1) := by decide +kernel
set_option maxRecDepth 20000 in
theorem dX10_town_167 : decode cX10_town 167 = .ok (.iconst 0, 1) := by decide +kernel
set_option maxRecDepth 20000 in
theorem dX10_town_168 : decode cX10_town 168 = .ok (.putfield 134, 3) := by decide +kernel
set_option maxRecDepth 20000 in
theorem dX10_town_171 : decode cX10_town 171 = .ok (.aload_n 0, 1) := by decide +kernel
set_option maxRecDepth 20000 in
theorem dX10_town_172 : decode cX10_town 172 = .ok (.iconst 0, 1) := by decide +kernel
set_option maxRecDepth 20000 in
theorem dX10_town_173 : decode cX10_town 173 = .ok (.putfield 137, 3) := by decide +kernel
set_option maxRecDepth 20000 in
theorem dX10_town_176 : decode cX10_town 176 = .ok (.aload_n 0, 1) := by decide +kernel
set_option maxRecDepth 20000 in
theorem dX10_town_177 : decode cX10_town 177 = .ok (.aload_n 0, 1) := by decide +kernel
set_option maxRecDepth 20000 in
theorem dX10_town_178 : decode cX10_town 178 = .ok (.getfield 80, 3) := by decide +kernel
set_option maxRecDepth 20000 in
theorem dX10_town_181 : decode cX10_town 181 = .ok (.invokevirtual 119, 3) := by decide +kernel
set_option maxRecDepth 20000 in
theorem dX10_town_184 : decode cX10_town 184 = .ok (.ireturn, 1) := by decide +kernel
set_option maxRecDepth 20000 in
theorem dX10_goodOf_0 : decode cX10_goodOf 0 = .ok (.aload_n 0, 1) := by decide +kernel
set_option maxRecDepth 20000 in
theorem dX10_goodOf_1 : decode cX10_goodOf 1 = .ok (.getfield 16, 3) := by decide +kernel
set_option maxRecDepth 20000 in
theorem dX10_goodOf_4 : decode cX10_goodOf 4 = .ok (.iload_n 1, 1) := by decide +kernel
set_option maxRecDepth 20000 in
theorem dX10_goodOf_5 : decode cX10_goodOf 5 = .ok (.iaload, 1) := by decide +kernel
set_option maxRecDepth 20000 in
theorem dX10_goodOf_6 : decode cX10_goodOf 6 = .ok (.istore_n 2, 1) := by decide +kernel
set_option maxRecDepth 20000 in
theorem dX10_goodOf_7 : decode cX10_goodOf 7 = .ok (.aload_n 0, 1) := by decide +kernel
set_option maxRecDepth 20000 in
theorem dX10_goodOf_8 : decode cX10_goodOf 8 = .ok (.getfield 7, 3) := by decide +kernel
set_option maxRecDepth 20000 in
theorem dX10_goodOf_11 : decode cX10_goodOf 11 = .ok (.iload_n 1, 1) := by decide +kernel
set_option maxRecDepth 20000 in
theorem dX10_goodOf_12 : decode cX10_goodOf 12 = .ok (.iaload, 1) := by decide +kernel
set_option maxRecDepth 20000 in
theorem dX10_goodOf_13 : decode cX10_goodOf 13 = .ok (.ifCond .ne 7, 3) := by decide +kernel
set_option maxRecDepth 20000 in
theorem dX10_goodOf_16 : decode cX10_goodOf 16 = .ok (.iload_n 2, 1) := by decide +kernel
set_option maxRecDepth 20000 in
theorem dX10_goodOf_17 : decode cX10_goodOf 17 = .ok (.goto 24, 3) := by decide +kernel
set_option maxRecDepth 20000 in
theorem dX10_goodOf_20 : decode cX10_goodOf 20 = .ok (.aload_n 0, 1) := by decide +kernel
set_option maxRecDepth 20000 in
theorem dX10_goodOf_21 : decode cX10_goodOf 21 = .ok (.getfield 7, 3) := by decide +kernel
set_option maxRecDepth 20000 in
theorem dX10_goodOf_24 : decode cX10_goodOf 24 = .ok (.iload_n 1, 1) := by decide +kernel
set_option maxRecDepth 20000 in
theorem dX10_goodOf_25 : decode cX10_goodOf 25 = .ok (.iaload, 1) := by decide +kernel
set_option maxRecDepth 20000 in
theorem dX10_goodOf_26 : decode cX10_goodOf 26 = .ok (.iconst 1, 1) := by decide +kernel
set_option maxRecDepth 20000 in
theorem dX10_goodOf_27 : decode cX10_goodOf 27 = .ok (.if_icmp .ne 9, 3) := by decide +kernel
set_option maxRecDepth 20000 in
theorem dX10_goodOf_30 : decode cX10_goodOf 30 = .ok (.iload_n 2, 1) := by decide +kernel
set_option maxRecDepth 20000 in
theorem dX10_goodOf_31 : decode cX10_goodOf 31 = .ok (.iconst 1, 1) := by decide +kernel
set_option maxRecDepth 20000 in
theorem dX10_goodOf_32 : decode cX10_goodOf 32 = .ok (.iadd, 1) := by decide +kernel
set_option maxRecDepth 20000 in
theorem dX10_goodOf_33 : decode cX10_goodOf 33 = .ok (.goto 8, 3) := by decide +kernel
set_option maxRecDepth 20000 in
theorem dX10_goodOf_36 : decode cX10_goodOf 36 = .ok (.iconst 2, 1) := by decide +kernel
set_option maxRecDepth 20000 in
theorem dX10_goodOf_37 : decode cX10_goodOf 37 = .ok (.iload_n 2, 1) := by decide +kernel
set_option maxRecDepth 20000 in
theorem dX10_goodOf_38 : decode cX10_goodOf 38 = .ok (.iconst 1, 1) := by decide +kernel
set_option maxRecDepth 20000 in
theorem dX10_goodOf_39 : decode cX10_goodOf 39 = .ok (.iadd, 1) := by decide +kernel
set_option maxRecDepth 20000 in
theorem dX10_goodOf_40 : decode cX10_goodOf 40 = .ok (.imul, 1) := by decide +kernel
set_option maxRecDepth 20000 in
theorem dX10_goodOf_41 : decode cX10_goodOf 41 = .ok (.ireturn, 1) := by decide +kernel
set_option maxRecDepth 20000 in
theorem dX10_ofThing_0 : decode cX10_ofThing 0 = .ok (.aload_n 0, 1) := by decide +kernel
set_option maxRecDepth 20000 in
theorem dX10_ofThing_1 : decode cX10_ofThing 1 = .ok (.iload_n 1, 1) := by decide +kernel
set_option maxRecDepth 20000 in
theorem dX10_ofThing_2 : decode cX10_ofThing 2 = .ok (.invokevirtual 140, 3) := by decide +kernel
set_option maxRecDepth 20000 in
theorem dX10_ofThing_5 : decode cX10_ofThing 5 = .ok (.ifCond .eq 5, 3) := by decide +kernel
set_option maxRecDepth 20000 in
theorem dX10_ofThing_8 : decode cX10_ofThing 8 = .ok (.iconst (-1), 1) := by decide +kernel
set_option maxRecDepth 20000 in
theorem dX10_ofThing_9 : decode cX10_ofThing 9 = .ok (.ireturn, 1) := by decide +kernel
set_option maxRecDepth 20000 in
theorem dX10_ofThing_10 : decode cX10_ofThing 10 = .ok (.iload_n 2, 1) := by decide +kernel
set_option maxRecDepth 20000 in
theorem dX10_ofThing_11 : decode cX10_ofThing 11 = .ok (.tableswitch 67 0 4 #[33, 40, 47, 54, 61], 33) := by decide +kernel
set_option maxRecDepth 20000 in
theorem dX10_ofThing_44 : decode cX10_ofThing 44 = .ok (.aload_n 0, 1) := by decide +kernel
set_option maxRecDepth 20000 in
theorem dX10_ofThing_45 : decode cX10_ofThing 45 = .ok (.getfield 7, 3) := by decide +kernel
set_option maxRecDepth 20000 in
theorem dX10_ofThing_48 : decode cX10_ofThing 48 = .ok (.iload_n 1, 1) := by decide +kernel
set_option maxRecDepth 20000 in
theorem dX10_ofThing_49 : decode cX10_ofThing 49 = .ok (.iaload, 1) := by decide +kernel
set_option maxRecDepth 20000 in
theorem dX10_ofThing_50 : decode cX10_ofThing 50 = .ok (.ireturn, 1) := by decide +kernel
set_option maxRecDepth 20000 in
theorem dX10_ofThing_51 : decode cX10_ofThing 51 = .ok (.aload_n 0, 1) := by decide +kernel
set_option maxRecDepth 20000 in
theorem dX10_ofThing_52 : decode cX10_ofThing 52 = .ok (.getfield 13, 3) := by decide +kernel
set_option maxRecDepth 20000 in
theorem dX10_ofThing_55 : decode cX10_ofThing 55 = .ok (.iload_n 1, 1) := by decide +kernel
set_option maxRecDepth 20000 in
theorem dX10_ofThing_56 : decode cX10_ofThing 56 = .ok (.iaload, 1) := by decide +kernel
set_option maxRecDepth 20000 in
theorem dX10_ofThing_57 : decode cX10_ofThing 57 = .ok (.ireturn, 1) := by decide +kernel
set_option maxRecDepth 20000 in
theorem dX10_ofThing_58 : decode cX10_ofThing 58 = .ok (.aload_n 0, 1) := by decide +kernel
set_option maxRecDepth 20000 in
theorem dX10_ofThing_59 : decode cX10_ofThing 59 = .ok (.getfield 16, 3) := by decide +kernel
set_option maxRecDepth 20000 in
theorem dX10_ofThing_62 : decode cX10_ofThing 62 = .ok (.iload_n 1, 1) := by decide +kernel
set_option maxRecDepth 20000 in
theorem dX10_ofThing_63 : decode cX10_ofThing 63 = .ok (.iaload, 1) := by decide +kernel
set_option maxRecDepth 20000 in
theorem dX10_ofThing_64 : decode cX10_ofThing 64 = .ok (.ireturn, 1) := by decide +kernel
set_option maxRecDepth 20000 in
theorem dX10_ofThing_65 : decode cX10_ofThing 65 = .ok (.aload_n 0, 1) := by decide +kernel
set_option maxRecDepth 20000 in
theorem dX10_ofThing_66 : decode cX10_ofThing 66 = .ok (.getfield 19, 3) := by decide +kernel
set_option maxRecDepth 20000 in
theorem dX10_ofThing_69 : decode cX10_ofThing 69 = .ok (.iload_n 1, 1) := by decide +kernel
set_option maxRecDepth 20000 in
theorem dX10_ofThing_70 : decode cX10_ofThing 70 = .ok (.iaload, 1) := by decide +kernel
set_option maxRecDepth 20000 in
theorem dX10_ofThing_71 : decode cX10_ofThing 71 = .ok (.ireturn, 1) := by decide +kernel
set_option maxRecDepth 20000 in
theorem dX10_ofThing_72 : decode cX10_ofThing 72 = .ok (.aload_n 0, 1) := by decide +kernel
set_option maxRecDepth 20000 in
theorem dX10_ofThing_73 : decode cX10_ofThing 73 = .ok (.iload_n 1, 1) := by decide +kernel
set_option maxRecDepth 20000 in
theorem dX10_ofThing_74 : decode cX10_ofThing 74 = .ok (.invokevirtual 143, 3) := by decide +kernel
set_option maxRecDepth 20000 in
theorem dX10_ofThing_77 : decode cX10_ofThing 77 = .ok (.ireturn, 1) := by decide +kernel
set_option maxRecDepth 20000 in
theorem dX10_ofThing_78 : decode cX10_ofThing 78 = .ok (.bipush (-2), 2) := by decide +kernel
set_option maxRecDepth 20000 in
theorem dX10_ofThing_80 : decode cX10_ofThing 80 = .ok (.ireturn, 1) := by decide +kernel
set_option maxRecDepth 20000 in
theorem dX10_law_0 : decode cX10_law 0 = .ok (.iload_n 1, 1) := by decide +kernel
set_option maxRecDepth 20000 in
theorem dX10_law_1 : decode cX10_law 1 = .ok (.i2l, 1) := by decide +kernel
set_option maxRecDepth 20000 in
theorem dX10_law_2 : decode cX10_law 2 = .ok (.lconst 0, 1) := by decide +kernel
set_option maxRecDepth 20000 in
theorem dX10_law_3 : decode cX10_law 3 = .ok (.ldc2_w 122, 3) := by decide +kernel
set_option maxRecDepth 20000 in
theorem dX10_law_6 : decode cX10_law 6 = .ok (.invokestatic 83, 3) := by decide +kernel
set_option maxRecDepth 20000 in
theorem dX10_law_9 : decode cX10_law 9 = .ok (.ifCond .ne 6, 3) := by decide +kernel
set_option maxRecDepth 20000 in
theorem dX10_law_12 : decode cX10_law 12 = .ok (.bipush (-2), 2) := by decide +kernel
set_option maxRecDepth 20000 in
theorem dX10_law_14 : decode cX10_law 14 = .ok (.ireturn, 1) := by decide +kernel
set_option maxRecDepth 20000 in
theorem dX10_law_15 : decode cX10_law 15 = .ok (.aload_n 0, 1) := by decide +kernel
set_option maxRecDepth 20000 in
theorem dX10_law_16 : decode cX10_law 16 = .ok (.getfield 80, 3) := by decide +kernel
set_option maxRecDepth 20000 in
theorem dX10_law_19 : decode cX10_law 19 = .ok (.ifCond .ne 6, 3) := by decide +kernel
set_option maxRecDepth 20000 in
theorem dX10_law_22 : decode cX10_law 22 = .ok (.bipush (-3), 2) := by decide +kernel
set_option maxRecDepth 20000 in
theorem dX10_law_24 : decode cX10_law 24 = .ok (.ireturn, 1) := by decide +kernel
set_option maxRecDepth 20000 in
theorem dX10_law_25 : decode cX10_law 25 = .ok (.aload_n 0, 1) := by decide +kernel
set_option maxRecDepth 20000 in
theorem dX10_law_26 : decode cX10_law 26 = .ok (.getfield 131, 3) := by decide +kernel
set_option maxRecDepth 20000 in
theorem dX10_law_29 : decode cX10_law 29 = .ok (.istore_n 2, 1) := by decide +kernel
set_option maxRecDepth 20000 in
theorem dX10_law_30 : decode cX10_law 30 = .ok (.aload_n 0, 1) := by decide +kernel
set_option maxRecDepth 20000 in
theorem dX10_law_31 : decode cX10_law 31 = .ok (.iload_n 1, 1) := by decide +kernel
set_option maxRecDepth 20000 in
theorem dX10_law_32 : decode cX10_law 32 = .ok (.putfield 131, 3) := by decide +kernel
set_option maxRecDepth 20000 in
theorem dX10_law_35 : decode cX10_law 35 = .ok (.iload_n 2, 1) := by decide +kernel
set_option maxRecDepth 20000 in
theorem dX10_law_36 : decode cX10_law 36 = .ok (.ireturn, 1) := by decide +kernel
set_option maxRecDepth 20000 in
theorem dX10_depute_0 : decode cX10_depute 0 = .ok (.aload_n 0, 1) := by decide +kernel
set_option maxRecDepth 20000 in
theorem dX10_depute_1 : decode cX10_depute 1 = .ok (.iload_n 1, 1) := by decide +kernel
set_option maxRecDepth 20000 in
theorem dX10_depute_2 : decode cX10_depute 2 = .ok (.invokevirtual 140, 3) := by decide +kernel
set_option maxRecDepth 20000 in
theorem dX10_depute_5 : decode cX10_depute 5 = .ok (.ifCond .ne 11, 3) := by decide +kernel
set_option maxRecDepth 20000 in
theorem dX10_depute_8 : decode cX10_depute 8 = .ok (.aload_n 0, 1) := by decide +kernel
set_option maxRecDepth 20000 in
theorem dX10_depute_9 : decode cX10_depute 9 = .ok (.iload_n 2, 1) := by decide +kernel
set_option maxRecDepth 20000 in
theorem dX10_depute_10 : decode cX10_depute 10 = .ok (.invokevirtual 140, 3) := by decide +kernel
set_option maxRecDepth 20000 in
theorem dX10_depute_13 : decode cX10_depute 13 = .ok (.ifCond .eq 5, 3) := by decide +kernel
set_option maxRecDepth 20000 in
theorem dX10_depute_16 : decode cX10_depute 16 = .ok (.iconst (-1), 1) := by decide +kernel
set_option maxRecDepth 20000 in
theorem dX10_depute_17 : decode cX10_depute 17 = .ok (.ireturn, 1) := by decide +kernel
set_option maxRecDepth 20000 in
theorem dX10_depute_18 : decode cX10_depute 18 = .ok (.iload_n 1, 1) := by decide +kernel
set_option maxRecDepth 20000 in
theorem dX10_depute_19 : decode cX10_depute 19 = .ok (.iload_n 2, 1) := by decide +kernel
set_option maxRecDepth 20000 in
theorem dX10_depute_20 : decode cX10_depute 20 = .ok (.if_icmp .ne 6, 3) := by decide +kernel
set_option maxRecDepth 20000 in
theorem dX10_depute_23 : decode cX10_depute 23 = .ok (.bipush (-2), 2) := by decide +kernel
set_option maxRecDepth 20000 in
theorem dX10_depute_25 : decode cX10_depute 25 = .ok (.ireturn, 1) := by decide +kernel
set_option maxRecDepth 20000 in
theorem dX10_depute_26 : decode cX10_depute 26 = .ok (.aload_n 0, 1) := by decide +kernel
set_option maxRecDepth 20000 in
theorem dX10_depute_27 : decode cX10_depute 27 = .ok (.getfield 13, 3) := by decide +kernel
set_option maxRecDepth 20000 in
theorem dX10_depute_30 : decode cX10_depute 30 = .ok (.iload_n 1, 1) := by decide +kernel
set_option maxRecDepth 20000 in
theorem dX10_depute_31 : decode cX10_depute 31 = .ok (.iaload, 1) := by decide +kernel
set_option maxRecDepth 20000 in
theorem dX10_depute_32 : decode cX10_depute 32 = .ok (.istore_n 3, 1) := by decide +kernel
set_option maxRecDepth 20000 in
theorem dX10_depute_33 : decode cX10_depute 33 = .ok (.aload_n 0, 1) := by decide +kernel
set_option maxRecDepth 20000 in
theorem dX10_depute_34 : decode cX10_depute 34 = .ok (.getfield 13, 3) := by decide +kernel
set_option maxRecDepth 20000 in
theorem dX10_depute_37 : decode cX10_depute 37 = .ok (.iload_n 1, 1) := by decide +kernel
set_option maxRecDepth 20000 in
theorem dX10_depute_38 : decode cX10_depute 38 = .ok (.iload_n 2, 1) := by decide +kernel
set_option maxRecDepth 20000 in
theorem dX10_depute_39 : decode cX10_depute 39 = .ok (.iastore, 1) := by decide +kernel
set_option maxRecDepth 20000 in
theorem dX10_depute_40 : decode cX10_depute 40 = .ok (.iload_n 3, 1) := by decide +kernel
set_option maxRecDepth 20000 in
theorem dX10_depute_41 : decode cX10_depute 41 = .ok (.ireturn, 1) := by decide +kernel
set_option maxRecDepth 20000 in
theorem dX10_smash_0 : decode cX10_smash 0 = .ok (.aload_n 0, 1) := by decide +kernel
set_option maxRecDepth 20000 in
theorem dX10_smash_1 : decode cX10_smash 1 = .ok (.iload_n 1, 1) := by decide +kernel
set_option maxRecDepth 20000 in
theorem dX10_smash_2 : decode cX10_smash 2 = .ok (.invokevirtual 140, 3) := by decide +kernel
set_option maxRecDepth 20000 in
theorem dX10_smash_5 : decode cX10_smash 5 = .ok (.ifCond .eq 5, 3) := by decide +kernel
set_option maxRecDepth 20000 in
theorem dX10_smash_8 : decode cX10_smash 8 = .ok (.iconst (-1), 1) := by decide +kernel
set_option maxRecDepth 20000 in
theorem dX10_smash_9 : decode cX10_smash 9 = .ok (.ireturn, 1) := by decide +kernel
set_option maxRecDepth 20000 in
theorem dX10_smash_10 : decode cX10_smash 10 = .ok (.iload_n 2, 1) := by decide +kernel
set_option maxRecDepth 20000 in
theorem dX10_smash_11 : decode cX10_smash 11 = .ok (.invokestatic 146, 3) := by decide +kernel
set_option maxRecDepth 20000 in
theorem dX10_smash_14 : decode cX10_smash 14 = .ok (.ifCond .eq 15, 3) := by decide +kernel
set_option maxRecDepth 20000 in
theorem dX10_smash_17 : decode cX10_smash 17 = .ok (.iload_n 3, 1) := by decide +kernel
set_option maxRecDepth 20000 in
theorem dX10_smash_18 : decode cX10_smash 18 = .ok (.invokestatic 146, 3) := by decide +kernel
set_option maxRecDepth 20000 in
theorem dX10_smash_21 : decode cX10_smash 21 = .ok (.ifCond .eq 8, 3) := by decide +kernel
set_option maxRecDepth 20000 in
theorem dX10_smash_24 : decode cX10_smash 24 = .ok (.iload_n 3, 1) := by decide +kernel
set_option maxRecDepth 20000 in
theorem dX10_smash_25 : decode cX10_smash 25 = .ok (.iload_n 2, 1) := by decide +kernel
set_option maxRecDepth 20000 in
theorem dX10_smash_26 : decode cX10_smash 26 = .ok (.if_icmp .ge 6, 3) := by decide +kernel
set_option maxRecDepth 20000 in
theorem dX10_smash_29 : decode cX10_smash 29 = .ok (.bipush (-2), 2) := by decide +kernel
set_option maxRecDepth 20000 in
theorem dX10_smash_31 : decode cX10_smash 31 = .ok (.ireturn, 1) := by decide +kernel
set_option maxRecDepth 20000 in
theorem dX10_smash_32 : decode cX10_smash 32 = .ok (.aload_n 0, 1) := by decide +kernel
set_option maxRecDepth 20000 in
theorem dX10_smash_33 : decode cX10_smash 33 = .ok (.getfield 134, 3) := by decide +kernel
set_option maxRecDepth 20000 in
theorem dX10_smash_36 : decode cX10_smash 36 = .ok (.bipush 8, 2) := by decide +kernel
set_option maxRecDepth 20000 in
theorem dX10_smash_38 : decode cX10_smash 38 = .ok (.if_icmp .ne 6, 3) := by decide +kernel
set_option maxRecDepth 20000 in
theorem dX10_smash_41 : decode cX10_smash 41 = .ok (.bipush (-4), 2) := by decide +kernel
set_option maxRecDepth 20000 in
theorem dX10_smash_43 : decode cX10_smash 43 = .ok (.ireturn, 1) := by decide +kernel
set_option maxRecDepth 20000 in
theorem dX10_smash_44 : decode cX10_smash 44 = .ok (.aload_n 0, 1) := by decide +kernel
set_option maxRecDepth 20000 in
theorem dX10_smash_45 : decode cX10_smash 45 = .ok (.getfield 34, 3) := by decide +kernel
set_option maxRecDepth 20000 in
theorem dX10_smash_48 : decode cX10_smash 48 = .ok (.aload_n 0, 1) := by decide +kernel
set_option maxRecDepth 20000 in
theorem dX10_smash_49 : decode cX10_smash 49 = .ok (.getfield 134, 3) := by decide +kernel
set_option maxRecDepth 20000 in
theorem dX10_smash_52 : decode cX10_smash 52 = .ok (.iload_n 1, 1) := by decide +kernel
set_option maxRecDepth 20000 in
theorem dX10_smash_53 : decode cX10_smash 53 = .ok (.iastore, 1) := by decide +kernel
set_option maxRecDepth 20000 in
theorem dX10_smash_54 : decode cX10_smash 54 = .ok (.aload_n 0, 1) := by decide +kernel
set_option maxRecDepth 20000 in
theorem dX10_smash_55 : decode cX10_smash 55 = .ok (.getfield 37, 3) := by decide +kernel
set_option maxRecDepth 20000 in
theorem dX10_smash_58 : decode cX10_smash 58 = .ok (.aload_n 0, 1) := by decide +kernel
set_option maxRecDepth 20000 in
theorem dX10_smash_59 : decode cX10_smash 59 = .ok (.getfield 134, 3) := by decide +kernel
set_option maxRecDepth 20000 in
theorem dX10_smash_62 : decode cX10_smash 62 = .ok (.iload_n 2, 1) := by decide +kernel
set_option maxRecDepth 20000 in
theorem dX10_smash_63 : decode cX10_smash 63 = .ok (.iastore, 1) := by decide +kernel
set_option maxRecDepth 20000 in
theorem dX10_smash_64 : decode cX10_smash 64 = .ok (.aload_n 0, 1) := by decide +kernel
set_option maxRecDepth 20000 in
theorem dX10_smash_65 : decode cX10_smash 65 = .ok (.getfield 40, 3) := by decide +kernel
set_option maxRecDepth 20000 in
theorem dX10_smash_68 : decode cX10_smash 68 = .ok (.aload_n 0, 1) := by decide +kernel
set_option maxRecDepth 20000 in
theorem dX10_smash_69 : decode cX10_smash 69 = .ok (.getfield 134, 3) := by decide +kernel
set_option maxRecDepth 20000 in
theorem dX10_smash_72 : decode cX10_smash 72 = .ok (.iload_n 3, 1) := by decide +kernel
set_option maxRecDepth 20000 in
theorem dX10_smash_73 : decode cX10_smash 73 = .ok (.iastore, 1) := by decide +kernel
set_option maxRecDepth 20000 in
theorem dX10_smash_74 : decode cX10_smash 74 = .ok (.aload_n 0, 1) := by decide +kernel
set_option maxRecDepth 20000 in
theorem dX10_smash_75 : decode cX10_smash 75 = .ok (.dup, 1) := by decide +kernel
set_option maxRecDepth 20000 in
theorem dX10_smash_76 : decode cX10_smash 76 = .ok (.getfield 134, 3) := by decide +kernel
set_option maxRecDepth 20000 in
theorem dX10_smash_79 : decode cX10_smash 79 = .ok (.iconst 1, 1) := by decide +kernel
set_option maxRecDepth 20000 in
theorem dX10_smash_80 : decode cX10_smash 80 = .ok (.iadd, 1) := by decide +kernel
set_option maxRecDepth 20000 in
theorem dX10_smash_81 : decode cX10_smash 81 = .ok (.putfield 134, 3) := by decide +kernel
set_option maxRecDepth 20000 in
theorem dX10_smash_84 : decode cX10_smash 84 = .ok (.aload_n 0, 1) := by decide +kernel
set_option maxRecDepth 20000 in
theorem dX10_smash_85 : decode cX10_smash 85 = .ok (.getfield 134, 3) := by decide +kernel
set_option maxRecDepth 20000 in
theorem dX10_smash_88 : decode cX10_smash 88 = .ok (.iconst 1, 1) := by decide +kernel
set_option maxRecDepth 20000 in
theorem dX10_smash_89 : decode cX10_smash 89 = .ok (.isub, 1) := by decide +kernel
set_option maxRecDepth 20000 in
theorem dX10_smash_90 : decode cX10_smash 90 = .ok (.ireturn, 1) := by decide +kernel
set_option maxRecDepth 20000 in
theorem dX10_glue_0 : decode cX10_glue 0 = .ok (.iload_n 1, 1) := by decide +kernel
set_option maxRecDepth 20000 in
theorem dX10_glue_1 : decode cX10_glue 1 = .ok (.i2l, 1) := by decide +kernel
set_option maxRecDepth 20000 in
theorem dX10_glue_2 : decode cX10_glue 2 = .ok (.lconst 0, 1) := by decide +kernel
set_option maxRecDepth 20000 in
theorem dX10_glue_3 : decode cX10_glue 3 = .ok (.aload_n 0, 1) := by decide +kernel
set_option maxRecDepth 20000 in
theorem dX10_glue_4 : decode cX10_glue 4 = .ok (.getfield 134, 3) := by decide +kernel
set_option maxRecDepth 20000 in
theorem dX10_glue_7 : decode cX10_glue 7 = .ok (.i2l, 1) := by decide +kernel
set_option maxRecDepth 20000 in
theorem dX10_glue_8 : decode cX10_glue 8 = .ok (.invokestatic 83, 3) := by decide +kernel
set_option maxRecDepth 20000 in
theorem dX10_glue_11 : decode cX10_glue 11 = .ok (.ifCond .ne 6, 3) := by decide +kernel
set_option maxRecDepth 20000 in
theorem dX10_glue_14 : decode cX10_glue 14 = .ok (.bipush (-2), 2) := by decide +kernel
set_option maxRecDepth 20000 in
theorem dX10_glue_16 : decode cX10_glue 16 = .ok (.ireturn, 1) := by decide +kernel
set_option maxRecDepth 20000 in
theorem dX10_glue_17 : decode cX10_glue 17 = .ok (.aload_n 0, 1) := by decide +kernel
set_option maxRecDepth 20000 in
theorem dX10_glue_18 : decode cX10_glue 18 = .ok (.dup, 1) := by decide +kernel
set_option maxRecDepth 20000 in
theorem dX10_glue_19 : decode cX10_glue 19 = .ok (.getfield 134, 3) := by decide +kernel
set_option maxRecDepth 20000 in
theorem dX10_glue_22 : decode cX10_glue 22 = .ok (.iload_n 1, 1) := by decide +kernel
set_option maxRecDepth 20000 in
theorem dX10_glue_23 : decode cX10_glue 23 = .ok (.isub, 1) := by decide +kernel
set_option maxRecDepth 20000 in
theorem dX10_glue_24 : decode cX10_glue 24 = .ok (.putfield 134, 3) := by decide +kernel
set_option maxRecDepth 20000 in
theorem dX10_glue_27 : decode cX10_glue 27 = .ok (.aload_n 0, 1) := by decide +kernel
set_option maxRecDepth 20000 in
theorem dX10_glue_28 : decode cX10_glue 28 = .ok (.getfield 134, 3) := by decide +kernel
set_option maxRecDepth 20000 in
theorem dX10_glue_31 : decode cX10_glue 31 = .ok (.ireturn, 1) := by decide +kernel
set_option maxRecDepth 20000 in
theorem dX10_brokenIn_0 : decode cX10_brokenIn 0 = .ok (.iconst 0, 1) := by decide +kernel
set_option maxRecDepth 20000 in
theorem dX10_brokenIn_1 : decode cX10_brokenIn 1 = .ok (.istore_n 2, 1) := by decide +kernel
set_option maxRecDepth 20000 in
theorem dX10_brokenIn_2 : decode cX10_brokenIn 2 = .ok (.iconst 0, 1) := by decide +kernel
set_option maxRecDepth 20000 in
theorem dX10_brokenIn_3 : decode cX10_brokenIn 3 = .ok (.istore_n 3, 1) := by decide +kernel
set_option maxRecDepth 20000 in
theorem dX10_brokenIn_4 : decode cX10_brokenIn 4 = .ok (.iload_n 3, 1) := by decide +kernel
set_option maxRecDepth 20000 in
theorem dX10_brokenIn_5 : decode cX10_brokenIn 5 = .ok (.aload_n 0, 1) := by decide +kernel
set_option maxRecDepth 20000 in
theorem dX10_brokenIn_6 : decode cX10_brokenIn 6 = .ok (.getfield 134, 3) := by decide +kernel
set_option maxRecDepth 20000 in
theorem dX10_brokenIn_9 : decode cX10_brokenIn 9 = .ok (.if_icmp .ge 46, 3) := by decide +kernel
set_option maxRecDepth 20000 in
theorem dX10_brokenIn_12 : decode cX10_brokenIn 12 = .ok (.iload_n 2, 1) := by decide +kernel
set_option maxRecDepth 20000 in
theorem dX10_brokenIn_13 : decode cX10_brokenIn 13 = .ok (.iload_n 1, 1) := by decide +kernel
set_option maxRecDepth 20000 in
theorem dX10_brokenIn_14 : decode cX10_brokenIn 14 = .ok (.i2l, 1) := by decide +kernel
set_option maxRecDepth 20000 in
theorem dX10_brokenIn_15 : decode cX10_brokenIn 15 = .ok (.aload_n 0, 1) := by decide +kernel
set_option maxRecDepth 20000 in
theorem dX10_brokenIn_16 : decode cX10_brokenIn 16 = .ok (.getfield 37, 3) := by decide +kernel
set_option maxRecDepth 20000 in
theorem dX10_brokenIn_19 : decode cX10_brokenIn 19 = .ok (.iload_n 3, 1) := by decide +kernel
set_option maxRecDepth 20000 in
theorem dX10_brokenIn_20 : decode cX10_brokenIn 20 = .ok (.iaload, 1) := by decide +kernel
set_option maxRecDepth 20000 in
theorem dX10_brokenIn_21 : decode cX10_brokenIn 21 = .ok (.i2l, 1) := by decide +kernel
set_option maxRecDepth 20000 in
theorem dX10_brokenIn_22 : decode cX10_brokenIn 22 = .ok (.aload_n 0, 1) := by decide +kernel
set_option maxRecDepth 20000 in
theorem dX10_brokenIn_23 : decode cX10_brokenIn 23 = .ok (.getfield 40, 3) := by decide +kernel
set_option maxRecDepth 20000 in
theorem dX10_brokenIn_26 : decode cX10_brokenIn 26 = .ok (.iload_n 3, 1) := by decide +kernel
set_option maxRecDepth 20000 in
theorem dX10_brokenIn_27 : decode cX10_brokenIn 27 = .ok (.iaload, 1) := by decide +kernel
set_option maxRecDepth 20000 in
theorem dX10_brokenIn_28 : decode cX10_brokenIn 28 = .ok (.i2l, 1) := by decide +kernel
set_option maxRecDepth 20000 in
theorem dX10_brokenIn_29 : decode cX10_brokenIn 29 = .ok (.invokestatic 83, 3) := by decide +kernel
set_option maxRecDepth 20000 in
theorem dX10_brokenIn_32 : decode cX10_brokenIn 32 = .ok (.ifCond .eq 14, 3) := by decide +kernel
set_option maxRecDepth 20000 in
theorem dX10_brokenIn_35 : decode cX10_brokenIn 35 = .ok (.iconst 1, 1) := by decide +kernel
set_option maxRecDepth 20000 in
theorem dX10_brokenIn_36 : decode cX10_brokenIn 36 = .ok (.aload_n 0, 1) := by decide +kernel
set_option maxRecDepth 20000 in
theorem dX10_brokenIn_37 : decode cX10_brokenIn 37 = .ok (.getfield 34, 3) := by decide +kernel
set_option maxRecDepth 20000 in
theorem dX10_brokenIn_40 : decode cX10_brokenIn 40 = .ok (.iload_n 3, 1) := by decide +kernel
set_option maxRecDepth 20000 in
theorem dX10_brokenIn_41 : decode cX10_brokenIn 41 = .ok (.iaload, 1) := by decide +kernel
set_option maxRecDepth 20000 in
theorem dX10_brokenIn_42 : decode cX10_brokenIn 42 = .ok (.ishl, 1) := by decide +kernel
set_option maxRecDepth 20000 in
theorem dX10_brokenIn_43 : decode cX10_brokenIn 43 = .ok (.goto 4, 3) := by decide +kernel
set_option maxRecDepth 20000 in
theorem dX10_brokenIn_46 : decode cX10_brokenIn 46 = .ok (.iconst 0, 1) := by decide +kernel
set_option maxRecDepth 20000 in
theorem dX10_brokenIn_47 : decode cX10_brokenIn 47 = .ok (.ior, 1) := by decide +kernel
set_option maxRecDepth 20000 in
theorem dX10_brokenIn_48 : decode cX10_brokenIn 48 = .ok (.istore_n 2, 1) := by decide +kernel
set_option maxRecDepth 20000 in
theorem dX10_brokenIn_49 : decode cX10_brokenIn 49 = .ok (.iinc 3 1, 3) := by decide +kernel
set_option maxRecDepth 20000 in
theorem dX10_brokenIn_52 : decode cX10_brokenIn 52 = .ok (.goto (-48), 3) := by decide +kernel
set_option maxRecDepth 20000 in
theorem dX10_brokenIn_55 : decode cX10_brokenIn 55 = .ok (.iload_n 2, 1) := by decide +kernel
set_option maxRecDepth 20000 in
theorem dX10_brokenIn_56 : decode cX10_brokenIn 56 = .ok (.ireturn, 1) := by decide +kernel
set_option maxRecDepth 20000 in
theorem dX10_beginHours_0 : decode cX10_beginHours 0 = .ok (.iconst 0, 1) := by decide +kernel
set_option maxRecDepth 20000 in
theorem dX10_beginHours_1 : decode cX10_beginHours 1 = .ok (.istore_n 1, 1) := by decide +kernel
set_option maxRecDepth 20000 in
theorem dX10_beginHours_2 : decode cX10_beginHours 2 = .ok (.iload_n 1, 1) := by decide +kernel
set_option maxRecDepth 20000 in
theorem dX10_beginHours_3 : decode cX10_beginHours 3 = .ok (.bipush 8, 2) := by decide +kernel
set_option maxRecDepth 20000 in
theorem dX10_beginHours_5 : decode cX10_beginHours 5 = .ok (.if_icmp .ge 24, 3) := by decide +kernel
set_option maxRecDepth 20000 in
theorem dX10_beginHours_8 : decode cX10_beginHours 8 = .ok (.aload_n 0, 1) := by decide +kernel
set_option maxRecDepth 20000 in
theorem dX10_beginHours_9 : decode cX10_beginHours 9 = .ok (.getfield 46, 3) := by decide +kernel
set_option maxRecDepth 20000 in
theorem dX10_beginHours_12 : decode cX10_beginHours 12 = .ok (.iload_n 1, 1) := by decide +kernel
set_option maxRecDepth 20000 in
theorem dX10_beginHours_13 : decode cX10_beginHours 13 = .ok (.bipush (-9), 2) := by decide +kernel
set_option maxRecDepth 20000 in
theorem dX10_beginHours_15 : decode cX10_beginHours 15 = .ok (.iastore, 1) := by decide +kernel
set_option maxRecDepth 20000 in
theorem dX10_beginHours_16 : decode cX10_beginHours 16 = .ok (.aload_n 0, 1) := by decide +kernel
set_option maxRecDepth 20000 in
theorem dX10_beginHours_17 : decode cX10_beginHours 17 = .ok (.getfield 49, 3) := by decide +kernel
set_option maxRecDepth 20000 in
theorem dX10_beginHours_20 : decode cX10_beginHours 20 = .ok (.iload_n 1, 1) := by decide +kernel
set_option maxRecDepth 20000 in
theorem dX10_beginHours_21 : decode cX10_beginHours 21 = .ok (.iconst 0, 1) := by decide +kernel
set_option maxRecDepth 20000 in
theorem dX10_beginHours_22 : decode cX10_beginHours 22 = .ok (.iastore, 1) := by decide +kernel
set_option maxRecDepth 20000 in
theorem dX10_beginHours_23 : decode cX10_beginHours 23 = .ok (.iinc 1 1, 3) := by decide +kernel
set_option maxRecDepth 20000 in
theorem dX10_beginHours_26 : decode cX10_beginHours 26 = .ok (.goto (-24), 3) := by decide +kernel
set_option maxRecDepth 20000 in
theorem dX10_beginHours_29 : decode cX10_beginHours 29 = .ok (.return_, 1) := by decide +kernel
set_option maxRecDepth 20000 in
theorem dX10_isTired_0 : decode cX10_isTired 0 = .ok (.aload_n 0, 1) := by decide +kernel
set_option maxRecDepth 20000 in
theorem dX10_isTired_1 : decode cX10_isTired 1 = .ok (.getfield 46, 3) := by decide +kernel
set_option maxRecDepth 20000 in
theorem dX10_isTired_4 : decode cX10_isTired 4 = .ok (.iload_n 2, 1) := by decide +kernel
set_option maxRecDepth 20000 in
theorem dX10_isTired_5 : decode cX10_isTired 5 = .ok (.iaload, 1) := by decide +kernel
set_option maxRecDepth 20000 in
theorem dX10_isTired_6 : decode cX10_isTired 6 = .ok (.iload_n 1, 1) := by decide +kernel
set_option maxRecDepth 20000 in
theorem dX10_isTired_7 : decode cX10_isTired 7 = .ok (.if_icmp .ne 22, 3) := by decide +kernel
set_option maxRecDepth 20000 in
theorem dX10_isTired_10 : decode cX10_isTired 10 = .ok (.aload_n 0, 1) := by decide +kernel
set_option maxRecDepth 20000 in
theorem dX10_isTired_11 : decode cX10_isTired 11 = .ok (.getfield 49, 3) := by decide +kernel
set_option maxRecDepth 20000 in
theorem dX10_isTired_14 : decode cX10_isTired 14 = .ok (.iload_n 2, 1) := by decide +kernel
set_option maxRecDepth 20000 in
theorem dX10_isTired_15 : decode cX10_isTired 15 = .ok (.iaload, 1) := by decide +kernel
set_option maxRecDepth 20000 in
theorem dX10_isTired_16 : decode cX10_isTired 16 = .ok (.aload_n 0, 1) := by decide +kernel
set_option maxRecDepth 20000 in
theorem dX10_isTired_17 : decode cX10_isTired 17 = .ok (.getfield 19, 3) := by decide +kernel
set_option maxRecDepth 20000 in
theorem dX10_isTired_20 : decode cX10_isTired 20 = .ok (.iload_n 1, 1) := by decide +kernel
set_option maxRecDepth 20000 in
theorem dX10_isTired_21 : decode cX10_isTired 21 = .ok (.iaload, 1) := by decide +kernel
set_option maxRecDepth 20000 in
theorem dX10_isTired_22 : decode cX10_isTired 22 = .ok (.if_icmp .lt 7, 3) := by decide +kernel
set_option maxRecDepth 20000 in
theorem dX10_isTired_25 : decode cX10_isTired 25 = .ok (.iconst 1, 1) := by decide +kernel
set_option maxRecDepth 20000 in
theorem dX10_isTired_26 : decode cX10_isTired 26 = .ok (.goto 4, 3) := by decide +kernel
set_option maxRecDepth 20000 in
theorem dX10_isTired_29 : decode cX10_isTired 29 = .ok (.iconst 0, 1) := by decide +kernel
set_option maxRecDepth 20000 in
theorem dX10_isTired_30 : decode cX10_isTired 30 = .ok (.ireturn, 1) := by decide +kernel
set_option maxRecDepth 20000 in
theorem dX10_standsAhead_0 : decode cX10_standsAhead 0 = .ok (.iconst 0, 1) := by decide +kernel
set_option maxRecDepth 20000 in
theorem dX10_standsAhead_1 : decode cX10_standsAhead 1 = .ok (.istore_n 3, 1) := by decide +kernel
set_option maxRecDepth 20000 in
theorem dX10_standsAhead_2 : decode cX10_standsAhead 2 = .ok (.iconst 0, 1) := by decide +kernel
set_option maxRecDepth 20000 in
theorem dX10_standsAhead_3 : decode cX10_standsAhead 3 = .ok (.istore 4, 2) := by decide +kernel
set_option maxRecDepth 20000 in
theorem dX10_standsAhead_5 : decode cX10_standsAhead 5 = .ok (.iload 4, 2) := by decide +kernel
set_option maxRecDepth 20000 in
theorem dX10_standsAhead_7 : decode cX10_standsAhead 7 = .ok (.iload_n 2, 1) := by decide +kernel
set_option maxRecDepth 20000 in
theorem dX10_standsAhead_8 : decode cX10_standsAhead 8 = .ok (.if_icmp .ge 36, 3) := by decide +kernel
set_option maxRecDepth 20000 in
theorem dX10_standsAhead_11 : decode cX10_standsAhead 11 = .ok (.iload_n 3, 1) := by decide +kernel
set_option maxRecDepth 20000 in
theorem dX10_standsAhead_12 : decode cX10_standsAhead 12 = .ok (.ifCond .ne 20, 3) := by decide +kernel
set_option maxRecDepth 20000 in
theorem dX10_standsAhead_15 : decode cX10_standsAhead 15 = .ok (.aload_n 0, 1) := by decide +kernel
set_option maxRecDepth 20000 in
theorem dX10_standsAhead_16 : decode cX10_standsAhead 16 = .ok (.getfield 43, 3) := by decide +kernel
set_option maxRecDepth 20000 in
theorem dX10_standsAhead_19 : decode cX10_standsAhead 19 = .ok (.iload 4, 2) := by decide +kernel
set_option maxRecDepth 20000 in
theorem dX10_standsAhead_21 : decode cX10_standsAhead 21 = .ok (.iaload, 1) := by decide +kernel
set_option maxRecDepth 20000 in
theorem dX10_standsAhead_22 : decode cX10_standsAhead 22 = .ok (.iload_n 1, 1) := by decide +kernel
set_option maxRecDepth 20000 in
theorem dX10_standsAhead_23 : decode cX10_standsAhead 23 = .ok (.if_icmp .ne 13, 3) := by decide +kernel
set_option maxRecDepth 20000 in
theorem dX10_standsAhead_26 : decode cX10_standsAhead 26 = .ok (.iload 4, 2) := by decide +kernel
set_option maxRecDepth 20000 in
theorem dX10_standsAhead_28 : decode cX10_standsAhead 28 = .ok (.iload_n 1, 1) := by decide +kernel
set_option maxRecDepth 20000 in
theorem dX10_standsAhead_29 : decode cX10_standsAhead 29 = .ok (.if_icmp .eq 7, 3) := by decide +kernel
set_option maxRecDepth 20000 in
theorem dX10_standsAhead_32 : decode cX10_standsAhead 32 = .ok (.iconst 1, 1) := by decide +kernel
set_option maxRecDepth 20000 in
theorem dX10_standsAhead_33 : decode cX10_standsAhead 33 = .ok (.goto 4, 3) := by decide +kernel
set_option maxRecDepth 20000 in
theorem dX10_standsAhead_36 : decode cX10_standsAhead 36 = .ok (.iconst 0, 1) := by decide +kernel
set_option maxRecDepth 20000 in
theorem dX10_standsAhead_37 : decode cX10_standsAhead 37 = .ok (.istore_n 3, 1) := by decide +kernel
set_option maxRecDepth 20000 in
theorem dX10_standsAhead_38 : decode cX10_standsAhead 38 = .ok (.iinc 4 1, 3) := by decide +kernel
set_option maxRecDepth 20000 in
theorem dX10_standsAhead_41 : decode cX10_standsAhead 41 = .ok (.goto (-36), 3) := by decide +kernel
set_option maxRecDepth 20000 in
theorem dX10_standsAhead_44 : decode cX10_standsAhead 44 = .ok (.iload_n 3, 1) := by decide +kernel
set_option maxRecDepth 20000 in
theorem dX10_standsAhead_45 : decode cX10_standsAhead 45 = .ok (.ireturn, 1) := by decide +kernel
set_option maxRecDepth 20000 in
theorem dX10_standsFor_0 : decode cX10_standsFor 0 = .ok (.iconst 1, 1) := by decide +kernel
set_option maxRecDepth 20000 in
theorem dX10_standsFor_1 : decode cX10_standsFor 1 = .ok (.iload_n 1, 1) := by decide +kernel
set_option maxRecDepth 20000 in
theorem dX10_standsFor_2 : decode cX10_standsFor 2 = .ok (.ishl, 1) := by decide +kernel
set_option maxRecDepth 20000 in
theorem dX10_standsFor_3 : decode cX10_standsFor 3 = .ok (.istore_n 3, 1) := by decide +kernel
set_option maxRecDepth 20000 in
theorem dX10_standsFor_4 : decode cX10_standsFor 4 = .ok (.bipush (-9), 2) := by decide +kernel
set_option maxRecDepth 20000 in
theorem dX10_standsFor_6 : decode cX10_standsFor 6 = .ok (.istore 4, 2) := by decide +kernel
set_option maxRecDepth 20000 in
theorem dX10_standsFor_8 : decode cX10_standsFor 8 = .ok (.aload_n 0, 1) := by decide +kernel
set_option maxRecDepth 20000 in
theorem dX10_standsFor_9 : decode cX10_standsFor 9 = .ok (.getfield 13, 3) := by decide +kernel
set_option maxRecDepth 20000 in
theorem dX10_standsFor_12 : decode cX10_standsFor 12 = .ok (.iload_n 1, 1) := by decide +kernel
set_option maxRecDepth 20000 in
theorem dX10_standsFor_13 : decode cX10_standsFor 13 = .ok (.iaload, 1) := by decide +kernel
set_option maxRecDepth 20000 in
theorem dX10_standsFor_14 : decode cX10_standsFor 14 = .ok (.istore 5, 2) := by decide +kernel
set_option maxRecDepth 20000 in
theorem dX10_standsFor_16 : decode cX10_standsFor 16 = .ok (.iload_n 3, 1) := by decide +kernel
set_option maxRecDepth 20000 in
theorem dX10_standsFor_17 : decode cX10_standsFor 17 = .ok (.iload 5, 2) := by decide +kernel
set_option maxRecDepth 20000 in
theorem dX10_standsFor_19 : decode cX10_standsFor 19 = .ok (.invokestatic 149, 3) := by decide +kernel
set_option maxRecDepth 20000 in
theorem dX10_standsFor_22 : decode cX10_standsFor 22 = .ok (.ifCond .ne 120, 3) := by decide +kernel
set_option maxRecDepth 20000 in
theorem dX10_standsFor_25 : decode cX10_standsFor 25 = .ok (.iload_n 3, 1) := by decide +kernel
set_option maxRecDepth 20000 in
theorem dX10_standsFor_26 : decode cX10_standsFor 26 = .ok (.iconst 1, 1) := by decide +kernel
set_option maxRecDepth 20000 in
theorem dX10_standsFor_27 : decode cX10_standsFor 27 = .ok (.iload 5, 2) := by decide +kernel
set_option maxRecDepth 20000 in
theorem dX10_standsFor_29 : decode cX10_standsFor 29 = .ok (.ishl, 1) := by decide +kernel
set_option maxRecDepth 20000 in
theorem dX10_standsFor_30 : decode cX10_standsFor 30 = .ok (.ior, 1) := by decide +kernel
set_option maxRecDepth 20000 in
theorem dX10_standsFor_31 : decode cX10_standsFor 31 = .ok (.istore_n 3, 1) := by decide +kernel
set_option maxRecDepth 20000 in
theorem dX10_standsFor_32 : decode cX10_standsFor 32 = .ok (.iload_n 2, 1) := by decide +kernel
set_option maxRecDepth 20000 in
theorem dX10_standsFor_33 : decode cX10_standsFor 33 = .ok (.iload 5, 2) := by decide +kernel
set_option maxRecDepth 20000 in
theorem dX10_standsFor_35 : decode cX10_standsFor 35 = .ok (.invokestatic 149, 3) := by decide +kernel
set_option maxRecDepth 20000 in
theorem dX10_standsFor_38 : decode cX10_standsFor 38 = .ok (.ifCond .ne 35, 3) := by decide +kernel
set_option maxRecDepth 20000 in
theorem dX10_standsFor_41 : decode cX10_standsFor 41 = .ok (.aload_n 0, 1) := by decide +kernel
set_option maxRecDepth 20000 in
theorem dX10_standsFor_42 : decode cX10_standsFor 42 = .ok (.iload 5, 2) := by decide +kernel
set_option maxRecDepth 20000 in
theorem dX10_standsFor_44 : decode cX10_standsFor 44 = .ok (.iload_n 1, 1) := by decide +kernel
set_option maxRecDepth 20000 in
theorem dX10_standsFor_45 : decode cX10_standsFor 45 = .ok (.invokevirtual 152, 3) := by decide +kernel
set_option maxRecDepth 20000 in
theorem dX10_standsFor_48 : decode cX10_standsFor 48 = .ok (.ifCond .ne 25, 3) := by decide +kernel
set_option maxRecDepth 20000 in
theorem dX10_standsFor_51 : decode cX10_standsFor 51 = .ok (.aload_n 0, 1) := by decide +kernel
set_option maxRecDepth 20000 in
theorem dX10_standsFor_52 : decode cX10_standsFor 52 = .ok (.getfield 131, 3) := by decide +kernel
set_option maxRecDepth 20000 in
theorem dX10_standsFor_55 : decode cX10_standsFor 55 = .ok (.iconst 1, 1) := by decide +kernel
set_option maxRecDepth 20000 in
theorem dX10_standsFor_56 : decode cX10_standsFor 56 = .ok (.if_icmp .ne 13, 3) := by decide +kernel
set_option maxRecDepth 20000 in
theorem dX10_standsFor_59 : decode cX10_standsFor 59 = .ok (.aload_n 0, 1) := by decide +kernel
set_option maxRecDepth 20000 in
theorem dX10_standsFor_60 : decode cX10_standsFor 60 = .ok (.iload 5, 2) := by decide +kernel
set_option maxRecDepth 20000 in
theorem dX10_standsFor_62 : decode cX10_standsFor 62 = .ok (.iload_n 1, 1) := by decide +kernel
set_option maxRecDepth 20000 in
theorem dX10_standsFor_63 : decode cX10_standsFor 63 = .ok (.invokevirtual 155, 3) := by decide +kernel
set_option maxRecDepth 20000 in
theorem dX10_standsFor_66 : decode cX10_standsFor 66 = .ok (.ifCond .ne 7, 3) := by decide +kernel
set_option maxRecDepth 20000 in
theorem dX10_standsFor_69 : decode cX10_standsFor 69 = .ok (.iconst 1, 1) := by decide +kernel
set_option maxRecDepth 20000 in
theorem dX10_standsFor_70 : decode cX10_standsFor 70 = .ok (.goto 4, 3) := by decide +kernel
set_option maxRecDepth 20000 in
theorem dX10_standsFor_73 : decode cX10_standsFor 73 = .ok (.iconst 0, 1) := by decide +kernel
set_option maxRecDepth 20000 in
theorem dX10_standsFor_74 : decode cX10_standsFor 74 = .ok (.istore 6, 2) := by decide +kernel
set_option maxRecDepth 20000 in
theorem dX10_standsFor_76 : decode cX10_standsFor 76 = .ok (.iload 4, 2) := by decide +kernel
set_option maxRecDepth 20000 in
theorem dX10_standsFor_78 : decode cX10_standsFor 78 = .ok (.ifCond .lt 26, 3) := by decide +kernel
set_option maxRecDepth 20000 in
theorem dX10_standsFor_81 : decode cX10_standsFor 81 = .ok (.aload_n 0, 1) := by decide +kernel
set_option maxRecDepth 20000 in
theorem dX10_standsFor_82 : decode cX10_standsFor 82 = .ok (.getfield 131, 3) := by decide +kernel
set_option maxRecDepth 20000 in
theorem dX10_standsFor_85 : decode cX10_standsFor 85 = .ok (.iconst 2, 1) := by decide +kernel
set_option maxRecDepth 20000 in
theorem dX10_standsFor_86 : decode cX10_standsFor 86 = .ok (.if_icmp .ne 22, 3) := by decide +kernel
set_option maxRecDepth 20000 in
theorem dX10_standsFor_89 : decode cX10_standsFor 89 = .ok (.aload_n 0, 1) := by decide +kernel
set_option maxRecDepth 20000 in
theorem dX10_standsFor_90 : decode cX10_standsFor 90 = .ok (.iload 5, 2) := by decide +kernel
set_option maxRecDepth 20000 in
theorem dX10_standsFor_92 : decode cX10_standsFor 92 = .ok (.invokevirtual 143, 3) := by decide +kernel
set_option maxRecDepth 20000 in
theorem dX10_standsFor_95 : decode cX10_standsFor 95 = .ok (.aload_n 0, 1) := by decide +kernel
set_option maxRecDepth 20000 in
theorem dX10_standsFor_96 : decode cX10_standsFor 96 = .ok (.iload 4, 2) := by decide +kernel
set_option maxRecDepth 20000 in
theorem dX10_standsFor_98 : decode cX10_standsFor 98 = .ok (.invokevirtual 143, 3) := by decide +kernel
set_option maxRecDepth 20000 in
theorem dX10_standsFor_101 : decode cX10_standsFor 101 = .ok (.if_icmp .le 7, 3) := by decide +kernel
set_option maxRecDepth 20000 in
theorem dX10_standsFor_104 : decode cX10_standsFor 104 = .ok (.iconst 1, 1) := by decide +kernel
set_option maxRecDepth 20000 in
theorem dX10_standsFor_105 : decode cX10_standsFor 105 = .ok (.goto 4, 3) := by decide +kernel
set_option maxRecDepth 20000 in
theorem dX10_standsFor_108 : decode cX10_standsFor 108 = .ok (.iconst 0, 1) := by decide +kernel
set_option maxRecDepth 20000 in
theorem dX10_standsFor_109 : decode cX10_standsFor 109 = .ok (.istore 7, 2) := by decide +kernel
set_option maxRecDepth 20000 in
theorem dX10_standsFor_111 : decode cX10_standsFor 111 = .ok (.iload 6, 2) := by decide +kernel
set_option maxRecDepth 20000 in
theorem dX10_standsFor_113 : decode cX10_standsFor 113 = .ok (.ifCond .eq 13, 3) := by decide +kernel
set_option maxRecDepth 20000 in
theorem dX10_standsFor_116 : decode cX10_standsFor 116 = .ok (.iload 7, 2) := by decide +kernel
set_option maxRecDepth 20000 in
theorem dX10_standsFor_118 : decode cX10_standsFor 118 = .ok (.ifCond .eq 8, 3) := by decide +kernel
set_option maxRecDepth 20000 in
theorem dX10_standsFor_121 : decode cX10_standsFor 121 = .ok (.iload 5, 2) := by decide +kernel
set_option maxRecDepth 20000 in
theorem dX10_standsFor_123 : decode cX10_standsFor 123 = .ok (.goto 5, 3) := by decide +kernel
set_option maxRecDepth 20000 in
theorem dX10_standsFor_126 : decode cX10_standsFor 126 = .ok (.iload 4, 2) := by decide +kernel
set_option maxRecDepth 20000 in
theorem dX10_standsFor_128 : decode cX10_standsFor 128 = .ok (.istore 4, 2) := by decide +kernel
set_option maxRecDepth 20000 in
theorem dX10_standsFor_130 : decode cX10_standsFor 130 = .ok (.aload_n 0, 1) := by decide +kernel
set_option maxRecDepth 20000 in
theorem dX10_standsFor_131 : decode cX10_standsFor 131 = .ok (.getfield 13, 3) := by decide +kernel
set_option maxRecDepth 20000 in
theorem dX10_standsFor_134 : decode cX10_standsFor 134 = .ok (.iload 5, 2) := by decide +kernel
set_option maxRecDepth 20000 in
theorem dX10_standsFor_136 : decode cX10_standsFor 136 = .ok (.iaload, 1) := by decide +kernel
set_option maxRecDepth 20000 in
theorem dX10_standsFor_137 : decode cX10_standsFor 137 = .ok (.istore 5, 2) := by decide +kernel
set_option maxRecDepth 20000 in
theorem dX10_standsFor_139 : decode cX10_standsFor 139 = .ok (.goto (-123), 3) := by decide +kernel
set_option maxRecDepth 20000 in
theorem dX10_standsFor_142 : decode cX10_standsFor 142 = .ok (.iload 4, 2) := by decide +kernel
set_option maxRecDepth 20000 in
theorem dX10_standsFor_144 : decode cX10_standsFor 144 = .ok (.ireturn, 1) := by decide +kernel
set_option maxRecDepth 20000 in
theorem dX10_goHour_0 : decode cX10_goHour 0 = .ok (.iconst 0, 1) := by decide +kernel
set_option maxRecDepth 20000 in
theorem dX10_goHour_1 : decode cX10_goHour 1 = .ok (.istore_n 2, 1) := by decide +kernel
set_option maxRecDepth 20000 in
theorem dX10_goHour_2 : decode cX10_goHour 2 = .ok (.iload_n 2, 1) := by decide +kernel
set_option maxRecDepth 20000 in
theorem dX10_goHour_3 : decode cX10_goHour 3 = .ok (.aload_n 0, 1) := by decide +kernel
set_option maxRecDepth 20000 in
theorem dX10_goHour_4 : decode cX10_goHour 4 = .ok (.getfield 80, 3) := by decide +kernel
set_option maxRecDepth 20000 in
theorem dX10_goHour_7 : decode cX10_goHour 7 = .ok (.if_icmp .ge 33, 3) := by decide +kernel
set_option maxRecDepth 20000 in
theorem dX10_goHour_10 : decode cX10_goHour 10 = .ok (.aload_n 0, 1) := by decide +kernel
set_option maxRecDepth 20000 in
theorem dX10_goHour_11 : decode cX10_goHour 11 = .ok (.getfield 43, 3) := by decide +kernel
set_option maxRecDepth 20000 in
theorem dX10_goHour_14 : decode cX10_goHour 14 = .ok (.iload_n 2, 1) := by decide +kernel
set_option maxRecDepth 20000 in
theorem dX10_goHour_15 : decode cX10_goHour 15 = .ok (.iload_n 1, 1) := by decide +kernel
set_option maxRecDepth 20000 in
theorem dX10_goHour_16 : decode cX10_goHour 16 = .ok (.iload_n 2, 1) := by decide +kernel
set_option maxRecDepth 20000 in
theorem dX10_goHour_17 : decode cX10_goHour 17 = .ok (.invokestatic 149, 3) := by decide +kernel
set_option maxRecDepth 20000 in
theorem dX10_goHour_20 : decode cX10_goHour 20 = .ok (.ifCond .eq 12, 3) := by decide +kernel
set_option maxRecDepth 20000 in
theorem dX10_goHour_23 : decode cX10_goHour 23 = .ok (.aload_n 0, 1) := by decide +kernel
set_option maxRecDepth 20000 in
theorem dX10_goHour_24 : decode cX10_goHour 24 = .ok (.iload_n 2, 1) := by decide +kernel
set_option maxRecDepth 20000 in
theorem dX10_goHour_25 : decode cX10_goHour 25 = .ok (.iload_n 1, 1) := by decide +kernel
set_option maxRecDepth 20000 in
theorem dX10_goHour_26 : decode cX10_goHour 26 = .ok (.invokevirtual 158, 3) := by decide +kernel
set_option maxRecDepth 20000 in
theorem dX10_goHour_29 : decode cX10_goHour 29 = .ok (.goto 4, 3) := by decide +kernel
set_option maxRecDepth 20000 in
theorem dX10_goHour_32 : decode cX10_goHour 32 = .ok (.iload_n 2, 1) := by decide +kernel
set_option maxRecDepth 20000 in
theorem dX10_goHour_33 : decode cX10_goHour 33 = .ok (.iastore, 1) := by decide +kernel
set_option maxRecDepth 20000 in
theorem dX10_goHour_34 : decode cX10_goHour 34 = .ok (.iinc 2 1, 3) := by decide +kernel
set_option maxRecDepth 20000 in
theorem dX10_goHour_37 : decode cX10_goHour 37 = .ok (.goto (-35), 3) := by decide +kernel
set_option maxRecDepth 20000 in
theorem dX10_goHour_40 : decode cX10_goHour 40 = .ok (.iconst 0, 1) := by decide +kernel
set_option maxRecDepth 20000 in
theorem dX10_goHour_41 : decode cX10_goHour 41 = .ok (.istore_n 2, 1) := by decide +kernel
set_option maxRecDepth 20000 in
theorem dX10_goHour_42 : decode cX10_goHour 42 = .ok (.iload_n 2, 1) := by decide +kernel
set_option maxRecDepth 20000 in
theorem dX10_goHour_43 : decode cX10_goHour 43 = .ok (.aload_n 0, 1) := by decide +kernel
set_option maxRecDepth 20000 in
theorem dX10_goHour_44 : decode cX10_goHour 44 = .ok (.getfield 80, 3) := by decide +kernel
set_option maxRecDepth 20000 in
theorem dX10_goHour_47 : decode cX10_goHour 47 = .ok (.if_icmp .ge 78, 3) := by decide +kernel
set_option maxRecDepth 20000 in
theorem dX10_goHour_50 : decode cX10_goHour 50 = .ok (.aload_n 0, 1) := by decide +kernel
set_option maxRecDepth 20000 in
theorem dX10_goHour_51 : decode cX10_goHour 51 = .ok (.getfield 43, 3) := by decide +kernel
set_option maxRecDepth 20000 in
theorem dX10_goHour_54 : decode cX10_goHour 54 = .ok (.iload_n 2, 1) := by decide +kernel
set_option maxRecDepth 20000 in
theorem dX10_goHour_55 : decode cX10_goHour 55 = .ok (.iaload, 1) := by decide +kernel
set_option maxRecDepth 20000 in
theorem dX10_goHour_56 : decode cX10_goHour 56 = .ok (.iload_n 2, 1) := by decide +kernel
set_option maxRecDepth 20000 in
theorem dX10_goHour_57 : decode cX10_goHour 57 = .ok (.if_icmp .ne 8, 3) := by decide +kernel
set_option maxRecDepth 20000 in
theorem dX10_goHour_60 : decode cX10_goHour 60 = .ok (.bipush (-9), 2) := by decide +kernel
set_option maxRecDepth 20000 in
theorem dX10_goHour_62 : decode cX10_goHour 62 = .ok (.goto 9, 3) := by decide +kernel
set_option maxRecDepth 20000 in
theorem dX10_goHour_65 : decode cX10_goHour 65 = .ok (.aload_n 0, 1) := by decide +kernel
set_option maxRecDepth 20000 in
theorem dX10_goHour_66 : decode cX10_goHour 66 = .ok (.getfield 43, 3) := by decide +kernel
set_option maxRecDepth 20000 in
theorem dX10_goHour_69 : decode cX10_goHour 69 = .ok (.iload_n 2, 1) := by decide +kernel
set_option maxRecDepth 20000 in
theorem dX10_goHour_70 : decode cX10_goHour 70 = .ok (.iaload, 1) := by decide +kernel
set_option maxRecDepth 20000 in
theorem dX10_goHour_71 : decode cX10_goHour 71 = .ok (.istore_n 3, 1) := by decide +kernel
set_option maxRecDepth 20000 in
theorem dX10_goHour_72 : decode cX10_goHour 72 = .ok (.aload_n 0, 1) := by decide +kernel
set_option maxRecDepth 20000 in
theorem dX10_goHour_73 : decode cX10_goHour 73 = .ok (.getfield 49, 3) := by decide +kernel
set_option maxRecDepth 20000 in
theorem dX10_goHour_76 : decode cX10_goHour 76 = .ok (.iload_n 2, 1) := by decide +kernel
set_option maxRecDepth 20000 in
theorem dX10_goHour_77 : decode cX10_goHour 77 = .ok (.iload_n 3, 1) := by decide +kernel
set_option maxRecDepth 20000 in
theorem dX10_goHour_78 : decode cX10_goHour 78 = .ok (.ifCond .lt 24, 3) := by decide +kernel
set_option maxRecDepth 20000 in
theorem dX10_goHour_81 : decode cX10_goHour 81 = .ok (.iload_n 3, 1) := by decide +kernel
set_option maxRecDepth 20000 in
theorem dX10_goHour_82 : decode cX10_goHour 82 = .ok (.aload_n 0, 1) := by decide +kernel
set_option maxRecDepth 20000 in
theorem dX10_goHour_83 : decode cX10_goHour 83 = .ok (.getfield 46, 3) := by decide +kernel
set_option maxRecDepth 20000 in
theorem dX10_goHour_86 : decode cX10_goHour 86 = .ok (.iload_n 2, 1) := by decide +kernel
set_option maxRecDepth 20000 in
theorem dX10_goHour_87 : decode cX10_goHour 87 = .ok (.iaload, 1) := by decide +kernel
set_option maxRecDepth 20000 in
theorem dX10_goHour_88 : decode cX10_goHour 88 = .ok (.if_icmp .ne 14, 3) := by decide +kernel
set_option maxRecDepth 20000 in
theorem dX10_goHour_91 : decode cX10_goHour 91 = .ok (.aload_n 0, 1) := by decide +kernel
set_option maxRecDepth 20000 in
theorem dX10_goHour_92 : decode cX10_goHour 92 = .ok (.getfield 49, 3) := by decide +kernel
set_option maxRecDepth 20000 in
theorem dX10_goHour_95 : decode cX10_goHour 95 = .ok (.iload_n 2, 1) := by decide +kernel
set_option maxRecDepth 20000 in
theorem dX10_goHour_96 : decode cX10_goHour 96 = .ok (.iaload, 1) := by decide +kernel
set_option maxRecDepth 20000 in
theorem dX10_goHour_97 : decode cX10_goHour 97 = .ok (.iconst 1, 1) := by decide +kernel
set_option maxRecDepth 20000 in
theorem dX10_goHour_98 : decode cX10_goHour 98 = .ok (.iadd, 1) := by decide +kernel
set_option maxRecDepth 20000 in
theorem dX10_goHour_99 : decode cX10_goHour 99 = .ok (.goto 12, 3) := by decide +kernel
set_option maxRecDepth 20000 in
theorem dX10_goHour_102 : decode cX10_goHour 102 = .ok (.iload_n 3, 1) := by decide +kernel
set_option maxRecDepth 20000 in
theorem dX10_goHour_103 : decode cX10_goHour 103 = .ok (.ifCond .lt 7, 3) := by decide +kernel
set_option maxRecDepth 20000 in
theorem dX10_goHour_106 : decode cX10_goHour 106 = .ok (.iconst 1, 1) := by decide +kernel
set_option maxRecDepth 20000 in
theorem dX10_goHour_107 : decode cX10_goHour 107 = .ok (.goto 4, 3) := by decide +kernel
set_option maxRecDepth 20000 in
theorem dX10_goHour_110 : decode cX10_goHour 110 = .ok (.iconst 0, 1) := by decide +kernel
set_option maxRecDepth 20000 in
theorem dX10_goHour_111 : decode cX10_goHour 111 = .ok (.iastore, 1) := by decide +kernel
set_option maxRecDepth 20000 in
theorem dX10_goHour_112 : decode cX10_goHour 112 = .ok (.aload_n 0, 1) := by decide +kernel
set_option maxRecDepth 20000 in
theorem dX10_goHour_113 : decode cX10_goHour 113 = .ok (.getfield 46, 3) := by decide +kernel
set_option maxRecDepth 20000 in
theorem dX10_goHour_116 : decode cX10_goHour 116 = .ok (.iload_n 2, 1) := by decide +kernel
set_option maxRecDepth 20000 in
theorem dX10_goHour_117 : decode cX10_goHour 117 = .ok (.iload_n 3, 1) := by decide +kernel
set_option maxRecDepth 20000 in
theorem dX10_goHour_118 : decode cX10_goHour 118 = .ok (.iastore, 1) := by decide +kernel
set_option maxRecDepth 20000 in
theorem dX10_goHour_119 : decode cX10_goHour 119 = .ok (.iinc 2 1, 3) := by decide +kernel
set_option maxRecDepth 20000 in
theorem dX10_goHour_122 : decode cX10_goHour 122 = .ok (.goto (-80), 3) := by decide +kernel
set_option maxRecDepth 20000 in
theorem dX10_goHour_125 : decode cX10_goHour 125 = .ok (.return_, 1) := by decide +kernel
set_option maxRecDepth 20000 in
theorem dX10_goTo_0 : decode cX10_goTo 0 = .ok (.aload_n 0, 1) := by decide +kernel
set_option maxRecDepth 20000 in
theorem dX10_goTo_1 : decode cX10_goTo 1 = .ok (.invokevirtual 161, 3) := by decide +kernel
set_option maxRecDepth 20000 in
theorem dX10_goTo_4 : decode cX10_goTo 4 = .ok (.iconst 0, 1) := by decide +kernel
set_option maxRecDepth 20000 in
theorem dX10_goTo_5 : decode cX10_goTo 5 = .ok (.istore_n 2, 1) := by decide +kernel
set_option maxRecDepth 20000 in
theorem dX10_goTo_6 : decode cX10_goTo 6 = .ok (.iload_n 2, 1) := by decide +kernel
set_option maxRecDepth 20000 in
theorem dX10_goTo_7 : decode cX10_goTo 7 = .ok (.iload_n 1, 1) := by decide +kernel
set_option maxRecDepth 20000 in
theorem dX10_goTo_8 : decode cX10_goTo 8 = .ok (.if_icmp .gt 18, 3) := by decide +kernel
set_option maxRecDepth 20000 in
theorem dX10_goTo_11 : decode cX10_goTo 11 = .ok (.aload_n 0, 1) := by decide +kernel
set_option maxRecDepth 20000 in
theorem dX10_goTo_12 : decode cX10_goTo 12 = .ok (.aload_n 0, 1) := by decide +kernel
set_option maxRecDepth 20000 in
theorem dX10_goTo_13 : decode cX10_goTo 13 = .ok (.iload_n 2, 1) := by decide +kernel
set_option maxRecDepth 20000 in
theorem dX10_goTo_14 : decode cX10_goTo 14 = .ok (.invokevirtual 164, 3) := by decide +kernel
set_option maxRecDepth 20000 in
theorem dX10_goTo_17 : decode cX10_goTo 17 = .ok (.invokevirtual 167, 3) := by decide +kernel
set_option maxRecDepth 20000 in
theorem dX10_goTo_20 : decode cX10_goTo 20 = .ok (.iinc 2 1, 3) := by decide +kernel
set_option maxRecDepth 20000 in
theorem dX10_goTo_23 : decode cX10_goTo 23 = .ok (.goto (-17), 3) := by decide +kernel
set_option maxRecDepth 20000 in
theorem dX10_goTo_26 : decode cX10_goTo 26 = .ok (.return_, 1) := by decide +kernel
set_option maxRecDepth 20000 in
theorem dX10_goFirst_0 : decode cX10_goFirst 0 = .ok (.aload_n 0, 1) := by decide +kernel
set_option maxRecDepth 20000 in
theorem dX10_goFirst_1 : decode cX10_goFirst 1 = .ok (.invokevirtual 161, 3) := by decide +kernel
set_option maxRecDepth 20000 in
theorem dX10_goFirst_4 : decode cX10_goFirst 4 = .ok (.aload_n 0, 1) := by decide +kernel
set_option maxRecDepth 20000 in
theorem dX10_goFirst_5 : decode cX10_goFirst 5 = .ok (.iload_n 1, 1) := by decide +kernel
set_option maxRecDepth 20000 in
theorem dX10_goFirst_6 : decode cX10_goFirst 6 = .ok (.invokevirtual 167, 3) := by decide +kernel
set_option maxRecDepth 20000 in
theorem dX10_goFirst_9 : decode cX10_goFirst 9 = .ok (.return_, 1) := by decide +kernel
set_option maxRecDepth 20000 in
theorem dX10_undoneNow_0 : decode cX10_undoneNow 0 = .ok (.iconst 0, 1) := by decide +kernel
set_option maxRecDepth 20000 in
theorem dX10_undoneNow_1 : decode cX10_undoneNow 1 = .ok (.istore_n 1, 1) := by decide +kernel
set_option maxRecDepth 20000 in
theorem dX10_undoneNow_2 : decode cX10_undoneNow 2 = .ok (.iconst 0, 1) := by decide +kernel
set_option maxRecDepth 20000 in
theorem dX10_undoneNow_3 : decode cX10_undoneNow 3 = .ok (.istore_n 2, 1) := by decide +kernel
set_option maxRecDepth 20000 in
theorem dX10_undoneNow_4 : decode cX10_undoneNow 4 = .ok (.iload_n 2, 1) := by decide +kernel
set_option maxRecDepth 20000 in
theorem dX10_undoneNow_5 : decode cX10_undoneNow 5 = .ok (.aload_n 0, 1) := by decide +kernel
set_option maxRecDepth 20000 in
theorem dX10_undoneNow_6 : decode cX10_undoneNow 6 = .ok (.getfield 80, 3) := by decide +kernel
set_option maxRecDepth 20000 in
theorem dX10_undoneNow_9 : decode cX10_undoneNow 9 = .ok (.if_icmp .ge 28, 3) := by decide +kernel
set_option maxRecDepth 20000 in
theorem dX10_undoneNow_12 : decode cX10_undoneNow 12 = .ok (.iload_n 1, 1) := by decide +kernel
set_option maxRecDepth 20000 in
theorem dX10_undoneNow_13 : decode cX10_undoneNow 13 = .ok (.aload_n 0, 1) := by decide +kernel
set_option maxRecDepth 20000 in
theorem dX10_undoneNow_14 : decode cX10_undoneNow 14 = .ok (.getfield 43, 3) := by decide +kernel
set_option maxRecDepth 20000 in
theorem dX10_undoneNow_17 : decode cX10_undoneNow 17 = .ok (.iload_n 2, 1) := by decide +kernel
set_option maxRecDepth 20000 in
theorem dX10_undoneNow_18 : decode cX10_undoneNow 18 = .ok (.iaload, 1) := by decide +kernel
set_option maxRecDepth 20000 in
theorem dX10_undoneNow_19 : decode cX10_undoneNow 19 = .ok (.ifCond .ge 9, 3) := by decide +kernel
set_option maxRecDepth 20000 in
theorem dX10_undoneNow_22 : decode cX10_undoneNow 22 = .ok (.iconst 1, 1) := by decide +kernel
set_option maxRecDepth 20000 in
theorem dX10_undoneNow_23 : decode cX10_undoneNow 23 = .ok (.iload_n 2, 1) := by decide +kernel
set_option maxRecDepth 20000 in
theorem dX10_undoneNow_24 : decode cX10_undoneNow 24 = .ok (.ishl, 1) := by decide +kernel
set_option maxRecDepth 20000 in
theorem dX10_undoneNow_25 : decode cX10_undoneNow 25 = .ok (.goto 4, 3) := by decide +kernel
set_option maxRecDepth 20000 in
theorem dX10_undoneNow_28 : decode cX10_undoneNow 28 = .ok (.iconst 0, 1) := by decide +kernel
set_option maxRecDepth 20000 in
theorem dX10_undoneNow_29 : decode cX10_undoneNow 29 = .ok (.ior, 1) := by decide +kernel
set_option maxRecDepth 20000 in
theorem dX10_undoneNow_30 : decode cX10_undoneNow 30 = .ok (.istore_n 1, 1) := by decide +kernel
set_option maxRecDepth 20000 in
theorem dX10_undoneNow_31 : decode cX10_undoneNow 31 = .ok (.iinc 2 1, 3) := by decide +kernel
set_option maxRecDepth 20000 in
theorem dX10_undoneNow_34 : decode cX10_undoneNow 34 = .ok (.goto (-30), 3) := by decide +kernel
set_option maxRecDepth 20000 in
theorem dX10_undoneNow_37 : decode cX10_undoneNow 37 = .ok (.iload_n 1, 1) := by decide +kernel
set_option maxRecDepth 20000 in
theorem dX10_undoneNow_38 : decode cX10_undoneNow 38 = .ok (.ireturn, 1) := by decide +kernel
set_option maxRecDepth 20000 in
theorem dX10_servesNow_0 : decode cX10_servesNow 0 = .ok (.iconst 0, 1) := by decide +kernel
set_option maxRecDepth 20000 in
theorem dX10_servesNow_1 : decode cX10_servesNow 1 = .ok (.istore_n 1, 1) := by decide +kernel
set_option maxRecDepth 20000 in
theorem dX10_servesNow_2 : decode cX10_servesNow 2 = .ok (.iconst 0, 1) := by decide +kernel
set_option maxRecDepth 20000 in
theorem dX10_servesNow_3 : decode cX10_servesNow 3 = .ok (.istore_n 2, 1) := by decide +kernel
set_option maxRecDepth 20000 in
theorem dX10_servesNow_4 : decode cX10_servesNow 4 = .ok (.iload_n 2, 1) := by decide +kernel
set_option maxRecDepth 20000 in
theorem dX10_servesNow_5 : decode cX10_servesNow 5 = .ok (.aload_n 0, 1) := by decide +kernel
set_option maxRecDepth 20000 in
theorem dX10_servesNow_6 : decode cX10_servesNow 6 = .ok (.getfield 80, 3) := by decide +kernel
set_option maxRecDepth 20000 in
theorem dX10_servesNow_9 : decode cX10_servesNow 9 = .ok (.if_icmp .ge 61, 3) := by decide +kernel
set_option maxRecDepth 20000 in
theorem dX10_servesNow_12 : decode cX10_servesNow 12 = .ok (.aload_n 0, 1) := by decide +kernel
set_option maxRecDepth 20000 in
theorem dX10_servesNow_13 : decode cX10_servesNow 13 = .ok (.getfield 43, 3) := by decide +kernel
set_option maxRecDepth 20000 in
theorem dX10_servesNow_16 : decode cX10_servesNow 16 = .ok (.iload_n 2, 1) := by decide +kernel
set_option maxRecDepth 20000 in
theorem dX10_servesNow_17 : decode cX10_servesNow 17 = .ok (.iaload, 1) := by decide +kernel
set_option maxRecDepth 20000 in
theorem dX10_servesNow_18 : decode cX10_servesNow 18 = .ok (.istore_n 3, 1) := by decide +kernel
set_option maxRecDepth 20000 in
theorem dX10_servesNow_19 : decode cX10_servesNow 19 = .ok (.iload_n 3, 1) := by decide +kernel
set_option maxRecDepth 20000 in
theorem dX10_servesNow_20 : decode cX10_servesNow 20 = .ok (.ifCond .ge 7, 3) := by decide +kernel
set_option maxRecDepth 20000 in
theorem dX10_servesNow_23 : decode cX10_servesNow 23 = .ok (.iconst 0, 1) := by decide +kernel
set_option maxRecDepth 20000 in
theorem dX10_servesNow_24 : decode cX10_servesNow 24 = .ok (.goto 11, 3) := by decide +kernel
set_option maxRecDepth 20000 in
theorem dX10_servesNow_27 : decode cX10_servesNow 27 = .ok (.bipush 10, 2) := by decide +kernel
set_option maxRecDepth 20000 in
theorem dX10_servesNow_29 : decode cX10_servesNow 29 = .ok (.aload_n 0, 1) := by decide +kernel
set_option maxRecDepth 20000 in
theorem dX10_servesNow_30 : decode cX10_servesNow 30 = .ok (.iload_n 3, 1) := by decide +kernel
set_option maxRecDepth 20000 in
theorem dX10_servesNow_31 : decode cX10_servesNow 31 = .ok (.invokevirtual 143, 3) := by decide +kernel
set_option maxRecDepth 20000 in
theorem dX10_servesNow_34 : decode cX10_servesNow 34 = .ok (.imul, 1) := by decide +kernel
set_option maxRecDepth 20000 in
theorem dX10_servesNow_35 : decode cX10_servesNow 35 = .ok (.istore 4, 2) := by decide +kernel
set_option maxRecDepth 20000 in
theorem dX10_servesNow_37 : decode cX10_servesNow 37 = .ok (.iload_n 1, 1) := by decide +kernel
set_option maxRecDepth 20000 in
theorem dX10_servesNow_38 : decode cX10_servesNow 38 = .ok (.iload_n 3, 1) := by decide +kernel
set_option maxRecDepth 20000 in
theorem dX10_servesNow_39 : decode cX10_servesNow 39 = .ok (.iload_n 2, 1) := by decide +kernel
set_option maxRecDepth 20000 in
theorem dX10_servesNow_40 : decode cX10_servesNow 40 = .ok (.if_icmp .ne 8, 3) := by decide +kernel
set_option maxRecDepth 20000 in
theorem dX10_servesNow_43 : decode cX10_servesNow 43 = .ok (.bipush 100, 2) := by decide +kernel
set_option maxRecDepth 20000 in
theorem dX10_servesNow_45 : decode cX10_servesNow 45 = .ok (.goto 17, 3) := by decide +kernel
set_option maxRecDepth 20000 in
theorem dX10_servesNow_48 : decode cX10_servesNow 48 = .ok (.iload 4, 2) := by decide +kernel
set_option maxRecDepth 20000 in
theorem dX10_servesNow_50 : decode cX10_servesNow 50 = .ok (.bipush 99, 2) := by decide +kernel
set_option maxRecDepth 20000 in
theorem dX10_servesNow_52 : decode cX10_servesNow 52 = .ok (.if_icmp .le 8, 3) := by decide +kernel
set_option maxRecDepth 20000 in
theorem dX10_servesNow_55 : decode cX10_servesNow 55 = .ok (.bipush 99, 2) := by decide +kernel
set_option maxRecDepth 20000 in
theorem dX10_servesNow_57 : decode cX10_servesNow 57 = .ok (.goto 5, 3) := by decide +kernel
set_option maxRecDepth 20000 in
theorem dX10_servesNow_60 : decode cX10_servesNow 60 = .ok (.iload 4, 2) := by decide +kernel
set_option maxRecDepth 20000 in
theorem dX10_servesNow_62 : decode cX10_servesNow 62 = .ok (.iadd, 1) := by decide +kernel
set_option maxRecDepth 20000 in
theorem dX10_servesNow_63 : decode cX10_servesNow 63 = .ok (.istore_n 1, 1) := by decide +kernel
set_option maxRecDepth 20000 in
theorem dX10_servesNow_64 : decode cX10_servesNow 64 = .ok (.iinc 2 1, 3) := by decide +kernel
set_option maxRecDepth 20000 in
theorem dX10_servesNow_67 : decode cX10_servesNow 67 = .ok (.goto (-63), 3) := by decide +kernel
set_option maxRecDepth 20000 in
theorem dX10_servesNow_70 : decode cX10_servesNow 70 = .ok (.iload_n 1, 1) := by decide +kernel
set_option maxRecDepth 20000 in
theorem dX10_servesNow_71 : decode cX10_servesNow 71 = .ok (.ireturn, 1) := by decide +kernel
set_option maxRecDepth 20000 in
theorem dX10_by_0 : decode cX10_by 0 = .ok (.aload_n 0, 1) := by decide +kernel
set_option maxRecDepth 20000 in
theorem dX10_by_1 : decode cX10_by 1 = .ok (.iload_n 1, 1) := by decide +kernel
set_option maxRecDepth 20000 in
theorem dX10_by_2 : decode cX10_by 2 = .ok (.invokevirtual 140, 3) := by decide +kernel
set_option maxRecDepth 20000 in
theorem dX10_by_5 : decode cX10_by 5 = .ok (.ifCond .eq 5, 3) := by decide +kernel
set_option maxRecDepth 20000 in
theorem dX10_by_8 : decode cX10_by 8 = .ok (.iconst (-1), 1) := by decide +kernel
set_option maxRecDepth 20000 in
theorem dX10_by_9 : decode cX10_by 9 = .ok (.ireturn, 1) := by decide +kernel
set_option maxRecDepth 20000 in
theorem dX10_by_10 : decode cX10_by 10 = .ok (.iload_n 2, 1) := by decide +kernel
set_option maxRecDepth 20000 in
theorem dX10_by_11 : decode cX10_by 11 = .ok (.invokestatic 146, 3) := by decide +kernel
set_option maxRecDepth 20000 in
theorem dX10_by_14 : decode cX10_by 14 = .ok (.ifCond .ne 6, 3) := by decide +kernel
set_option maxRecDepth 20000 in
theorem dX10_by_17 : decode cX10_by 17 = .ok (.bipush (-2), 2) := by decide +kernel
set_option maxRecDepth 20000 in
theorem dX10_by_19 : decode cX10_by 19 = .ok (.ireturn, 1) := by decide +kernel
set_option maxRecDepth 20000 in
theorem dX10_by_20 : decode cX10_by 20 = .ok (.aload_n 0, 1) := by decide +kernel
set_option maxRecDepth 20000 in
theorem dX10_by_21 : decode cX10_by 21 = .ok (.iload_n 2, 1) := by decide +kernel
set_option maxRecDepth 20000 in
theorem dX10_by_22 : decode cX10_by 22 = .ok (.invokevirtual 171, 3) := by decide +kernel
set_option maxRecDepth 20000 in
theorem dX10_by_25 : decode cX10_by 25 = .ok (.aload_n 0, 1) := by decide +kernel
set_option maxRecDepth 20000 in
theorem dX10_by_26 : decode cX10_by 26 = .ok (.getfield 43, 3) := by decide +kernel
set_option maxRecDepth 20000 in
theorem dX10_by_29 : decode cX10_by 29 = .ok (.iload_n 1, 1) := by decide +kernel
set_option maxRecDepth 20000 in
theorem dX10_by_30 : decode cX10_by 30 = .ok (.iaload, 1) := by decide +kernel
set_option maxRecDepth 20000 in
theorem dX10_by_31 : decode cX10_by 31 = .ok (.ireturn, 1) := by decide +kernel
set_option maxRecDepth 20000 in
theorem dX10_refusedFor_0 : decode cX10_refusedFor 0 = .ok (.iload_n 1, 1) := by decide +kernel
set_option maxRecDepth 20000 in
theorem dX10_refusedFor_1 : decode cX10_refusedFor 1 = .ok (.invokestatic 146, 3) := by decide +kernel
set_option maxRecDepth 20000 in
theorem dX10_refusedFor_4 : decode cX10_refusedFor 4 = .ok (.ifCond .ne 8, 3) := by decide +kernel
set_option maxRecDepth 20000 in
theorem dX10_refusedFor_7 : decode cX10_refusedFor 7 = .ok (.bipush (-2), 2) := by decide +kernel
set_option maxRecDepth 20000 in
theorem dX10_refusedFor_9 : decode cX10_refusedFor 9 = .ok (.goto 16, 3) := by decide +kernel
set_option maxRecDepth 20000 in
theorem dX10_refusedFor_12 : decode cX10_refusedFor 12 = .ok (.aload_n 0, 1) := by decide +kernel
set_option maxRecDepth 20000 in
theorem dX10_refusedFor_13 : decode cX10_refusedFor 13 = .ok (.getfield 80, 3) := by decide +kernel
set_option maxRecDepth 20000 in
theorem dX10_refusedFor_16 : decode cX10_refusedFor 16 = .ok (.ifCond .ne 8, 3) := by decide +kernel
set_option maxRecDepth 20000 in
theorem dX10_refusedFor_19 : decode cX10_refusedFor 19 = .ok (.bipush (-3), 2) := by decide +kernel
set_option maxRecDepth 20000 in
theorem dX10_refusedFor_21 : decode cX10_refusedFor 21 = .ok (.goto 4, 3) := by decide +kernel
set_option maxRecDepth 20000 in
theorem dX10_refusedFor_24 : decode cX10_refusedFor 24 = .ok (.iconst 0, 1) := by decide +kernel
set_option maxRecDepth 20000 in
theorem dX10_refusedFor_25 : decode cX10_refusedFor 25 = .ok (.ireturn, 1) := by decide +kernel
set_option maxRecDepth 20000 in
theorem dX10_undone_0 : decode cX10_undone 0 = .ok (.aload_n 0, 1) := by decide +kernel
set_option maxRecDepth 20000 in
theorem dX10_undone_1 : decode cX10_undone 1 = .ok (.iload_n 1, 1) := by decide +kernel
set_option maxRecDepth 20000 in
theorem dX10_undone_2 : decode cX10_undone 2 = .ok (.invokevirtual 174, 3) := by decide +kernel
set_option maxRecDepth 20000 in
theorem dX10_undone_5 : decode cX10_undone 5 = .ok (.istore_n 2, 1) := by decide +kernel
set_option maxRecDepth 20000 in
theorem dX10_undone_6 : decode cX10_undone 6 = .ok (.iload_n 2, 1) := by decide +kernel
set_option maxRecDepth 20000 in
theorem dX10_undone_7 : decode cX10_undone 7 = .ok (.ifCond .ge 5, 3) := by decide +kernel
set_option maxRecDepth 20000 in
theorem dX10_undone_10 : decode cX10_undone 10 = .ok (.iload_n 2, 1) := by decide +kernel
set_option maxRecDepth 20000 in
theorem dX10_undone_11 : decode cX10_undone 11 = .ok (.ireturn, 1) := by decide +kernel
set_option maxRecDepth 20000 in
theorem dX10_undone_12 : decode cX10_undone 12 = .ok (.aload_n 0, 1) := by decide +kernel
set_option maxRecDepth 20000 in
theorem dX10_undone_13 : decode cX10_undone 13 = .ok (.iload_n 1, 1) := by decide +kernel
set_option maxRecDepth 20000 in
theorem dX10_undone_14 : decode cX10_undone 14 = .ok (.invokevirtual 171, 3) := by decide +kernel
set_option maxRecDepth 20000 in
theorem dX10_undone_17 : decode cX10_undone 17 = .ok (.aload_n 0, 1) := by decide +kernel
set_option maxRecDepth 20000 in
theorem dX10_undone_18 : decode cX10_undone 18 = .ok (.invokevirtual 177, 3) := by decide +kernel
set_option maxRecDepth 20000 in
theorem dX10_undone_21 : decode cX10_undone 21 = .ok (.ireturn, 1) := by decide +kernel
set_option maxRecDepth 20000 in
theorem dX10_serves_0 : decode cX10_serves 0 = .ok (.aload_n 0, 1) := by decide +kernel
set_option maxRecDepth 20000 in
theorem dX10_serves_1 : decode cX10_serves 1 = .ok (.iload_n 1, 1) := by decide +kernel
set_option maxRecDepth 20000 in
theorem dX10_serves_2 : decode cX10_serves 2 = .ok (.invokevirtual 174, 3) := by decide +kernel
set_option maxRecDepth 20000 in
theorem dX10_serves_5 : decode cX10_serves 5 = .ok (.istore_n 2, 1) := by decide +kernel
set_option maxRecDepth 20000 in
theorem dX10_serves_6 : decode cX10_serves 6 = .ok (.iload_n 2, 1) := by decide +kernel
set_option maxRecDepth 20000 in
theorem dX10_serves_7 : decode cX10_serves 7 = .ok (.ifCond .ge 5, 3) := by decide +kernel
set_option maxRecDepth 20000 in
theorem dX10_serves_10 : decode cX10_serves 10 = .ok (.iload_n 2, 1) := by decide +kernel
set_option maxRecDepth 20000 in
theorem dX10_serves_11 : decode cX10_serves 11 = .ok (.ireturn, 1) := by decide +kernel
set_option maxRecDepth 20000 in
theorem dX10_serves_12 : decode cX10_serves 12 = .ok (.aload_n 0, 1) := by decide +kernel
set_option maxRecDepth 20000 in
theorem dX10_serves_13 : decode cX10_serves 13 = .ok (.iload_n 1, 1) := by decide +kernel
set_option maxRecDepth 20000 in
theorem dX10_serves_14 : decode cX10_serves 14 = .ok (.invokevirtual 171, 3) := by decide +kernel
set_option maxRecDepth 20000 in
theorem dX10_serves_17 : decode cX10_serves 17 = .ok (.aload_n 0, 1) := by decide +kernel
set_option maxRecDepth 20000 in
theorem dX10_serves_18 : decode cX10_serves 18 = .ok (.invokevirtual 181, 3) := by decide +kernel
set_option maxRecDepth 20000 in
theorem dX10_serves_21 : decode cX10_serves 21 = .ok (.ireturn, 1) := by decide +kernel
set_option maxRecDepth 20000 in
theorem dX10_ring_0 : decode cX10_ring 0 = .ok (.aload_n 0, 1) := by decide +kernel
set_option maxRecDepth 20000 in
theorem dX10_ring_1 : decode cX10_ring 1 = .ok (.getfield 80, 3) := by decide +kernel
set_option maxRecDepth 20000 in
theorem dX10_ring_4 : decode cX10_ring 4 = .ok (.ifCond .ne 6, 3) := by decide +kernel
set_option maxRecDepth 20000 in
theorem dX10_ring_7 : decode cX10_ring 7 = .ok (.bipush (-3), 2) := by decide +kernel
set_option maxRecDepth 20000 in
theorem dX10_ring_9 : decode cX10_ring 9 = .ok (.ireturn, 1) := by decide +kernel
set_option maxRecDepth 20000 in
theorem dX10_ring_10 : decode cX10_ring 10 = .ok (.iconst 0, 1) := by decide +kernel
set_option maxRecDepth 20000 in
theorem dX10_ring_11 : decode cX10_ring 11 = .ok (.istore_n 1, 1) := by decide +kernel
set_option maxRecDepth 20000 in
theorem dX10_ring_12 : decode cX10_ring 12 = .ok (.iconst 0, 1) := by decide +kernel
set_option maxRecDepth 20000 in
theorem dX10_ring_13 : decode cX10_ring 13 = .ok (.istore_n 2, 1) := by decide +kernel
set_option maxRecDepth 20000 in
theorem dX10_ring_14 : decode cX10_ring 14 = .ok (.iload_n 2, 1) := by decide +kernel
set_option maxRecDepth 20000 in
theorem dX10_ring_15 : decode cX10_ring 15 = .ok (.aload_n 0, 1) := by decide +kernel
set_option maxRecDepth 20000 in
theorem dX10_ring_16 : decode cX10_ring 16 = .ok (.getfield 80, 3) := by decide +kernel
set_option maxRecDepth 20000 in
theorem dX10_ring_19 : decode cX10_ring 19 = .ok (.if_icmp .ge 51, 3) := by decide +kernel
set_option maxRecDepth 20000 in
theorem dX10_ring_22 : decode cX10_ring 22 = .ok (.iload_n 2, 1) := by decide +kernel
set_option maxRecDepth 20000 in
theorem dX10_ring_23 : decode cX10_ring 23 = .ok (.istore_n 3, 1) := by decide +kernel
set_option maxRecDepth 20000 in
theorem dX10_ring_24 : decode cX10_ring 24 = .ok (.iconst 0, 1) := by decide +kernel
set_option maxRecDepth 20000 in
theorem dX10_ring_25 : decode cX10_ring 25 = .ok (.istore 4, 2) := by decide +kernel
set_option maxRecDepth 20000 in
theorem dX10_ring_27 : decode cX10_ring 27 = .ok (.iload 4, 2) := by decide +kernel
set_option maxRecDepth 20000 in
theorem dX10_ring_29 : decode cX10_ring 29 = .ok (.aload_n 0, 1) := by decide +kernel
set_option maxRecDepth 20000 in
theorem dX10_ring_30 : decode cX10_ring 30 = .ok (.getfield 80, 3) := by decide +kernel
set_option maxRecDepth 20000 in
theorem dX10_ring_33 : decode cX10_ring 33 = .ok (.if_icmp .ge 31, 3) := by decide +kernel
set_option maxRecDepth 20000 in
theorem dX10_ring_36 : decode cX10_ring 36 = .ok (.aload_n 0, 1) := by decide +kernel
set_option maxRecDepth 20000 in
theorem dX10_ring_37 : decode cX10_ring 37 = .ok (.getfield 13, 3) := by decide +kernel
set_option maxRecDepth 20000 in
theorem dX10_ring_40 : decode cX10_ring 40 = .ok (.iload_n 3, 1) := by decide +kernel
set_option maxRecDepth 20000 in
theorem dX10_ring_41 : decode cX10_ring 41 = .ok (.iaload, 1) := by decide +kernel
set_option maxRecDepth 20000 in
theorem dX10_ring_42 : decode cX10_ring 42 = .ok (.istore_n 3, 1) := by decide +kernel
set_option maxRecDepth 20000 in
theorem dX10_ring_43 : decode cX10_ring 43 = .ok (.iload_n 1, 1) := by decide +kernel
set_option maxRecDepth 20000 in
theorem dX10_ring_44 : decode cX10_ring 44 = .ok (.iload_n 3, 1) := by decide +kernel
set_option maxRecDepth 20000 in
theorem dX10_ring_45 : decode cX10_ring 45 = .ok (.iload_n 2, 1) := by decide +kernel
set_option maxRecDepth 20000 in
theorem dX10_ring_46 : decode cX10_ring 46 = .ok (.if_icmp .ne 9, 3) := by decide +kernel
set_option maxRecDepth 20000 in
theorem dX10_ring_49 : decode cX10_ring 49 = .ok (.iconst 1, 1) := by decide +kernel
set_option maxRecDepth 20000 in
theorem dX10_ring_50 : decode cX10_ring 50 = .ok (.iload_n 2, 1) := by decide +kernel
set_option maxRecDepth 20000 in
theorem dX10_ring_51 : decode cX10_ring 51 = .ok (.ishl, 1) := by decide +kernel
set_option maxRecDepth 20000 in
theorem dX10_ring_52 : decode cX10_ring 52 = .ok (.goto 4, 3) := by decide +kernel
set_option maxRecDepth 20000 in
theorem dX10_ring_55 : decode cX10_ring 55 = .ok (.iconst 0, 1) := by decide +kernel
set_option maxRecDepth 20000 in
theorem dX10_ring_56 : decode cX10_ring 56 = .ok (.ior, 1) := by decide +kernel
set_option maxRecDepth 20000 in
theorem dX10_ring_57 : decode cX10_ring 57 = .ok (.istore_n 1, 1) := by decide +kernel
set_option maxRecDepth 20000 in
theorem dX10_ring_58 : decode cX10_ring 58 = .ok (.iinc 4 1, 3) := by decide +kernel
set_option maxRecDepth 20000 in
theorem dX10_ring_61 : decode cX10_ring 61 = .ok (.goto (-34), 3) := by decide +kernel
set_option maxRecDepth 20000 in
theorem dX10_ring_64 : decode cX10_ring 64 = .ok (.iinc 2 1, 3) := by decide +kernel
set_option maxRecDepth 20000 in
theorem dX10_ring_67 : decode cX10_ring 67 = .ok (.goto (-53), 3) := by decide +kernel
set_option maxRecDepth 20000 in
theorem dX10_ring_70 : decode cX10_ring 70 = .ok (.iload_n 1, 1) := by decide +kernel
set_option maxRecDepth 20000 in
theorem dX10_ring_71 : decode cX10_ring 71 = .ok (.ireturn, 1) := by decide +kernel
set_option maxRecDepth 20000 in
theorem dX10_first_0 : decode cX10_first 0 = .ok (.iload_n 1, 1) := by decide +kernel
set_option maxRecDepth 20000 in
theorem dX10_first_1 : decode cX10_first 1 = .ok (.i2l, 1) := by decide +kernel
set_option maxRecDepth 20000 in
theorem dX10_first_2 : decode cX10_first 2 = .ok (.lconst 0, 1) := by decide +kernel
set_option maxRecDepth 20000 in
theorem dX10_first_3 : decode cX10_first 3 = .ok (.lconst 1, 1) := by decide +kernel
set_option maxRecDepth 20000 in
theorem dX10_first_4 : decode cX10_first 4 = .ok (.invokestatic 83, 3) := by decide +kernel
set_option maxRecDepth 20000 in
theorem dX10_first_7 : decode cX10_first 7 = .ok (.ifCond .ne 6, 3) := by decide +kernel
set_option maxRecDepth 20000 in
theorem dX10_first_10 : decode cX10_first 10 = .ok (.bipush (-2), 2) := by decide +kernel
set_option maxRecDepth 20000 in
theorem dX10_first_12 : decode cX10_first 12 = .ok (.ireturn, 1) := by decide +kernel
set_option maxRecDepth 20000 in
theorem dX10_first_13 : decode cX10_first 13 = .ok (.aload_n 0, 1) := by decide +kernel
set_option maxRecDepth 20000 in
theorem dX10_first_14 : decode cX10_first 14 = .ok (.getfield 80, 3) := by decide +kernel
set_option maxRecDepth 20000 in
theorem dX10_first_17 : decode cX10_first 17 = .ok (.ifCond .ne 6, 3) := by decide +kernel
set_option maxRecDepth 20000 in
theorem dX10_first_20 : decode cX10_first 20 = .ok (.bipush (-3), 2) := by decide +kernel
set_option maxRecDepth 20000 in
theorem dX10_first_22 : decode cX10_first 22 = .ok (.ireturn, 1) := by decide +kernel
set_option maxRecDepth 20000 in
theorem dX10_first_23 : decode cX10_first 23 = .ok (.aload_n 0, 1) := by decide +kernel
set_option maxRecDepth 20000 in
theorem dX10_first_24 : decode cX10_first 24 = .ok (.invokevirtual 161, 3) := by decide +kernel
set_option maxRecDepth 20000 in
theorem dX10_first_27 : decode cX10_first 27 = .ok (.iconst 0, 1) := by decide +kernel
set_option maxRecDepth 20000 in
theorem dX10_first_28 : decode cX10_first 28 = .ok (.istore_n 2, 1) := by decide +kernel
set_option maxRecDepth 20000 in
theorem dX10_first_29 : decode cX10_first 29 = .ok (.iload_n 2, 1) := by decide +kernel
set_option maxRecDepth 20000 in
theorem dX10_first_30 : decode cX10_first 30 = .ok (.bipush 30, 2) := by decide +kernel
set_option maxRecDepth 20000 in
theorem dX10_first_32 : decode cX10_first 32 = .ok (.if_icmp .ge 56, 3) := by decide +kernel
set_option maxRecDepth 20000 in
theorem dX10_first_35 : decode cX10_first 35 = .ok (.aload_n 0, 1) := by decide +kernel
set_option maxRecDepth 20000 in
theorem dX10_first_36 : decode cX10_first 36 = .ok (.aload_n 0, 1) := by decide +kernel
set_option maxRecDepth 20000 in
theorem dX10_first_37 : decode cX10_first 37 = .ok (.iload_n 2, 1) := by decide +kernel
set_option maxRecDepth 20000 in
theorem dX10_first_38 : decode cX10_first 38 = .ok (.invokevirtual 164, 3) := by decide +kernel
set_option maxRecDepth 20000 in
theorem dX10_first_41 : decode cX10_first 41 = .ok (.invokevirtual 167, 3) := by decide +kernel
set_option maxRecDepth 20000 in
theorem dX10_first_44 : decode cX10_first 44 = .ok (.aload_n 0, 1) := by decide +kernel
set_option maxRecDepth 20000 in
theorem dX10_first_45 : decode cX10_first 45 = .ok (.invokevirtual 177, 3) := by decide +kernel
set_option maxRecDepth 20000 in
theorem dX10_first_48 : decode cX10_first 48 = .ok (.istore_n 3, 1) := by decide +kernel
set_option maxRecDepth 20000 in
theorem dX10_first_49 : decode cX10_first 49 = .ok (.iload_n 3, 1) := by decide +kernel
set_option maxRecDepth 20000 in
theorem dX10_first_50 : decode cX10_first 50 = .ok (.ifCond .eq 32, 3) := by decide +kernel
set_option maxRecDepth 20000 in
theorem dX10_first_53 : decode cX10_first 53 = .ok (.iconst 0, 1) := by decide +kernel
set_option maxRecDepth 20000 in
theorem dX10_first_54 : decode cX10_first 54 = .ok (.istore 4, 2) := by decide +kernel
set_option maxRecDepth 20000 in
theorem dX10_first_56 : decode cX10_first 56 = .ok (.iload_n 3, 1) := by decide +kernel
set_option maxRecDepth 20000 in
theorem dX10_first_57 : decode cX10_first 57 = .ok (.iload 4, 2) := by decide +kernel
set_option maxRecDepth 20000 in
theorem dX10_first_59 : decode cX10_first 59 = .ok (.invokestatic 149, 3) := by decide +kernel
set_option maxRecDepth 20000 in
theorem dX10_first_62 : decode cX10_first 62 = .ok (.ifCond .ne 9, 3) := by decide +kernel
set_option maxRecDepth 20000 in
theorem dX10_first_65 : decode cX10_first 65 = .ok (.iinc 4 1, 3) := by decide +kernel
set_option maxRecDepth 20000 in
theorem dX10_first_68 : decode cX10_first 68 = .ok (.goto (-12), 3) := by decide +kernel
set_option maxRecDepth 20000 in
theorem dX10_first_71 : decode cX10_first 71 = .ok (.iload_n 1, 1) := by decide +kernel
set_option maxRecDepth 20000 in
theorem dX10_first_72 : decode cX10_first 72 = .ok (.ifCond .ne 7, 3) := by decide +kernel
set_option maxRecDepth 20000 in
theorem dX10_first_75 : decode cX10_first 75 = .ok (.iload_n 2, 1) := by decide +kernel
set_option maxRecDepth 20000 in
theorem dX10_first_76 : decode cX10_first 76 = .ok (.goto 5, 3) := by decide +kernel
set_option maxRecDepth 20000 in
theorem dX10_first_79 : decode cX10_first 79 = .ok (.iload 4, 2) := by decide +kernel
set_option maxRecDepth 20000 in
theorem dX10_first_81 : decode cX10_first 81 = .ok (.ireturn, 1) := by decide +kernel
set_option maxRecDepth 20000 in
theorem dX10_first_82 : decode cX10_first 82 = .ok (.iinc 2 1, 3) := by decide +kernel
set_option maxRecDepth 20000 in
theorem dX10_first_85 : decode cX10_first 85 = .ok (.goto (-56), 3) := by decide +kernel
set_option maxRecDepth 20000 in
theorem dX10_first_88 : decode cX10_first 88 = .ok (.bipush (-9), 2) := by decide +kernel
set_option maxRecDepth 20000 in
theorem dX10_first_90 : decode cX10_first 90 = .ok (.ireturn, 1) := by decide +kernel
set_option maxRecDepth 20000 in
theorem dX10_undoneBy_0 : decode cX10_undoneBy 0 = .ok (.aload_n 0, 1) := by decide +kernel
set_option maxRecDepth 20000 in
theorem dX10_undoneBy_1 : decode cX10_undoneBy 1 = .ok (.iload_n 1, 1) := by decide +kernel
set_option maxRecDepth 20000 in
theorem dX10_undoneBy_2 : decode cX10_undoneBy 2 = .ok (.invokevirtual 184, 3) := by decide +kernel
set_option maxRecDepth 20000 in
theorem dX10_undoneBy_5 : decode cX10_undoneBy 5 = .ok (.aload_n 0, 1) := by decide +kernel
set_option maxRecDepth 20000 in
theorem dX10_undoneBy_6 : decode cX10_undoneBy 6 = .ok (.invokevirtual 177, 3) := by decide +kernel
set_option maxRecDepth 20000 in
theorem dX10_undoneBy_9 : decode cX10_undoneBy 9 = .ok (.invokestatic 187, 3) := by decide +kernel
set_option maxRecDepth 20000 in
theorem dX10_undoneBy_12 : decode cX10_undoneBy 12 = .ok (.ireturn, 1) := by decide +kernel
set_option maxRecDepth 20000 in
theorem dX10_frailest_0 : decode cX10_frailest 0 = .ok (.bipush (-9), 2) := by decide +kernel
set_option maxRecDepth 20000 in
theorem dX10_frailest_2 : decode cX10_frailest 2 = .ok (.istore_n 2, 1) := by decide +kernel
set_option maxRecDepth 20000 in
theorem dX10_frailest_3 : decode cX10_frailest 3 = .ok (.aload_n 0, 1) := by decide +kernel
set_option maxRecDepth 20000 in
theorem dX10_frailest_4 : decode cX10_frailest 4 = .ok (.iconst (-1), 1) := by decide +kernel
set_option maxRecDepth 20000 in
theorem dX10_frailest_5 : decode cX10_frailest 5 = .ok (.putfield 190, 3) := by decide +kernel
set_option maxRecDepth 20000 in
theorem dX10_frailest_8 : decode cX10_frailest 8 = .ok (.iconst 0, 1) := by decide +kernel
set_option maxRecDepth 20000 in
theorem dX10_frailest_9 : decode cX10_frailest 9 = .ok (.istore_n 3, 1) := by decide +kernel
set_option maxRecDepth 20000 in
theorem dX10_frailest_10 : decode cX10_frailest 10 = .ok (.iload_n 3, 1) := by decide +kernel
set_option maxRecDepth 20000 in
theorem dX10_frailest_11 : decode cX10_frailest 11 = .ok (.aload_n 0, 1) := by decide +kernel
set_option maxRecDepth 20000 in
theorem dX10_frailest_12 : decode cX10_frailest 12 = .ok (.invokevirtual 193, 3) := by decide +kernel
set_option maxRecDepth 20000 in
theorem dX10_frailest_15 : decode cX10_frailest 15 = .ok (.if_icmp .gt 61, 3) := by decide +kernel
set_option maxRecDepth 20000 in
theorem dX10_frailest_18 : decode cX10_frailest 18 = .ok (.iload_n 3, 1) := by decide +kernel
set_option maxRecDepth 20000 in
theorem dX10_frailest_19 : decode cX10_frailest 19 = .ok (.invokestatic 187, 3) := by decide +kernel
set_option maxRecDepth 20000 in
theorem dX10_frailest_22 : decode cX10_frailest 22 = .ok (.iload_n 1, 1) := by decide +kernel
set_option maxRecDepth 20000 in
theorem dX10_frailest_23 : decode cX10_frailest 23 = .ok (.if_icmp .ne 47, 3) := by decide +kernel
set_option maxRecDepth 20000 in
theorem dX10_frailest_26 : decode cX10_frailest 26 = .ok (.aload_n 0, 1) := by decide +kernel
set_option maxRecDepth 20000 in
theorem dX10_frailest_27 : decode cX10_frailest 27 = .ok (.iload_n 3, 1) := by decide +kernel
set_option maxRecDepth 20000 in
theorem dX10_frailest_28 : decode cX10_frailest 28 = .ok (.invokevirtual 196, 3) := by decide +kernel
set_option maxRecDepth 20000 in
theorem dX10_frailest_31 : decode cX10_frailest 31 = .ok (.istore 4, 2) := by decide +kernel
set_option maxRecDepth 20000 in
theorem dX10_frailest_33 : decode cX10_frailest 33 = .ok (.iload 4, 2) := by decide +kernel
set_option maxRecDepth 20000 in
theorem dX10_frailest_35 : decode cX10_frailest 35 = .ok (.aload_n 0, 1) := by decide +kernel
set_option maxRecDepth 20000 in
theorem dX10_frailest_36 : decode cX10_frailest 36 = .ok (.getfield 190, 3) := by decide +kernel
set_option maxRecDepth 20000 in
theorem dX10_frailest_39 : decode cX10_frailest 39 = .ok (.if_icmp .le 7, 3) := by decide +kernel
set_option maxRecDepth 20000 in
theorem dX10_frailest_42 : decode cX10_frailest 42 = .ok (.iload_n 3, 1) := by decide +kernel
set_option maxRecDepth 20000 in
theorem dX10_frailest_43 : decode cX10_frailest 43 = .ok (.goto 4, 3) := by decide +kernel
set_option maxRecDepth 20000 in
theorem dX10_frailest_46 : decode cX10_frailest 46 = .ok (.iload_n 2, 1) := by decide +kernel
set_option maxRecDepth 20000 in
theorem dX10_frailest_47 : decode cX10_frailest 47 = .ok (.istore_n 2, 1) := by decide +kernel
set_option maxRecDepth 20000 in
theorem dX10_frailest_48 : decode cX10_frailest 48 = .ok (.aload_n 0, 1) := by decide +kernel
set_option maxRecDepth 20000 in
theorem dX10_frailest_49 : decode cX10_frailest 49 = .ok (.iload 4, 2) := by decide +kernel
set_option maxRecDepth 20000 in
theorem dX10_frailest_51 : decode cX10_frailest 51 = .ok (.aload_n 0, 1) := by decide +kernel
set_option maxRecDepth 20000 in
theorem dX10_frailest_52 : decode cX10_frailest 52 = .ok (.getfield 190, 3) := by decide +kernel
set_option maxRecDepth 20000 in
theorem dX10_frailest_55 : decode cX10_frailest 55 = .ok (.if_icmp .le 8, 3) := by decide +kernel
set_option maxRecDepth 20000 in
theorem dX10_frailest_58 : decode cX10_frailest 58 = .ok (.iload 4, 2) := by decide +kernel
set_option maxRecDepth 20000 in
theorem dX10_frailest_60 : decode cX10_frailest 60 = .ok (.goto 7, 3) := by decide +kernel
set_option maxRecDepth 20000 in
theorem dX10_frailest_63 : decode cX10_frailest 63 = .ok (.aload_n 0, 1) := by decide +kernel
set_option maxRecDepth 20000 in
theorem dX10_frailest_64 : decode cX10_frailest 64 = .ok (.getfield 190, 3) := by decide +kernel
set_option maxRecDepth 20000 in
theorem dX10_frailest_67 : decode cX10_frailest 67 = .ok (.putfield 190, 3) := by decide +kernel
set_option maxRecDepth 20000 in
theorem dX10_frailest_70 : decode cX10_frailest 70 = .ok (.iinc 3 1, 3) := by decide +kernel
set_option maxRecDepth 20000 in
theorem dX10_frailest_73 : decode cX10_frailest 73 = .ok (.goto (-63), 3) := by decide +kernel
set_option maxRecDepth 20000 in
theorem dX10_frailest_76 : decode cX10_frailest 76 = .ok (.iload_n 2, 1) := by decide +kernel
set_option maxRecDepth 20000 in
theorem dX10_frailest_77 : decode cX10_frailest 77 = .ok (.ireturn, 1) := by decide +kernel
set_option maxRecDepth 20000 in
theorem dX10_frail_0 : decode cX10_frail 0 = .ok (.aload_n 0, 1) := by decide +kernel
set_option maxRecDepth 20000 in
theorem dX10_frail_1 : decode cX10_frail 1 = .ok (.getfield 80, 3) := by decide +kernel
set_option maxRecDepth 20000 in
theorem dX10_frail_4 : decode cX10_frail 4 = .ok (.ifCond .ne 6, 3) := by decide +kernel
set_option maxRecDepth 20000 in
theorem dX10_frail_7 : decode cX10_frail 7 = .ok (.bipush (-3), 2) := by decide +kernel
set_option maxRecDepth 20000 in
theorem dX10_frail_9 : decode cX10_frail 9 = .ok (.ireturn, 1) := by decide +kernel
set_option maxRecDepth 20000 in
theorem dX10_frail_10 : decode cX10_frail 10 = .ok (.iload_n 1, 1) := by decide +kernel
set_option maxRecDepth 20000 in
theorem dX10_frail_11 : decode cX10_frail 11 = .ok (.i2l, 1) := by decide +kernel
set_option maxRecDepth 20000 in
theorem dX10_frail_12 : decode cX10_frail 12 = .ok (.lconst 0, 1) := by decide +kernel
set_option maxRecDepth 20000 in
theorem dX10_frail_13 : decode cX10_frail 13 = .ok (.aload_n 0, 1) := by decide +kernel
set_option maxRecDepth 20000 in
theorem dX10_frail_14 : decode cX10_frail 14 = .ok (.getfield 80, 3) := by decide +kernel
set_option maxRecDepth 20000 in
theorem dX10_frail_17 : decode cX10_frail 17 = .ok (.i2l, 1) := by decide +kernel
set_option maxRecDepth 20000 in
theorem dX10_frail_18 : decode cX10_frail 18 = .ok (.invokestatic 83, 3) := by decide +kernel
set_option maxRecDepth 20000 in
theorem dX10_frail_21 : decode cX10_frail 21 = .ok (.ifCond .eq 13, 3) := by decide +kernel
set_option maxRecDepth 20000 in
theorem dX10_frail_24 : decode cX10_frail 24 = .ok (.iload_n 2, 1) := by decide +kernel
set_option maxRecDepth 20000 in
theorem dX10_frail_25 : decode cX10_frail 25 = .ok (.i2l, 1) := by decide +kernel
set_option maxRecDepth 20000 in
theorem dX10_frail_26 : decode cX10_frail 26 = .ok (.lconst 0, 1) := by decide +kernel
set_option maxRecDepth 20000 in
theorem dX10_frail_27 : decode cX10_frail 27 = .ok (.lconst 1, 1) := by decide +kernel
set_option maxRecDepth 20000 in
theorem dX10_frail_28 : decode cX10_frail 28 = .ok (.invokestatic 83, 3) := by decide +kernel
set_option maxRecDepth 20000 in
theorem dX10_frail_31 : decode cX10_frail 31 = .ok (.ifCond .ne 6, 3) := by decide +kernel
set_option maxRecDepth 20000 in
theorem dX10_frail_34 : decode cX10_frail 34 = .ok (.bipush (-2), 2) := by decide +kernel
set_option maxRecDepth 20000 in
theorem dX10_frail_36 : decode cX10_frail 36 = .ok (.ireturn, 1) := by decide +kernel
set_option maxRecDepth 20000 in
theorem dX10_frail_37 : decode cX10_frail 37 = .ok (.aload_n 0, 1) := by decide +kernel
set_option maxRecDepth 20000 in
theorem dX10_frail_38 : decode cX10_frail 38 = .ok (.iload_n 1, 1) := by decide +kernel
set_option maxRecDepth 20000 in
theorem dX10_frail_39 : decode cX10_frail 39 = .ok (.invokevirtual 199, 3) := by decide +kernel
set_option maxRecDepth 20000 in
theorem dX10_frail_42 : decode cX10_frail 42 = .ok (.istore_n 3, 1) := by decide +kernel
set_option maxRecDepth 20000 in
theorem dX10_frail_43 : decode cX10_frail 43 = .ok (.iload_n 2, 1) := by decide +kernel
set_option maxRecDepth 20000 in
theorem dX10_frail_44 : decode cX10_frail 44 = .ok (.ifCond .ne 7, 3) := by decide +kernel
set_option maxRecDepth 20000 in
theorem dX10_frail_47 : decode cX10_frail 47 = .ok (.iload_n 3, 1) := by decide +kernel
set_option maxRecDepth 20000 in
theorem dX10_frail_48 : decode cX10_frail 48 = .ok (.goto 7, 3) := by decide +kernel
set_option maxRecDepth 20000 in
theorem dX10_frail_51 : decode cX10_frail 51 = .ok (.aload_n 0, 1) := by decide +kernel
set_option maxRecDepth 20000 in
theorem dX10_frail_52 : decode cX10_frail 52 = .ok (.getfield 190, 3) := by decide +kernel
set_option maxRecDepth 20000 in
theorem dX10_frail_55 : decode cX10_frail 55 = .ok (.ireturn, 1) := by decide +kernel
set_option maxRecDepth 20000 in
theorem dX10_plot_0 : decode cX10_plot 0 = .ok (.aload_n 0, 1) := by decide +kernel
set_option maxRecDepth 20000 in
theorem dX10_plot_1 : decode cX10_plot 1 = .ok (.iload_n 1, 1) := by decide +kernel
set_option maxRecDepth 20000 in
theorem dX10_plot_2 : decode cX10_plot 2 = .ok (.invokevirtual 140, 3) := by decide +kernel
set_option maxRecDepth 20000 in
theorem dX10_plot_5 : decode cX10_plot 5 = .ok (.ifCond .eq 5, 3) := by decide +kernel
set_option maxRecDepth 20000 in
theorem dX10_plot_8 : decode cX10_plot 8 = .ok (.iconst (-1), 1) := by decide +kernel
set_option maxRecDepth 20000 in
theorem dX10_plot_9 : decode cX10_plot 9 = .ok (.ireturn, 1) := by decide +kernel
set_option maxRecDepth 20000 in
theorem dX10_plot_10 : decode cX10_plot 10 = .ok (.bipush (-9), 2) := by decide +kernel
set_option maxRecDepth 20000 in
theorem dX10_plot_12 : decode cX10_plot 12 = .ok (.istore_n 2, 1) := by decide +kernel
set_option maxRecDepth 20000 in
theorem dX10_plot_13 : decode cX10_plot 13 = .ok (.iconst 0, 1) := by decide +kernel
set_option maxRecDepth 20000 in
theorem dX10_plot_14 : decode cX10_plot 14 = .ok (.istore_n 3, 1) := by decide +kernel
set_option maxRecDepth 20000 in
theorem dX10_plot_15 : decode cX10_plot 15 = .ok (.iload_n 3, 1) := by decide +kernel
set_option maxRecDepth 20000 in
theorem dX10_plot_16 : decode cX10_plot 16 = .ok (.aload_n 0, 1) := by decide +kernel
set_option maxRecDepth 20000 in
theorem dX10_plot_17 : decode cX10_plot 17 = .ok (.invokevirtual 193, 3) := by decide +kernel
set_option maxRecDepth 20000 in
theorem dX10_plot_20 : decode cX10_plot 20 = .ok (.if_icmp .gt 44, 3) := by decide +kernel
set_option maxRecDepth 20000 in
theorem dX10_plot_23 : decode cX10_plot 23 = .ok (.iload_n 2, 1) := by decide +kernel
set_option maxRecDepth 20000 in
theorem dX10_plot_24 : decode cX10_plot 24 = .ok (.ifCond .lt 14, 3) := by decide +kernel
set_option maxRecDepth 20000 in
theorem dX10_plot_27 : decode cX10_plot 27 = .ok (.iload_n 3, 1) := by decide +kernel
set_option maxRecDepth 20000 in
theorem dX10_plot_28 : decode cX10_plot 28 = .ok (.invokestatic 187, 3) := by decide +kernel
set_option maxRecDepth 20000 in
theorem dX10_plot_31 : decode cX10_plot 31 = .ok (.iload_n 2, 1) := by decide +kernel
set_option maxRecDepth 20000 in
theorem dX10_plot_32 : decode cX10_plot 32 = .ok (.invokestatic 187, 3) := by decide +kernel
set_option maxRecDepth 20000 in
theorem dX10_plot_35 : decode cX10_plot 35 = .ok (.if_icmp .ge 23, 3) := by decide +kernel
set_option maxRecDepth 20000 in
theorem dX10_plot_38 : decode cX10_plot 38 = .ok (.aload_n 0, 1) := by decide +kernel
set_option maxRecDepth 20000 in
theorem dX10_plot_39 : decode cX10_plot 39 = .ok (.iload_n 3, 1) := by decide +kernel
set_option maxRecDepth 20000 in
theorem dX10_plot_40 : decode cX10_plot 40 = .ok (.invokevirtual 184, 3) := by decide +kernel
set_option maxRecDepth 20000 in
theorem dX10_plot_43 : decode cX10_plot 43 = .ok (.aload_n 0, 1) := by decide +kernel
set_option maxRecDepth 20000 in
theorem dX10_plot_44 : decode cX10_plot 44 = .ok (.getfield 43, 3) := by decide +kernel
set_option maxRecDepth 20000 in
theorem dX10_plot_47 : decode cX10_plot 47 = .ok (.iload_n 1, 1) := by decide +kernel
set_option maxRecDepth 20000 in
theorem dX10_plot_48 : decode cX10_plot 48 = .ok (.iaload, 1) := by decide +kernel
set_option maxRecDepth 20000 in
theorem dX10_plot_49 : decode cX10_plot 49 = .ok (.ifCond .ge 7, 3) := by decide +kernel
set_option maxRecDepth 20000 in
theorem dX10_plot_52 : decode cX10_plot 52 = .ok (.iload_n 3, 1) := by decide +kernel
set_option maxRecDepth 20000 in
theorem dX10_plot_53 : decode cX10_plot 53 = .ok (.goto 4, 3) := by decide +kernel
set_option maxRecDepth 20000 in
theorem dX10_plot_56 : decode cX10_plot 56 = .ok (.iload_n 2, 1) := by decide +kernel
set_option maxRecDepth 20000 in
theorem dX10_plot_57 : decode cX10_plot 57 = .ok (.istore_n 2, 1) := by decide +kernel
set_option maxRecDepth 20000 in
theorem dX10_plot_58 : decode cX10_plot 58 = .ok (.iinc 3 1, 3) := by decide +kernel
set_option maxRecDepth 20000 in
theorem dX10_plot_61 : decode cX10_plot 61 = .ok (.goto (-46), 3) := by decide +kernel
set_option maxRecDepth 20000 in
theorem dX10_plot_64 : decode cX10_plot 64 = .ok (.iload_n 2, 1) := by decide +kernel
set_option maxRecDepth 20000 in
theorem dX10_plot_65 : decode cX10_plot 65 = .ok (.ireturn, 1) := by decide +kernel
set_option maxRecDepth 20000 in
theorem dX10_mend_0 : decode cX10_mend 0 = .ok (.iload_n 1, 1) := by decide +kernel
set_option maxRecDepth 20000 in
theorem dX10_mend_1 : decode cX10_mend 1 = .ok (.i2l, 1) := by decide +kernel
set_option maxRecDepth 20000 in
theorem dX10_mend_2 : decode cX10_mend 2 = .ok (.lconst 0, 1) := by decide +kernel
set_option maxRecDepth 20000 in
theorem dX10_mend_3 : decode cX10_mend 3 = .ok (.lconst 1, 1) := by decide +kernel
set_option maxRecDepth 20000 in
theorem dX10_mend_4 : decode cX10_mend 4 = .ok (.invokestatic 83, 3) := by decide +kernel
set_option maxRecDepth 20000 in
theorem dX10_mend_7 : decode cX10_mend 7 = .ok (.ifCond .ne 6, 3) := by decide +kernel
set_option maxRecDepth 20000 in
theorem dX10_mend_10 : decode cX10_mend 10 = .ok (.bipush (-2), 2) := by decide +kernel
set_option maxRecDepth 20000 in
theorem dX10_mend_12 : decode cX10_mend 12 = .ok (.ireturn, 1) := by decide +kernel
set_option maxRecDepth 20000 in
theorem dX10_mend_13 : decode cX10_mend 13 = .ok (.aload_n 0, 1) := by decide +kernel
set_option maxRecDepth 20000 in
theorem dX10_mend_14 : decode cX10_mend 14 = .ok (.getfield 80, 3) := by decide +kernel
set_option maxRecDepth 20000 in
theorem dX10_mend_17 : decode cX10_mend 17 = .ok (.ifCond .ne 6, 3) := by decide +kernel
set_option maxRecDepth 20000 in
theorem dX10_mend_20 : decode cX10_mend 20 = .ok (.bipush (-3), 2) := by decide +kernel
set_option maxRecDepth 20000 in
theorem dX10_mend_22 : decode cX10_mend 22 = .ok (.ireturn, 1) := by decide +kernel
set_option maxRecDepth 20000 in
theorem dX10_mend_23 : decode cX10_mend 23 = .ok (.aload_n 0, 1) := by decide +kernel
set_option maxRecDepth 20000 in
theorem dX10_mend_24 : decode cX10_mend 24 = .ok (.iconst 2, 1) := by decide +kernel
set_option maxRecDepth 20000 in
theorem dX10_mend_25 : decode cX10_mend 25 = .ok (.invokevirtual 199, 3) := by decide +kernel
set_option maxRecDepth 20000 in
theorem dX10_mend_28 : decode cX10_mend 28 = .ok (.pop, 1) := by decide +kernel
set_option maxRecDepth 20000 in
theorem dX10_mend_29 : decode cX10_mend 29 = .ok (.aload_n 0, 1) := by decide +kernel
set_option maxRecDepth 20000 in
theorem dX10_mend_30 : decode cX10_mend 30 = .ok (.getfield 190, 3) := by decide +kernel
set_option maxRecDepth 20000 in
theorem dX10_mend_33 : decode cX10_mend 33 = .ok (.istore_n 2, 1) := by decide +kernel
set_option maxRecDepth 20000 in
theorem dX10_mend_34 : decode cX10_mend 34 = .ok (.bipush (-9), 2) := by decide +kernel
set_option maxRecDepth 20000 in
theorem dX10_mend_36 : decode cX10_mend 36 = .ok (.istore_n 3, 1) := by decide +kernel
set_option maxRecDepth 20000 in
theorem dX10_mend_37 : decode cX10_mend 37 = .ok (.iconst 0, 1) := by decide +kernel
set_option maxRecDepth 20000 in
theorem dX10_mend_38 : decode cX10_mend 38 = .ok (.istore 4, 2) := by decide +kernel
set_option maxRecDepth 20000 in
theorem dX10_mend_40 : decode cX10_mend 40 = .ok (.iload 4, 2) := by decide +kernel
set_option maxRecDepth 20000 in
theorem dX10_mend_42 : decode cX10_mend 42 = .ok (.aload_n 0, 1) := by decide +kernel
set_option maxRecDepth 20000 in
theorem dX10_mend_43 : decode cX10_mend 43 = .ok (.getfield 80, 3) := by decide +kernel
set_option maxRecDepth 20000 in
theorem dX10_mend_46 : decode cX10_mend 46 = .ok (.if_icmp .ge 112, 3) := by decide +kernel
set_option maxRecDepth 20000 in
theorem dX10_mend_49 : decode cX10_mend 49 = .ok (.aload_n 0, 1) := by decide +kernel
set_option maxRecDepth 20000 in
theorem dX10_mend_50 : decode cX10_mend 50 = .ok (.getfield 13, 3) := by decide +kernel
set_option maxRecDepth 20000 in
theorem dX10_mend_53 : decode cX10_mend 53 = .ok (.iload 4, 2) := by decide +kernel
set_option maxRecDepth 20000 in
theorem dX10_mend_55 : decode cX10_mend 55 = .ok (.iaload, 1) := by decide +kernel
set_option maxRecDepth 20000 in
theorem dX10_mend_56 : decode cX10_mend 56 = .ok (.istore 5, 2) := by decide +kernel
set_option maxRecDepth 20000 in
theorem dX10_mend_58 : decode cX10_mend 58 = .ok (.iconst 0, 1) := by decide +kernel
set_option maxRecDepth 20000 in
theorem dX10_mend_59 : decode cX10_mend 59 = .ok (.istore 6, 2) := by decide +kernel
set_option maxRecDepth 20000 in
theorem dX10_mend_61 : decode cX10_mend 61 = .ok (.iload 6, 2) := by decide +kernel
set_option maxRecDepth 20000 in
theorem dX10_mend_63 : decode cX10_mend 63 = .ok (.aload_n 0, 1) := by decide +kernel
set_option maxRecDepth 20000 in
theorem dX10_mend_64 : decode cX10_mend 64 = .ok (.getfield 80, 3) := by decide +kernel
set_option maxRecDepth 20000 in
theorem dX10_mend_67 : decode cX10_mend 67 = .ok (.if_icmp .ge 76, 3) := by decide +kernel
set_option maxRecDepth 20000 in
theorem dX10_mend_70 : decode cX10_mend 70 = .ok (.iload 6, 2) := by decide +kernel
set_option maxRecDepth 20000 in
theorem dX10_mend_72 : decode cX10_mend 72 = .ok (.iload 4, 2) := by decide +kernel
set_option maxRecDepth 20000 in
theorem dX10_mend_74 : decode cX10_mend 74 = .ok (.if_icmp .eq 63, 3) := by decide +kernel
set_option maxRecDepth 20000 in
theorem dX10_mend_77 : decode cX10_mend 77 = .ok (.iload 6, 2) := by decide +kernel
set_option maxRecDepth 20000 in
theorem dX10_mend_79 : decode cX10_mend 79 = .ok (.iload 5, 2) := by decide +kernel
set_option maxRecDepth 20000 in
theorem dX10_mend_81 : decode cX10_mend 81 = .ok (.if_icmp .eq 56, 3) := by decide +kernel
set_option maxRecDepth 20000 in
theorem dX10_mend_84 : decode cX10_mend 84 = .ok (.aload_n 0, 1) := by decide +kernel
set_option maxRecDepth 20000 in
theorem dX10_mend_85 : decode cX10_mend 85 = .ok (.getfield 13, 3) := by decide +kernel
set_option maxRecDepth 20000 in
theorem dX10_mend_88 : decode cX10_mend 88 = .ok (.iload 4, 2) := by decide +kernel
set_option maxRecDepth 20000 in
theorem dX10_mend_90 : decode cX10_mend 90 = .ok (.iload 6, 2) := by decide +kernel
set_option maxRecDepth 20000 in
theorem dX10_mend_92 : decode cX10_mend 92 = .ok (.iastore, 1) := by decide +kernel
set_option maxRecDepth 20000 in
theorem dX10_mend_93 : decode cX10_mend 93 = .ok (.aload_n 0, 1) := by decide +kernel
set_option maxRecDepth 20000 in
theorem dX10_mend_94 : decode cX10_mend 94 = .ok (.iconst 2, 1) := by decide +kernel
set_option maxRecDepth 20000 in
theorem dX10_mend_95 : decode cX10_mend 95 = .ok (.invokevirtual 199, 3) := by decide +kernel
set_option maxRecDepth 20000 in
theorem dX10_mend_98 : decode cX10_mend 98 = .ok (.pop, 1) := by decide +kernel
set_option maxRecDepth 20000 in
theorem dX10_mend_99 : decode cX10_mend 99 = .ok (.aload_n 0, 1) := by decide +kernel
set_option maxRecDepth 20000 in
theorem dX10_mend_100 : decode cX10_mend 100 = .ok (.getfield 190, 3) := by decide +kernel
set_option maxRecDepth 20000 in
theorem dX10_mend_103 : decode cX10_mend 103 = .ok (.iload_n 2, 1) := by decide +kernel
set_option maxRecDepth 20000 in
theorem dX10_mend_104 : decode cX10_mend 104 = .ok (.if_icmp .ge 14, 3) := by decide +kernel
set_option maxRecDepth 20000 in
theorem dX10_mend_107 : decode cX10_mend 107 = .ok (.bipush 10, 2) := by decide +kernel
set_option maxRecDepth 20000 in
theorem dX10_mend_109 : decode cX10_mend 109 = .ok (.iload 4, 2) := by decide +kernel
set_option maxRecDepth 20000 in
theorem dX10_mend_111 : decode cX10_mend 111 = .ok (.imul, 1) := by decide +kernel
set_option maxRecDepth 20000 in
theorem dX10_mend_112 : decode cX10_mend 112 = .ok (.iload 6, 2) := by decide +kernel
set_option maxRecDepth 20000 in
theorem dX10_mend_114 : decode cX10_mend 114 = .ok (.iadd, 1) := by decide +kernel
set_option maxRecDepth 20000 in
theorem dX10_mend_115 : decode cX10_mend 115 = .ok (.goto 4, 3) := by decide +kernel
set_option maxRecDepth 20000 in
theorem dX10_mend_118 : decode cX10_mend 118 = .ok (.iload_n 3, 1) := by decide +kernel
set_option maxRecDepth 20000 in
theorem dX10_mend_119 : decode cX10_mend 119 = .ok (.istore_n 3, 1) := by decide +kernel
set_option maxRecDepth 20000 in
theorem dX10_mend_120 : decode cX10_mend 120 = .ok (.aload_n 0, 1) := by decide +kernel
set_option maxRecDepth 20000 in
theorem dX10_mend_121 : decode cX10_mend 121 = .ok (.getfield 190, 3) := by decide +kernel
set_option maxRecDepth 20000 in
theorem dX10_mend_124 : decode cX10_mend 124 = .ok (.iload_n 2, 1) := by decide +kernel
set_option maxRecDepth 20000 in
theorem dX10_mend_125 : decode cX10_mend 125 = .ok (.if_icmp .ge 10, 3) := by decide +kernel
set_option maxRecDepth 20000 in
theorem dX10_mend_128 : decode cX10_mend 128 = .ok (.aload_n 0, 1) := by decide +kernel
set_option maxRecDepth 20000 in
theorem dX10_mend_129 : decode cX10_mend 129 = .ok (.getfield 190, 3) := by decide +kernel
set_option maxRecDepth 20000 in
theorem dX10_mend_132 : decode cX10_mend 132 = .ok (.goto 4, 3) := by decide +kernel
set_option maxRecDepth 20000 in
theorem dX10_mend_135 : decode cX10_mend 135 = .ok (.iload_n 2, 1) := by decide +kernel
set_option maxRecDepth 20000 in
theorem dX10_mend_136 : decode cX10_mend 136 = .ok (.istore_n 2, 1) := by decide +kernel
set_option maxRecDepth 20000 in
theorem dX10_mend_137 : decode cX10_mend 137 = .ok (.iinc 6 1, 3) := by decide +kernel
set_option maxRecDepth 20000 in
theorem dX10_mend_140 : decode cX10_mend 140 = .ok (.goto (-79), 3) := by decide +kernel
set_option maxRecDepth 20000 in
theorem dX10_mend_143 : decode cX10_mend 143 = .ok (.aload_n 0, 1) := by decide +kernel
set_option maxRecDepth 20000 in
theorem dX10_mend_144 : decode cX10_mend 144 = .ok (.getfield 13, 3) := by decide +kernel
set_option maxRecDepth 20000 in
theorem dX10_mend_147 : decode cX10_mend 147 = .ok (.iload 4, 2) := by decide +kernel
set_option maxRecDepth 20000 in
theorem dX10_mend_149 : decode cX10_mend 149 = .ok (.iload 5, 2) := by decide +kernel
set_option maxRecDepth 20000 in
theorem dX10_mend_151 : decode cX10_mend 151 = .ok (.iastore, 1) := by decide +kernel
set_option maxRecDepth 20000 in
theorem dX10_mend_152 : decode cX10_mend 152 = .ok (.iinc 4 1, 3) := by decide +kernel
set_option maxRecDepth 20000 in
theorem dX10_mend_155 : decode cX10_mend 155 = .ok (.goto (-115), 3) := by decide +kernel
set_option maxRecDepth 20000 in
theorem dX10_mend_158 : decode cX10_mend 158 = .ok (.iload_n 1, 1) := by decide +kernel
set_option maxRecDepth 20000 in
theorem dX10_mend_159 : decode cX10_mend 159 = .ok (.ifCond .ne 7, 3) := by decide +kernel
set_option maxRecDepth 20000 in
theorem dX10_mend_162 : decode cX10_mend 162 = .ok (.iload_n 3, 1) := by decide +kernel
set_option maxRecDepth 20000 in
theorem dX10_mend_163 : decode cX10_mend 163 = .ok (.goto 4, 3) := by decide +kernel
set_option maxRecDepth 20000 in
theorem dX10_mend_166 : decode cX10_mend 166 = .ok (.iload_n 2, 1) := by decide +kernel
set_option maxRecDepth 20000 in
theorem dX10_mend_167 : decode cX10_mend 167 = .ok (.ireturn, 1) := by decide +kernel
set_option maxRecDepth 20000 in
theorem dX10_wave_0 : decode cX10_wave 0 = .ok (.aload_n 0, 1) := by decide +kernel
set_option maxRecDepth 20000 in
theorem dX10_wave_1 : decode cX10_wave 1 = .ok (.iload_n 1, 1) := by decide +kernel
set_option maxRecDepth 20000 in
theorem dX10_wave_2 : decode cX10_wave 2 = .ok (.invokevirtual 140, 3) := by decide +kernel
set_option maxRecDepth 20000 in
theorem dX10_wave_5 : decode cX10_wave 5 = .ok (.ifCond .eq 5, 3) := by decide +kernel
set_option maxRecDepth 20000 in
theorem dX10_wave_8 : decode cX10_wave 8 = .ok (.iconst (-1), 1) := by decide +kernel
set_option maxRecDepth 20000 in
theorem dX10_wave_9 : decode cX10_wave 9 = .ok (.ireturn, 1) := by decide +kernel
set_option maxRecDepth 20000 in
theorem dX10_wave_10 : decode cX10_wave 10 = .ok (.aload_n 0, 1) := by decide +kernel
set_option maxRecDepth 20000 in
theorem dX10_wave_11 : decode cX10_wave 11 = .ok (.iconst 0, 1) := by decide +kernel
set_option maxRecDepth 20000 in
theorem dX10_wave_12 : decode cX10_wave 12 = .ok (.invokevirtual 164, 3) := by decide +kernel
set_option maxRecDepth 20000 in
theorem dX10_wave_15 : decode cX10_wave 15 = .ok (.istore_n 2, 1) := by decide +kernel
set_option maxRecDepth 20000 in
theorem dX10_wave_16 : decode cX10_wave 16 = .ok (.aload_n 0, 1) := by decide +kernel
set_option maxRecDepth 20000 in
theorem dX10_wave_17 : decode cX10_wave 17 = .ok (.iload_n 2, 1) := by decide +kernel
set_option maxRecDepth 20000 in
theorem dX10_wave_18 : decode cX10_wave 18 = .ok (.invokevirtual 184, 3) := by decide +kernel
set_option maxRecDepth 20000 in
theorem dX10_wave_21 : decode cX10_wave 21 = .ok (.aload_n 0, 1) := by decide +kernel
set_option maxRecDepth 20000 in
theorem dX10_wave_22 : decode cX10_wave 22 = .ok (.invokevirtual 181, 3) := by decide +kernel
set_option maxRecDepth 20000 in
theorem dX10_wave_25 : decode cX10_wave 25 = .ok (.istore_n 3, 1) := by decide +kernel
set_option maxRecDepth 20000 in
theorem dX10_wave_26 : decode cX10_wave 26 = .ok (.aload_n 0, 1) := by decide +kernel
set_option maxRecDepth 20000 in
theorem dX10_wave_27 : decode cX10_wave 27 = .ok (.iload_n 2, 1) := by decide +kernel
set_option maxRecDepth 20000 in
theorem dX10_wave_28 : decode cX10_wave 28 = .ok (.iconst 1, 1) := by decide +kernel
set_option maxRecDepth 20000 in
theorem dX10_wave_29 : decode cX10_wave 29 = .ok (.iload_n 1, 1) := by decide +kernel
set_option maxRecDepth 20000 in
theorem dX10_wave_30 : decode cX10_wave 30 = .ok (.ishl, 1) := by decide +kernel
set_option maxRecDepth 20000 in
theorem dX10_wave_31 : decode cX10_wave 31 = .ok (.ior, 1) := by decide +kernel
set_option maxRecDepth 20000 in
theorem dX10_wave_32 : decode cX10_wave 32 = .ok (.invokevirtual 184, 3) := by decide +kernel
set_option maxRecDepth 20000 in
theorem dX10_wave_35 : decode cX10_wave 35 = .ok (.iload_n 3, 1) := by decide +kernel
set_option maxRecDepth 20000 in
theorem dX10_wave_36 : decode cX10_wave 36 = .ok (.aload_n 0, 1) := by decide +kernel
set_option maxRecDepth 20000 in
theorem dX10_wave_37 : decode cX10_wave 37 = .ok (.invokevirtual 181, 3) := by decide +kernel
set_option maxRecDepth 20000 in
theorem dX10_wave_40 : decode cX10_wave 40 = .ok (.isub, 1) := by decide +kernel
set_option maxRecDepth 20000 in
theorem dX10_wave_41 : decode cX10_wave 41 = .ok (.sipush 1000, 3) := by decide +kernel
set_option maxRecDepth 20000 in
theorem dX10_wave_44 : decode cX10_wave 44 = .ok (.iadd, 1) := by decide +kernel
set_option maxRecDepth 20000 in
theorem dX10_wave_45 : decode cX10_wave 45 = .ok (.ireturn, 1) := by decide +kernel
set_option maxRecDepth 20000 in
theorem dX10_roster_0 : decode cX10_roster 0 = .ok (.iload_n 1, 1) := by decide +kernel
set_option maxRecDepth 20000 in
theorem dX10_roster_1 : decode cX10_roster 1 = .ok (.invokestatic 115, 3) := by decide +kernel
set_option maxRecDepth 20000 in
theorem dX10_roster_4 : decode cX10_roster 4 = .ok (.ifCond .eq 9, 3) := by decide +kernel
set_option maxRecDepth 20000 in
theorem dX10_roster_7 : decode cX10_roster 7 = .ok (.aload_n 0, 1) := by decide +kernel
set_option maxRecDepth 20000 in
theorem dX10_roster_8 : decode cX10_roster 8 = .ok (.iconst (-1), 1) := by decide +kernel
set_option maxRecDepth 20000 in
theorem dX10_roster_9 : decode cX10_roster 9 = .ok (.invokevirtual 119, 3) := by decide +kernel
set_option maxRecDepth 20000 in
theorem dX10_roster_12 : decode cX10_roster 12 = .ok (.ireturn, 1) := by decide +kernel
set_option maxRecDepth 20000 in
theorem dX10_roster_13 : decode cX10_roster 13 = .ok (.iload_n 2, 1) := by decide +kernel
set_option maxRecDepth 20000 in
theorem dX10_roster_14 : decode cX10_roster 14 = .ok (.i2l, 1) := by decide +kernel
set_option maxRecDepth 20000 in
theorem dX10_roster_15 : decode cX10_roster 15 = .ok (.lconst 0, 1) := by decide +kernel
set_option maxRecDepth 20000 in
theorem dX10_roster_16 : decode cX10_roster 16 = .ok (.ldc2_w 122, 3) := by decide +kernel
set_option maxRecDepth 20000 in
theorem dX10_roster_19 : decode cX10_roster 19 = .ok (.invokestatic 83, 3) := by decide +kernel
set_option maxRecDepth 20000 in
theorem dX10_roster_22 : decode cX10_roster 22 = .ok (.ifCond .ne 10, 3) := by decide +kernel
set_option maxRecDepth 20000 in
theorem dX10_roster_25 : decode cX10_roster 25 = .ok (.aload_n 0, 1) := by decide +kernel
set_option maxRecDepth 20000 in
theorem dX10_roster_26 : decode cX10_roster 26 = .ok (.bipush (-2), 2) := by decide +kernel
set_option maxRecDepth 20000 in
theorem dX10_roster_28 : decode cX10_roster 28 = .ok (.invokevirtual 119, 3) := by decide +kernel
set_option maxRecDepth 20000 in
theorem dX10_roster_31 : decode cX10_roster 31 = .ok (.ireturn, 1) := by decide +kernel
set_option maxRecDepth 20000 in
theorem dX10_roster_32 : decode cX10_roster 32 = .ok (.aload_n 0, 1) := by decide +kernel
set_option maxRecDepth 20000 in
theorem dX10_roster_33 : decode cX10_roster 33 = .ok (.getfield 80, 3) := by decide +kernel
set_option maxRecDepth 20000 in
theorem dX10_roster_36 : decode cX10_roster 36 = .ok (.ifCond .ne 10, 3) := by decide +kernel
set_option maxRecDepth 20000 in
theorem dX10_roster_39 : decode cX10_roster 39 = .ok (.aload_n 0, 1) := by decide +kernel
set_option maxRecDepth 20000 in
theorem dX10_roster_40 : decode cX10_roster 40 = .ok (.bipush (-3), 2) := by decide +kernel
set_option maxRecDepth 20000 in
theorem dX10_roster_42 : decode cX10_roster 42 = .ok (.invokevirtual 119, 3) := by decide +kernel
set_option maxRecDepth 20000 in
theorem dX10_roster_45 : decode cX10_roster 45 = .ok (.ireturn, 1) := by decide +kernel
set_option maxRecDepth 20000 in
theorem dX10_roster_46 : decode cX10_roster 46 = .ok (.aload_n 0, 1) := by decide +kernel
set_option maxRecDepth 20000 in
theorem dX10_roster_47 : decode cX10_roster 47 = .ok (.iload_n 1, 1) := by decide +kernel
set_option maxRecDepth 20000 in
theorem dX10_roster_48 : decode cX10_roster 48 = .ok (.iload_n 2, 1) := by decide +kernel
set_option maxRecDepth 20000 in
theorem dX10_roster_49 : decode cX10_roster 49 = .ok (.iload_n 3, 1) := by decide +kernel
set_option maxRecDepth 20000 in
theorem dX10_roster_50 : decode cX10_roster 50 = .ok (.iload 4, 2) := by decide +kernel
set_option maxRecDepth 20000 in
theorem dX10_roster_52 : decode cX10_roster 52 = .ok (.i2l, 1) := by decide +kernel
set_option maxRecDepth 20000 in
theorem dX10_roster_53 : decode cX10_roster 53 = .ok (.invokevirtual 124, 3) := by decide +kernel
set_option maxRecDepth 20000 in
theorem dX10_roster_56 : decode cX10_roster 56 = .ok (.istore 5, 2) := by decide +kernel
set_option maxRecDepth 20000 in
theorem dX10_roster_58 : decode cX10_roster 58 = .ok (.iload 5, 2) := by decide +kernel
set_option maxRecDepth 20000 in
theorem dX10_roster_60 : decode cX10_roster 60 = .ok (.ifCond .ge 6, 3) := by decide +kernel
set_option maxRecDepth 20000 in
theorem dX10_roster_63 : decode cX10_roster 63 = .ok (.iload 5, 2) := by decide +kernel
set_option maxRecDepth 20000 in
theorem dX10_roster_65 : decode cX10_roster 65 = .ok (.ireturn, 1) := by decide +kernel
set_option maxRecDepth 20000 in
theorem dX10_roster_66 : decode cX10_roster 66 = .ok (.iload 4, 2) := by decide +kernel
set_option maxRecDepth 20000 in
theorem dX10_roster_68 : decode cX10_roster 68 = .ok (.aload_n 0, 1) := by decide +kernel
set_option maxRecDepth 20000 in
theorem dX10_roster_69 : decode cX10_roster 69 = .ok (.getfield 80, 3) := by decide +kernel
set_option maxRecDepth 20000 in
theorem dX10_roster_72 : decode cX10_roster 72 = .ok (.if_icmp .eq 10, 3) := by decide +kernel
set_option maxRecDepth 20000 in
theorem dX10_roster_75 : decode cX10_roster 75 = .ok (.aload_n 0, 1) := by decide +kernel
set_option maxRecDepth 20000 in
theorem dX10_roster_76 : decode cX10_roster 76 = .ok (.bipush (-2), 2) := by decide +kernel
set_option maxRecDepth 20000 in
theorem dX10_roster_78 : decode cX10_roster 78 = .ok (.invokevirtual 119, 3) := by decide +kernel
set_option maxRecDepth 20000 in
theorem dX10_roster_81 : decode cX10_roster 81 = .ok (.ireturn, 1) := by decide +kernel
set_option maxRecDepth 20000 in
theorem dX10_roster_82 : decode cX10_roster 82 = .ok (.bipush 60, 2) := by decide +kernel
set_option maxRecDepth 20000 in
theorem dX10_roster_84 : decode cX10_roster 84 = .ok (.iload_n 1, 1) := by decide +kernel
set_option maxRecDepth 20000 in
theorem dX10_roster_85 : decode cX10_roster 85 = .ok (.imul, 1) := by decide +kernel
set_option maxRecDepth 20000 in
theorem dX10_roster_86 : decode cX10_roster 86 = .ok (.iload_n 3, 1) := by decide +kernel
set_option maxRecDepth 20000 in
theorem dX10_roster_87 : decode cX10_roster 87 = .ok (.iadd, 1) := by decide +kernel
set_option maxRecDepth 20000 in
theorem dX10_roster_88 : decode cX10_roster 88 = .ok (.istore 6, 2) := by decide +kernel
set_option maxRecDepth 20000 in
theorem dX10_roster_90 : decode cX10_roster 90 = .ok (.iconst 0, 1) := by decide +kernel
set_option maxRecDepth 20000 in
theorem dX10_roster_91 : decode cX10_roster 91 = .ok (.istore 7, 2) := by decide +kernel
set_option maxRecDepth 20000 in
theorem dX10_roster_93 : decode cX10_roster 93 = .ok (.iload 7, 2) := by decide +kernel
set_option maxRecDepth 20000 in
theorem dX10_roster_95 : decode cX10_roster 95 = .ok (.iload 4, 2) := by decide +kernel
set_option maxRecDepth 20000 in
theorem dX10_roster_97 : decode cX10_roster 97 = .ok (.if_icmp .ge 47, 3) := by decide +kernel
set_option maxRecDepth 20000 in
theorem dX10_roster_100 : decode cX10_roster 100 = .ok (.aload_n 0, 1) := by decide +kernel
set_option maxRecDepth 20000 in
theorem dX10_roster_101 : decode cX10_roster 101 = .ok (.getfield 64, 3) := by decide +kernel
set_option maxRecDepth 20000 in
theorem dX10_roster_104 : decode cX10_roster 104 = .ok (.iload 6, 2) := by decide +kernel
set_option maxRecDepth 20000 in
theorem dX10_roster_106 : decode cX10_roster 106 = .ok (.iload 7, 2) := by decide +kernel
set_option maxRecDepth 20000 in
theorem dX10_roster_108 : decode cX10_roster 108 = .ok (.iadd, 1) := by decide +kernel
set_option maxRecDepth 20000 in
theorem dX10_roster_109 : decode cX10_roster 109 = .ok (.iaload, 1) := by decide +kernel
set_option maxRecDepth 20000 in
theorem dX10_roster_110 : decode cX10_roster 110 = .ok (.bipush (-9), 2) := by decide +kernel
set_option maxRecDepth 20000 in
theorem dX10_roster_112 : decode cX10_roster 112 = .ok (.if_icmp .eq 26, 3) := by decide +kernel
set_option maxRecDepth 20000 in
theorem dX10_roster_115 : decode cX10_roster 115 = .ok (.aload_n 0, 1) := by decide +kernel
set_option maxRecDepth 20000 in
theorem dX10_roster_116 : decode cX10_roster 116 = .ok (.aload_n 0, 1) := by decide +kernel
set_option maxRecDepth 20000 in
theorem dX10_roster_117 : decode cX10_roster 117 = .ok (.getfield 64, 3) := by decide +kernel
set_option maxRecDepth 20000 in
theorem dX10_roster_120 : decode cX10_roster 120 = .ok (.iload 6, 2) := by decide +kernel
set_option maxRecDepth 20000 in
theorem dX10_roster_122 : decode cX10_roster 122 = .ok (.iload 7, 2) := by decide +kernel
set_option maxRecDepth 20000 in
theorem dX10_roster_124 : decode cX10_roster 124 = .ok (.iadd, 1) := by decide +kernel
set_option maxRecDepth 20000 in
theorem dX10_roster_125 : decode cX10_roster 125 = .ok (.iaload, 1) := by decide +kernel
set_option maxRecDepth 20000 in
theorem dX10_roster_126 : decode cX10_roster 126 = .ok (.invokevirtual 140, 3) := by decide +kernel
set_option maxRecDepth 20000 in
theorem dX10_roster_129 : decode cX10_roster 129 = .ok (.ifCond .eq 9, 3) := by decide +kernel
set_option maxRecDepth 20000 in
theorem dX10_roster_132 : decode cX10_roster 132 = .ok (.aload_n 0, 1) := by decide +kernel
set_option maxRecDepth 20000 in
theorem dX10_roster_133 : decode cX10_roster 133 = .ok (.iconst (-1), 1) := by decide +kernel
set_option maxRecDepth 20000 in
theorem dX10_roster_134 : decode cX10_roster 134 = .ok (.invokevirtual 119, 3) := by decide +kernel
set_option maxRecDepth 20000 in
theorem dX10_roster_137 : decode cX10_roster 137 = .ok (.ireturn, 1) := by decide +kernel
set_option maxRecDepth 20000 in
theorem dX10_roster_138 : decode cX10_roster 138 = .ok (.iinc 7 1, 3) := by decide +kernel
end
section
set_option maxRecDepth 20000 in
theorem dX10_roster_141 : decode cX10_roster 141 = .ok (.goto (-48), 3) := by decide +kernel
set_option maxRecDepth 20000 in
theorem dX10_roster_144 : decode cX10_roster 144 = .ok (.aload_n 0, 1) := by decide +kernel
set_option maxRecDepth 20000 in
theorem dX10_roster_145 : decode cX10_roster 145 = .ok (.iconst 0, 1) := by decide +kernel
set_option maxRecDepth 20000 in
theorem dX10_roster_146 : decode cX10_roster 146 = .ok (.invokevirtual 171, 3) := by decide +kernel
set_option maxRecDepth 20000 in
theorem dX10_roster_149 : decode cX10_roster 149 = .ok (.iconst 0, 1) := by decide +kernel
set_option maxRecDepth 20000 in
theorem dX10_roster_150 : decode cX10_roster 150 = .ok (.istore 7, 2) := by decide +kernel
set_option maxRecDepth 20000 in
theorem dX10_roster_152 : decode cX10_roster 152 = .ok (.iload 7, 2) := by decide +kernel
set_option maxRecDepth 20000 in
theorem dX10_roster_154 : decode cX10_roster 154 = .ok (.iload 4, 2) := by decide +kernel
set_option maxRecDepth 20000 in
theorem dX10_roster_156 : decode cX10_roster 156 = .ok (.if_icmp .ge 36, 3) := by decide +kernel
set_option maxRecDepth 20000 in
theorem dX10_roster_159 : decode cX10_roster 159 = .ok (.aload_n 0, 1) := by decide +kernel
set_option maxRecDepth 20000 in
theorem dX10_roster_160 : decode cX10_roster 160 = .ok (.getfield 43, 3) := by decide +kernel
set_option maxRecDepth 20000 in
theorem dX10_roster_163 : decode cX10_roster 163 = .ok (.iload 7, 2) := by decide +kernel
set_option maxRecDepth 20000 in
theorem dX10_roster_165 : decode cX10_roster 165 = .ok (.iaload, 1) := by decide +kernel
set_option maxRecDepth 20000 in
theorem dX10_roster_166 : decode cX10_roster 166 = .ok (.aload_n 0, 1) := by decide +kernel
set_option maxRecDepth 20000 in
theorem dX10_roster_167 : decode cX10_roster 167 = .ok (.getfield 64, 3) := by decide +kernel
set_option maxRecDepth 20000 in
theorem dX10_roster_170 : decode cX10_roster 170 = .ok (.iload 6, 2) := by decide +kernel
set_option maxRecDepth 20000 in
theorem dX10_roster_172 : decode cX10_roster 172 = .ok (.iload 7, 2) := by decide +kernel
set_option maxRecDepth 20000 in
theorem dX10_roster_174 : decode cX10_roster 174 = .ok (.iadd, 1) := by decide +kernel
set_option maxRecDepth 20000 in
theorem dX10_roster_175 : decode cX10_roster 175 = .ok (.iaload, 1) := by decide +kernel
set_option maxRecDepth 20000 in
theorem dX10_roster_176 : decode cX10_roster 176 = .ok (.if_icmp .eq 10, 3) := by decide +kernel
set_option maxRecDepth 20000 in
theorem dX10_roster_179 : decode cX10_roster 179 = .ok (.aload_n 0, 1) := by decide +kernel
set_option maxRecDepth 20000 in
theorem dX10_roster_180 : decode cX10_roster 180 = .ok (.iload 7, 2) := by decide +kernel
set_option maxRecDepth 20000 in
theorem dX10_roster_182 : decode cX10_roster 182 = .ok (.invokevirtual 119, 3) := by decide +kernel
set_option maxRecDepth 20000 in
theorem dX10_roster_185 : decode cX10_roster 185 = .ok (.ireturn, 1) := by decide +kernel
set_option maxRecDepth 20000 in
theorem dX10_roster_186 : decode cX10_roster 186 = .ok (.iinc 7 1, 3) := by decide +kernel
set_option maxRecDepth 20000 in
theorem dX10_roster_189 : decode cX10_roster 189 = .ok (.goto (-37), 3) := by decide +kernel
set_option maxRecDepth 20000 in
theorem dX10_roster_192 : decode cX10_roster 192 = .ok (.aload_n 0, 1) := by decide +kernel
set_option maxRecDepth 20000 in
theorem dX10_roster_193 : decode cX10_roster 193 = .ok (.bipush (-9), 2) := by decide +kernel
set_option maxRecDepth 20000 in
theorem dX10_roster_195 : decode cX10_roster 195 = .ok (.invokevirtual 119, 3) := by decide +kernel
set_option maxRecDepth 20000 in
theorem dX10_roster_198 : decode cX10_roster 198 = .ok (.ireturn, 1) := by decide +kernel
set_option maxRecDepth 20000 in
theorem dX10_reading_0 : decode cX10_reading 0 = .ok (.aload_n 0, 1) := by decide +kernel
set_option maxRecDepth 20000 in
theorem dX10_reading_1 : decode cX10_reading 1 = .ok (.iload_n 1, 1) := by decide +kernel
set_option maxRecDepth 20000 in
theorem dX10_reading_2 : decode cX10_reading 2 = .ok (.invokevirtual 140, 3) := by decide +kernel
set_option maxRecDepth 20000 in
theorem dX10_reading_5 : decode cX10_reading 5 = .ok (.ifCond .ne 17, 3) := by decide +kernel
set_option maxRecDepth 20000 in
theorem dX10_reading_8 : decode cX10_reading 8 = .ok (.iload_n 2, 1) := by decide +kernel
set_option maxRecDepth 20000 in
theorem dX10_reading_9 : decode cX10_reading 9 = .ok (.bipush (-9), 2) := by decide +kernel
set_option maxRecDepth 20000 in
theorem dX10_reading_11 : decode cX10_reading 11 = .ok (.if_icmp .eq 13, 3) := by decide +kernel
set_option maxRecDepth 20000 in
theorem dX10_reading_14 : decode cX10_reading 14 = .ok (.aload_n 0, 1) := by decide +kernel
set_option maxRecDepth 20000 in
theorem dX10_reading_15 : decode cX10_reading 15 = .ok (.iload_n 2, 1) := by decide +kernel
set_option maxRecDepth 20000 in
theorem dX10_reading_16 : decode cX10_reading 16 = .ok (.invokevirtual 140, 3) := by decide +kernel
set_option maxRecDepth 20000 in
theorem dX10_reading_19 : decode cX10_reading 19 = .ok (.ifCond .eq 5, 3) := by decide +kernel
set_option maxRecDepth 20000 in
theorem dX10_reading_22 : decode cX10_reading 22 = .ok (.iconst (-1), 1) := by decide +kernel
set_option maxRecDepth 20000 in
theorem dX10_reading_23 : decode cX10_reading 23 = .ok (.ireturn, 1) := by decide +kernel
set_option maxRecDepth 20000 in
theorem dX10_reading_24 : decode cX10_reading 24 = .ok (.aload_n 0, 1) := by decide +kernel
set_option maxRecDepth 20000 in
theorem dX10_reading_25 : decode cX10_reading 25 = .ok (.getfield 137, 3) := by decide +kernel
set_option maxRecDepth 20000 in
theorem dX10_reading_28 : decode cX10_reading 28 = .ok (.bipush 8, 2) := by decide +kernel
set_option maxRecDepth 20000 in
theorem dX10_reading_30 : decode cX10_reading 30 = .ok (.if_icmp .ne 6, 3) := by decide +kernel
set_option maxRecDepth 20000 in
theorem dX10_reading_33 : decode cX10_reading 33 = .ok (.bipush (-4), 2) := by decide +kernel
set_option maxRecDepth 20000 in
theorem dX10_reading_35 : decode cX10_reading 35 = .ok (.ireturn, 1) := by decide +kernel
set_option maxRecDepth 20000 in
theorem dX10_reading_36 : decode cX10_reading 36 = .ok (.aload_n 0, 1) := by decide +kernel
set_option maxRecDepth 20000 in
theorem dX10_reading_37 : decode cX10_reading 37 = .ok (.getfield 52, 3) := by decide +kernel
set_option maxRecDepth 20000 in
theorem dX10_reading_40 : decode cX10_reading 40 = .ok (.aload_n 0, 1) := by decide +kernel
set_option maxRecDepth 20000 in
theorem dX10_reading_41 : decode cX10_reading 41 = .ok (.getfield 137, 3) := by decide +kernel
set_option maxRecDepth 20000 in
theorem dX10_reading_44 : decode cX10_reading 44 = .ok (.iload_n 1, 1) := by decide +kernel
set_option maxRecDepth 20000 in
theorem dX10_reading_45 : decode cX10_reading 45 = .ok (.iastore, 1) := by decide +kernel
set_option maxRecDepth 20000 in
theorem dX10_reading_46 : decode cX10_reading 46 = .ok (.aload_n 0, 1) := by decide +kernel
set_option maxRecDepth 20000 in
theorem dX10_reading_47 : decode cX10_reading 47 = .ok (.getfield 55, 3) := by decide +kernel
set_option maxRecDepth 20000 in
theorem dX10_reading_50 : decode cX10_reading 50 = .ok (.aload_n 0, 1) := by decide +kernel
set_option maxRecDepth 20000 in
theorem dX10_reading_51 : decode cX10_reading 51 = .ok (.getfield 137, 3) := by decide +kernel
set_option maxRecDepth 20000 in
theorem dX10_reading_54 : decode cX10_reading 54 = .ok (.iload_n 2, 1) := by decide +kernel
set_option maxRecDepth 20000 in
theorem dX10_reading_55 : decode cX10_reading 55 = .ok (.iastore, 1) := by decide +kernel
set_option maxRecDepth 20000 in
theorem dX10_reading_56 : decode cX10_reading 56 = .ok (.aload_n 0, 1) := by decide +kernel
set_option maxRecDepth 20000 in
theorem dX10_reading_57 : decode cX10_reading 57 = .ok (.dup, 1) := by decide +kernel
set_option maxRecDepth 20000 in
theorem dX10_reading_58 : decode cX10_reading 58 = .ok (.getfield 137, 3) := by decide +kernel
set_option maxRecDepth 20000 in
theorem dX10_reading_61 : decode cX10_reading 61 = .ok (.iconst 1, 1) := by decide +kernel
set_option maxRecDepth 20000 in
theorem dX10_reading_62 : decode cX10_reading 62 = .ok (.iadd, 1) := by decide +kernel
set_option maxRecDepth 20000 in
theorem dX10_reading_63 : decode cX10_reading 63 = .ok (.putfield 137, 3) := by decide +kernel
set_option maxRecDepth 20000 in
theorem dX10_reading_66 : decode cX10_reading 66 = .ok (.aload_n 0, 1) := by decide +kernel
set_option maxRecDepth 20000 in
theorem dX10_reading_67 : decode cX10_reading 67 = .ok (.getfield 137, 3) := by decide +kernel
set_option maxRecDepth 20000 in
theorem dX10_reading_70 : decode cX10_reading 70 = .ok (.iconst 1, 1) := by decide +kernel
set_option maxRecDepth 20000 in
theorem dX10_reading_71 : decode cX10_reading 71 = .ok (.isub, 1) := by decide +kernel
set_option maxRecDepth 20000 in
theorem dX10_reading_72 : decode cX10_reading 72 = .ok (.ireturn, 1) := by decide +kernel
set_option maxRecDepth 20000 in
theorem dX10_back_0 : decode cX10_back 0 = .ok (.iload_n 1, 1) := by decide +kernel
set_option maxRecDepth 20000 in
theorem dX10_back_1 : decode cX10_back 1 = .ok (.i2l, 1) := by decide +kernel
set_option maxRecDepth 20000 in
theorem dX10_back_2 : decode cX10_back 2 = .ok (.lconst 0, 1) := by decide +kernel
set_option maxRecDepth 20000 in
theorem dX10_back_3 : decode cX10_back 3 = .ok (.aload_n 0, 1) := by decide +kernel
set_option maxRecDepth 20000 in
theorem dX10_back_4 : decode cX10_back 4 = .ok (.getfield 137, 3) := by decide +kernel
set_option maxRecDepth 20000 in
theorem dX10_back_7 : decode cX10_back 7 = .ok (.i2l, 1) := by decide +kernel
set_option maxRecDepth 20000 in
theorem dX10_back_8 : decode cX10_back 8 = .ok (.invokestatic 83, 3) := by decide +kernel
set_option maxRecDepth 20000 in
theorem dX10_back_11 : decode cX10_back 11 = .ok (.ifCond .ne 6, 3) := by decide +kernel
set_option maxRecDepth 20000 in
theorem dX10_back_14 : decode cX10_back 14 = .ok (.bipush (-2), 2) := by decide +kernel
set_option maxRecDepth 20000 in
theorem dX10_back_16 : decode cX10_back 16 = .ok (.ireturn, 1) := by decide +kernel
set_option maxRecDepth 20000 in
theorem dX10_back_17 : decode cX10_back 17 = .ok (.aload_n 0, 1) := by decide +kernel
set_option maxRecDepth 20000 in
theorem dX10_back_18 : decode cX10_back 18 = .ok (.dup, 1) := by decide +kernel
set_option maxRecDepth 20000 in
theorem dX10_back_19 : decode cX10_back 19 = .ok (.getfield 137, 3) := by decide +kernel
set_option maxRecDepth 20000 in
theorem dX10_back_22 : decode cX10_back 22 = .ok (.iload_n 1, 1) := by decide +kernel
set_option maxRecDepth 20000 in
theorem dX10_back_23 : decode cX10_back 23 = .ok (.isub, 1) := by decide +kernel
set_option maxRecDepth 20000 in
theorem dX10_back_24 : decode cX10_back 24 = .ok (.putfield 137, 3) := by decide +kernel
set_option maxRecDepth 20000 in
theorem dX10_back_27 : decode cX10_back 27 = .ok (.aload_n 0, 1) := by decide +kernel
set_option maxRecDepth 20000 in
theorem dX10_back_28 : decode cX10_back 28 = .ok (.getfield 137, 3) := by decide +kernel
set_option maxRecDepth 20000 in
theorem dX10_back_31 : decode cX10_back 31 = .ok (.ireturn, 1) := by decide +kernel
set_option maxRecDepth 20000 in
theorem dX10_areSo_0 : decode cX10_areSo 0 = .ok (.aload_n 0, 1) := by decide +kernel
set_option maxRecDepth 20000 in
theorem dX10_areSo_1 : decode cX10_areSo 1 = .ok (.iload_n 1, 1) := by decide +kernel
set_option maxRecDepth 20000 in
theorem dX10_areSo_2 : decode cX10_areSo 2 = .ok (.invokevirtual 184, 3) := by decide +kernel
set_option maxRecDepth 20000 in
theorem dX10_areSo_5 : decode cX10_areSo 5 = .ok (.iconst 1, 1) := by decide +kernel
set_option maxRecDepth 20000 in
theorem dX10_areSo_6 : decode cX10_areSo 6 = .ok (.istore_n 2, 1) := by decide +kernel
set_option maxRecDepth 20000 in
theorem dX10_areSo_7 : decode cX10_areSo 7 = .ok (.iconst 0, 1) := by decide +kernel
set_option maxRecDepth 20000 in
theorem dX10_areSo_8 : decode cX10_areSo 8 = .ok (.istore_n 3, 1) := by decide +kernel
set_option maxRecDepth 20000 in
theorem dX10_areSo_9 : decode cX10_areSo 9 = .ok (.iload_n 3, 1) := by decide +kernel
set_option maxRecDepth 20000 in
theorem dX10_areSo_10 : decode cX10_areSo 10 = .ok (.aload_n 0, 1) := by decide +kernel
set_option maxRecDepth 20000 in
theorem dX10_areSo_11 : decode cX10_areSo 11 = .ok (.getfield 137, 3) := by decide +kernel
set_option maxRecDepth 20000 in
theorem dX10_areSo_14 : decode cX10_areSo 14 = .ok (.if_icmp .ge 39, 3) := by decide +kernel
set_option maxRecDepth 20000 in
theorem dX10_areSo_17 : decode cX10_areSo 17 = .ok (.iload_n 2, 1) := by decide +kernel
set_option maxRecDepth 20000 in
theorem dX10_areSo_18 : decode cX10_areSo 18 = .ok (.ifCond .eq 27, 3) := by decide +kernel
set_option maxRecDepth 20000 in
theorem dX10_areSo_21 : decode cX10_areSo 21 = .ok (.aload_n 0, 1) := by decide +kernel
set_option maxRecDepth 20000 in
theorem dX10_areSo_22 : decode cX10_areSo 22 = .ok (.getfield 43, 3) := by decide +kernel
set_option maxRecDepth 20000 in
theorem dX10_areSo_25 : decode cX10_areSo 25 = .ok (.aload_n 0, 1) := by decide +kernel
set_option maxRecDepth 20000 in
theorem dX10_areSo_26 : decode cX10_areSo 26 = .ok (.getfield 52, 3) := by decide +kernel
set_option maxRecDepth 20000 in
theorem dX10_areSo_29 : decode cX10_areSo 29 = .ok (.iload_n 3, 1) := by decide +kernel
set_option maxRecDepth 20000 in
theorem dX10_areSo_30 : decode cX10_areSo 30 = .ok (.iaload, 1) := by decide +kernel
set_option maxRecDepth 20000 in
theorem dX10_areSo_31 : decode cX10_areSo 31 = .ok (.iaload, 1) := by decide +kernel
set_option maxRecDepth 20000 in
theorem dX10_areSo_32 : decode cX10_areSo 32 = .ok (.aload_n 0, 1) := by decide +kernel
set_option maxRecDepth 20000 in
theorem dX10_areSo_33 : decode cX10_areSo 33 = .ok (.getfield 55, 3) := by decide +kernel
set_option maxRecDepth 20000 in
theorem dX10_areSo_36 : decode cX10_areSo 36 = .ok (.iload_n 3, 1) := by decide +kernel
set_option maxRecDepth 20000 in
theorem dX10_areSo_37 : decode cX10_areSo 37 = .ok (.iaload, 1) := by decide +kernel
set_option maxRecDepth 20000 in
theorem dX10_areSo_38 : decode cX10_areSo 38 = .ok (.if_icmp .ne 7, 3) := by decide +kernel
set_option maxRecDepth 20000 in
theorem dX10_areSo_41 : decode cX10_areSo 41 = .ok (.iconst 1, 1) := by decide +kernel
set_option maxRecDepth 20000 in
theorem dX10_areSo_42 : decode cX10_areSo 42 = .ok (.goto 4, 3) := by decide +kernel
set_option maxRecDepth 20000 in
theorem dX10_areSo_45 : decode cX10_areSo 45 = .ok (.iconst 0, 1) := by decide +kernel
set_option maxRecDepth 20000 in
theorem dX10_areSo_46 : decode cX10_areSo 46 = .ok (.istore_n 2, 1) := by decide +kernel
set_option maxRecDepth 20000 in
theorem dX10_areSo_47 : decode cX10_areSo 47 = .ok (.iinc 3 1, 3) := by decide +kernel
set_option maxRecDepth 20000 in
theorem dX10_areSo_50 : decode cX10_areSo 50 = .ok (.goto (-41), 3) := by decide +kernel
set_option maxRecDepth 20000 in
theorem dX10_areSo_53 : decode cX10_areSo 53 = .ok (.iload_n 2, 1) := by decide +kernel
set_option maxRecDepth 20000 in
theorem dX10_areSo_54 : decode cX10_areSo 54 = .ok (.ireturn, 1) := by decide +kernel
set_option maxRecDepth 20000 in
theorem dX10_failed_0 : decode cX10_failed 0 = .ok (.iload_n 1, 1) := by decide +kernel
set_option maxRecDepth 20000 in
theorem dX10_failed_1 : decode cX10_failed 1 = .ok (.i2l, 1) := by decide +kernel
set_option maxRecDepth 20000 in
theorem dX10_failed_2 : decode cX10_failed 2 = .ok (.lconst 0, 1) := by decide +kernel
set_option maxRecDepth 20000 in
theorem dX10_failed_3 : decode cX10_failed 3 = .ok (.ldc2_w 122, 3) := by decide +kernel
set_option maxRecDepth 20000 in
theorem dX10_failed_6 : decode cX10_failed 6 = .ok (.invokestatic 83, 3) := by decide +kernel
set_option maxRecDepth 20000 in
theorem dX10_failed_9 : decode cX10_failed 9 = .ok (.ifCond .ne 6, 3) := by decide +kernel
set_option maxRecDepth 20000 in
theorem dX10_failed_12 : decode cX10_failed 12 = .ok (.bipush (-2), 2) := by decide +kernel
set_option maxRecDepth 20000 in
theorem dX10_failed_14 : decode cX10_failed 14 = .ok (.ireturn, 1) := by decide +kernel
set_option maxRecDepth 20000 in
theorem dX10_failed_15 : decode cX10_failed 15 = .ok (.aload_n 0, 1) := by decide +kernel
set_option maxRecDepth 20000 in
theorem dX10_failed_16 : decode cX10_failed 16 = .ok (.getfield 80, 3) := by decide +kernel
set_option maxRecDepth 20000 in
theorem dX10_failed_19 : decode cX10_failed 19 = .ok (.ifCond .ne 6, 3) := by decide +kernel
set_option maxRecDepth 20000 in
theorem dX10_failed_22 : decode cX10_failed 22 = .ok (.bipush (-3), 2) := by decide +kernel
set_option maxRecDepth 20000 in
theorem dX10_failed_24 : decode cX10_failed 24 = .ok (.ireturn, 1) := by decide +kernel
set_option maxRecDepth 20000 in
theorem dX10_failed_25 : decode cX10_failed 25 = .ok (.iconst 0, 1) := by decide +kernel
set_option maxRecDepth 20000 in
theorem dX10_failed_26 : decode cX10_failed 26 = .ok (.istore_n 2, 1) := by decide +kernel
set_option maxRecDepth 20000 in
theorem dX10_failed_27 : decode cX10_failed 27 = .ok (.bipush (-9), 2) := by decide +kernel
set_option maxRecDepth 20000 in
theorem dX10_failed_29 : decode cX10_failed 29 = .ok (.istore_n 3, 1) := by decide +kernel
set_option maxRecDepth 20000 in
theorem dX10_failed_30 : decode cX10_failed 30 = .ok (.aload_n 0, 1) := by decide +kernel
set_option maxRecDepth 20000 in
theorem dX10_failed_31 : decode cX10_failed 31 = .ok (.invokevirtual 193, 3) := by decide +kernel
set_option maxRecDepth 20000 in
theorem dX10_failed_34 : decode cX10_failed 34 = .ok (.istore 4, 2) := by decide +kernel
set_option maxRecDepth 20000 in
theorem dX10_failed_36 : decode cX10_failed 36 = .ok (.iconst 0, 1) := by decide +kernel
set_option maxRecDepth 20000 in
theorem dX10_failed_37 : decode cX10_failed 37 = .ok (.istore 5, 2) := by decide +kernel
set_option maxRecDepth 20000 in
theorem dX10_failed_39 : decode cX10_failed 39 = .ok (.iload 5, 2) := by decide +kernel
set_option maxRecDepth 20000 in
theorem dX10_failed_41 : decode cX10_failed 41 = .ok (.aload_n 0, 1) := by decide +kernel
set_option maxRecDepth 20000 in
theorem dX10_failed_42 : decode cX10_failed 42 = .ok (.invokevirtual 193, 3) := by decide +kernel
set_option maxRecDepth 20000 in
theorem dX10_failed_45 : decode cX10_failed 45 = .ok (.if_icmp .gt 51, 3) := by decide +kernel
set_option maxRecDepth 20000 in
theorem dX10_failed_48 : decode cX10_failed 48 = .ok (.aload_n 0, 1) := by decide +kernel
set_option maxRecDepth 20000 in
theorem dX10_failed_49 : decode cX10_failed 49 = .ok (.iload 5, 2) := by decide +kernel
set_option maxRecDepth 20000 in
theorem dX10_failed_51 : decode cX10_failed 51 = .ok (.invokevirtual 202, 3) := by decide +kernel
set_option maxRecDepth 20000 in
theorem dX10_failed_54 : decode cX10_failed 54 = .ok (.ifCond .eq 36, 3) := by decide +kernel
set_option maxRecDepth 20000 in
theorem dX10_failed_57 : decode cX10_failed 57 = .ok (.iinc 2 1, 3) := by decide +kernel
set_option maxRecDepth 20000 in
theorem dX10_failed_60 : decode cX10_failed 60 = .ok (.iload_n 3, 1) := by decide +kernel
set_option maxRecDepth 20000 in
theorem dX10_failed_61 : decode cX10_failed 61 = .ok (.ifCond .lt 15, 3) := by decide +kernel
set_option maxRecDepth 20000 in
theorem dX10_failed_64 : decode cX10_failed 64 = .ok (.iload 5, 2) := by decide +kernel
set_option maxRecDepth 20000 in
theorem dX10_failed_66 : decode cX10_failed 66 = .ok (.invokestatic 187, 3) := by decide +kernel
set_option maxRecDepth 20000 in
theorem dX10_failed_69 : decode cX10_failed 69 = .ok (.iload_n 3, 1) := by decide +kernel
set_option maxRecDepth 20000 in
theorem dX10_failed_70 : decode cX10_failed 70 = .ok (.invokestatic 187, 3) := by decide +kernel
set_option maxRecDepth 20000 in
theorem dX10_failed_73 : decode cX10_failed 73 = .ok (.if_icmp .ge 8, 3) := by decide +kernel
set_option maxRecDepth 20000 in
theorem dX10_failed_76 : decode cX10_failed 76 = .ok (.iload 5, 2) := by decide +kernel
set_option maxRecDepth 20000 in
theorem dX10_failed_78 : decode cX10_failed 78 = .ok (.goto 4, 3) := by decide +kernel
set_option maxRecDepth 20000 in
theorem dX10_failed_81 : decode cX10_failed 81 = .ok (.iload_n 3, 1) := by decide +kernel
set_option maxRecDepth 20000 in
theorem dX10_failed_82 : decode cX10_failed 82 = .ok (.istore_n 3, 1) := by decide +kernel
set_option maxRecDepth 20000 in
theorem dX10_failed_83 : decode cX10_failed 83 = .ok (.iload 4, 2) := by decide +kernel
set_option maxRecDepth 20000 in
theorem dX10_failed_85 : decode cX10_failed 85 = .ok (.iload 5, 2) := by decide +kernel
set_option maxRecDepth 20000 in
theorem dX10_failed_87 : decode cX10_failed 87 = .ok (.iand, 1) := by decide +kernel
set_option maxRecDepth 20000 in
theorem dX10_failed_88 : decode cX10_failed 88 = .ok (.istore 4, 2) := by decide +kernel
set_option maxRecDepth 20000 in
theorem dX10_failed_90 : decode cX10_failed 90 = .ok (.iinc 5 1, 3) := by decide +kernel
set_option maxRecDepth 20000 in
theorem dX10_failed_93 : decode cX10_failed 93 = .ok (.goto (-54), 3) := by decide +kernel
set_option maxRecDepth 20000 in
theorem dX10_failed_96 : decode cX10_failed 96 = .ok (.iload_n 1, 1) := by decide +kernel
set_option maxRecDepth 20000 in
theorem dX10_failed_97 : decode cX10_failed 97 = .ok (.ifCond .ne 7, 3) := by decide +kernel
set_option maxRecDepth 20000 in
theorem dX10_failed_100 : decode cX10_failed 100 = .ok (.iload_n 2, 1) := by decide +kernel
set_option maxRecDepth 20000 in
theorem dX10_failed_101 : decode cX10_failed 101 = .ok (.goto 23, 3) := by decide +kernel
set_option maxRecDepth 20000 in
theorem dX10_failed_104 : decode cX10_failed 104 = .ok (.iload_n 1, 1) := by decide +kernel
set_option maxRecDepth 20000 in
theorem dX10_failed_105 : decode cX10_failed 105 = .ok (.iconst 1, 1) := by decide +kernel
set_option maxRecDepth 20000 in
theorem dX10_failed_106 : decode cX10_failed 106 = .ok (.if_icmp .ne 7, 3) := by decide +kernel
set_option maxRecDepth 20000 in
theorem dX10_failed_109 : decode cX10_failed 109 = .ok (.iload_n 3, 1) := by decide +kernel
set_option maxRecDepth 20000 in
theorem dX10_failed_110 : decode cX10_failed 110 = .ok (.goto 14, 3) := by decide +kernel
set_option maxRecDepth 20000 in
theorem dX10_failed_113 : decode cX10_failed 113 = .ok (.iload_n 2, 1) := by decide +kernel
set_option maxRecDepth 20000 in
theorem dX10_failed_114 : decode cX10_failed 114 = .ok (.ifCond .ne 8, 3) := by decide +kernel
set_option maxRecDepth 20000 in
theorem dX10_failed_117 : decode cX10_failed 117 = .ok (.bipush (-9), 2) := by decide +kernel
set_option maxRecDepth 20000 in
theorem dX10_failed_119 : decode cX10_failed 119 = .ok (.goto 5, 3) := by decide +kernel
set_option maxRecDepth 20000 in
theorem dX10_failed_122 : decode cX10_failed 122 = .ok (.iload 4, 2) := by decide +kernel
set_option maxRecDepth 20000 in
theorem dX10_failed_124 : decode cX10_failed 124 = .ok (.ireturn, 1) := by decide +kernel
set_option maxRecDepth 20000 in
theorem dX10_laws_0 : decode cX10_laws 0 = .ok (.aload_n 0, 1) := by decide +kernel
set_option maxRecDepth 20000 in
theorem dX10_laws_1 : decode cX10_laws 1 = .ok (.getfield 80, 3) := by decide +kernel
set_option maxRecDepth 20000 in
theorem dX10_laws_4 : decode cX10_laws 4 = .ok (.ifCond .ne 6, 3) := by decide +kernel
set_option maxRecDepth 20000 in
theorem dX10_laws_7 : decode cX10_laws 7 = .ok (.bipush (-3), 2) := by decide +kernel
set_option maxRecDepth 20000 in
theorem dX10_laws_9 : decode cX10_laws 9 = .ok (.ireturn, 1) := by decide +kernel
set_option maxRecDepth 20000 in
theorem dX10_laws_10 : decode cX10_laws 10 = .ok (.aload_n 0, 1) := by decide +kernel
set_option maxRecDepth 20000 in
theorem dX10_laws_11 : decode cX10_laws 11 = .ok (.getfield 131, 3) := by decide +kernel
set_option maxRecDepth 20000 in
theorem dX10_laws_14 : decode cX10_laws 14 = .ok (.istore_n 1, 1) := by decide +kernel
set_option maxRecDepth 20000 in
theorem dX10_laws_15 : decode cX10_laws 15 = .ok (.iconst 0, 1) := by decide +kernel
set_option maxRecDepth 20000 in
theorem dX10_laws_16 : decode cX10_laws 16 = .ok (.istore_n 2, 1) := by decide +kernel
set_option maxRecDepth 20000 in
theorem dX10_laws_17 : decode cX10_laws 17 = .ok (.iconst 0, 1) := by decide +kernel
set_option maxRecDepth 20000 in
theorem dX10_laws_18 : decode cX10_laws 18 = .ok (.istore_n 3, 1) := by decide +kernel
set_option maxRecDepth 20000 in
theorem dX10_laws_19 : decode cX10_laws 19 = .ok (.iload_n 3, 1) := by decide +kernel
set_option maxRecDepth 20000 in
theorem dX10_laws_20 : decode cX10_laws 20 = .ok (.iconst 3, 1) := by decide +kernel
set_option maxRecDepth 20000 in
theorem dX10_laws_21 : decode cX10_laws 21 = .ok (.if_icmp .ge 36, 3) := by decide +kernel
set_option maxRecDepth 20000 in
theorem dX10_laws_24 : decode cX10_laws 24 = .ok (.aload_n 0, 1) := by decide +kernel
set_option maxRecDepth 20000 in
theorem dX10_laws_25 : decode cX10_laws 25 = .ok (.iload_n 3, 1) := by decide +kernel
set_option maxRecDepth 20000 in
theorem dX10_laws_26 : decode cX10_laws 26 = .ok (.putfield 131, 3) := by decide +kernel
set_option maxRecDepth 20000 in
theorem dX10_laws_29 : decode cX10_laws 29 = .ok (.iload_n 2, 1) := by decide +kernel
set_option maxRecDepth 20000 in
theorem dX10_laws_30 : decode cX10_laws 30 = .ok (.aload_n 0, 1) := by decide +kernel
set_option maxRecDepth 20000 in
theorem dX10_laws_31 : decode cX10_laws 31 = .ok (.aload_n 0, 1) := by decide +kernel
set_option maxRecDepth 20000 in
theorem dX10_laws_32 : decode cX10_laws 32 = .ok (.iconst 0, 1) := by decide +kernel
set_option maxRecDepth 20000 in
theorem dX10_laws_33 : decode cX10_laws 33 = .ok (.invokevirtual 164, 3) := by decide +kernel
set_option maxRecDepth 20000 in
theorem dX10_laws_36 : decode cX10_laws 36 = .ok (.invokevirtual 202, 3) := by decide +kernel
set_option maxRecDepth 20000 in
theorem dX10_laws_39 : decode cX10_laws 39 = .ok (.ifCond .eq 9, 3) := by decide +kernel
set_option maxRecDepth 20000 in
theorem dX10_laws_42 : decode cX10_laws 42 = .ok (.iconst 1, 1) := by decide +kernel
set_option maxRecDepth 20000 in
theorem dX10_laws_43 : decode cX10_laws 43 = .ok (.iload_n 3, 1) := by decide +kernel
set_option maxRecDepth 20000 in
theorem dX10_laws_44 : decode cX10_laws 44 = .ok (.ishl, 1) := by decide +kernel
set_option maxRecDepth 20000 in
theorem dX10_laws_45 : decode cX10_laws 45 = .ok (.goto 4, 3) := by decide +kernel
set_option maxRecDepth 20000 in
theorem dX10_laws_48 : decode cX10_laws 48 = .ok (.iconst 0, 1) := by decide +kernel
set_option maxRecDepth 20000 in
theorem dX10_laws_49 : decode cX10_laws 49 = .ok (.ior, 1) := by decide +kernel
set_option maxRecDepth 20000 in
theorem dX10_laws_50 : decode cX10_laws 50 = .ok (.istore_n 2, 1) := by decide +kernel
set_option maxRecDepth 20000 in
theorem dX10_laws_51 : decode cX10_laws 51 = .ok (.iinc 3 1, 3) := by decide +kernel
set_option maxRecDepth 20000 in
theorem dX10_laws_54 : decode cX10_laws 54 = .ok (.goto (-35), 3) := by decide +kernel
set_option maxRecDepth 20000 in
theorem dX10_laws_57 : decode cX10_laws 57 = .ok (.aload_n 0, 1) := by decide +kernel
set_option maxRecDepth 20000 in
theorem dX10_laws_58 : decode cX10_laws 58 = .ok (.iload_n 1, 1) := by decide +kernel
set_option maxRecDepth 20000 in
theorem dX10_laws_59 : decode cX10_laws 59 = .ok (.putfield 131, 3) := by decide +kernel
set_option maxRecDepth 20000 in
theorem dX10_laws_62 : decode cX10_laws 62 = .ok (.iload_n 2, 1) := by decide +kernel
set_option maxRecDepth 20000 in
theorem dX10_laws_63 : decode cX10_laws 63 = .ok (.ireturn, 1) := by decide +kernel
set_option maxRecDepth 20000 in
theorem dX10_odds_0 : decode cX10_odds 0 = .ok (.aload_n 0, 1) := by decide +kernel
set_option maxRecDepth 20000 in
theorem dX10_odds_1 : decode cX10_odds 1 = .ok (.iload_n 1, 1) := by decide +kernel
set_option maxRecDepth 20000 in
theorem dX10_odds_2 : decode cX10_odds 2 = .ok (.invokevirtual 140, 3) := by decide +kernel
set_option maxRecDepth 20000 in
theorem dX10_odds_5 : decode cX10_odds 5 = .ok (.ifCond .ne 13, 3) := by decide +kernel
set_option maxRecDepth 20000 in
theorem dX10_odds_8 : decode cX10_odds 8 = .ok (.iload_n 2, 1) := by decide +kernel
set_option maxRecDepth 20000 in
theorem dX10_odds_9 : decode cX10_odds 9 = .ok (.i2l, 1) := by decide +kernel
set_option maxRecDepth 20000 in
theorem dX10_odds_10 : decode cX10_odds 10 = .ok (.lconst 0, 1) := by decide +kernel
set_option maxRecDepth 20000 in
theorem dX10_odds_11 : decode cX10_odds 11 = .ok (.lconst 1, 1) := by decide +kernel
set_option maxRecDepth 20000 in
theorem dX10_odds_12 : decode cX10_odds 12 = .ok (.invokestatic 83, 3) := by decide +kernel
set_option maxRecDepth 20000 in
theorem dX10_odds_15 : decode cX10_odds 15 = .ok (.ifCond .ne 7, 3) := by decide +kernel
set_option maxRecDepth 20000 in
theorem dX10_odds_18 : decode cX10_odds 18 = .ok (.invokestatic 76, 3) := by decide +kernel
set_option maxRecDepth 20000 in
theorem dX10_odds_21 : decode cX10_odds 21 = .ok (.lreturn, 1) := by decide +kernel
set_option maxRecDepth 20000 in
theorem dX10_odds_22 : decode cX10_odds 22 = .ok (.lconst 0, 1) := by decide +kernel
set_option maxRecDepth 20000 in
theorem dX10_odds_23 : decode cX10_odds 23 = .ok (.lstore_n 3, 1) := by decide +kernel
set_option maxRecDepth 20000 in
theorem dX10_odds_24 : decode cX10_odds 24 = .ok (.iconst 0, 1) := by decide +kernel
set_option maxRecDepth 20000 in
theorem dX10_odds_25 : decode cX10_odds 25 = .ok (.istore 5, 2) := by decide +kernel
set_option maxRecDepth 20000 in
theorem dX10_odds_27 : decode cX10_odds 27 = .ok (.iload 5, 2) := by decide +kernel
set_option maxRecDepth 20000 in
theorem dX10_odds_29 : decode cX10_odds 29 = .ok (.aload_n 0, 1) := by decide +kernel
set_option maxRecDepth 20000 in
theorem dX10_odds_30 : decode cX10_odds 30 = .ok (.invokevirtual 193, 3) := by decide +kernel
set_option maxRecDepth 20000 in
theorem dX10_odds_33 : decode cX10_odds 33 = .ok (.if_icmp .gt 32, 3) := by decide +kernel
set_option maxRecDepth 20000 in
theorem dX10_odds_36 : decode cX10_odds 36 = .ok (.aload_n 0, 1) := by decide +kernel
set_option maxRecDepth 20000 in
theorem dX10_odds_37 : decode cX10_odds 37 = .ok (.iload 5, 2) := by decide +kernel
set_option maxRecDepth 20000 in
theorem dX10_odds_39 : decode cX10_odds 39 = .ok (.invokevirtual 184, 3) := by decide +kernel
set_option maxRecDepth 20000 in
theorem dX10_odds_42 : decode cX10_odds 42 = .ok (.lload_n 3, 1) := by decide +kernel
set_option maxRecDepth 20000 in
theorem dX10_odds_43 : decode cX10_odds 43 = .ok (.aload_n 0, 1) := by decide +kernel
set_option maxRecDepth 20000 in
theorem dX10_odds_44 : decode cX10_odds 44 = .ok (.getfield 43, 3) := by decide +kernel
set_option maxRecDepth 20000 in
theorem dX10_odds_47 : decode cX10_odds 47 = .ok (.iload_n 1, 1) := by decide +kernel
set_option maxRecDepth 20000 in
theorem dX10_odds_48 : decode cX10_odds 48 = .ok (.iaload, 1) := by decide +kernel
set_option maxRecDepth 20000 in
theorem dX10_odds_49 : decode cX10_odds 49 = .ok (.ifCond .ge 7, 3) := by decide +kernel
set_option maxRecDepth 20000 in
theorem dX10_odds_52 : decode cX10_odds 52 = .ok (.lconst 0, 1) := by decide +kernel
set_option maxRecDepth 20000 in
theorem dX10_odds_53 : decode cX10_odds 53 = .ok (.goto 4, 3) := by decide +kernel
set_option maxRecDepth 20000 in
theorem dX10_odds_56 : decode cX10_odds 56 = .ok (.lconst 1, 1) := by decide +kernel
set_option maxRecDepth 20000 in
theorem dX10_odds_57 : decode cX10_odds 57 = .ok (.ladd, 1) := by decide +kernel
set_option maxRecDepth 20000 in
theorem dX10_odds_58 : decode cX10_odds 58 = .ok (.lstore_n 3, 1) := by decide +kernel
set_option maxRecDepth 20000 in
theorem dX10_odds_59 : decode cX10_odds 59 = .ok (.iinc 5 1, 3) := by decide +kernel
set_option maxRecDepth 20000 in
theorem dX10_odds_62 : decode cX10_odds 62 = .ok (.goto (-35), 3) := by decide +kernel
set_option maxRecDepth 20000 in
theorem dX10_odds_65 : decode cX10_odds 65 = .ok (.lload_n 3, 1) := by decide +kernel
set_option maxRecDepth 20000 in
theorem dX10_odds_66 : decode cX10_odds 66 = .ok (.aload_n 0, 1) := by decide +kernel
set_option maxRecDepth 20000 in
theorem dX10_odds_67 : decode cX10_odds 67 = .ok (.invokevirtual 193, 3) := by decide +kernel
set_option maxRecDepth 20000 in
theorem dX10_odds_70 : decode cX10_odds 70 = .ok (.i2l, 1) := by decide +kernel
set_option maxRecDepth 20000 in
theorem dX10_odds_71 : decode cX10_odds 71 = .ok (.lconst 1, 1) := by decide +kernel
set_option maxRecDepth 20000 in
theorem dX10_odds_72 : decode cX10_odds 72 = .ok (.ladd, 1) := by decide +kernel
set_option maxRecDepth 20000 in
theorem dX10_odds_73 : decode cX10_odds 73 = .ok (.iload_n 2, 1) := by decide +kernel
set_option maxRecDepth 20000 in
theorem dX10_odds_74 : decode cX10_odds 74 = .ok (.invokestatic 205, 3) := by decide +kernel
set_option maxRecDepth 20000 in
theorem dX10_odds_77 : decode cX10_odds 77 = .ok (.lreturn, 1) := by decide +kernel
set_option maxRecDepth 20000 in
theorem dX10_noSheet_0 : decode cX10_noSheet 0 = .ok (.iload_n 0, 1) := by decide +kernel
set_option maxRecDepth 20000 in
theorem dX10_noSheet_1 : decode cX10_noSheet 1 = .ok (.i2l, 1) := by decide +kernel
set_option maxRecDepth 20000 in
theorem dX10_noSheet_2 : decode cX10_noSheet 2 = .ok (.lconst 0, 1) := by decide +kernel
set_option maxRecDepth 20000 in
theorem dX10_noSheet_3 : decode cX10_noSheet 3 = .ok (.ldc2_w 209, 3) := by decide +kernel
set_option maxRecDepth 20000 in
theorem dX10_noSheet_6 : decode cX10_noSheet 6 = .ok (.invokestatic 83, 3) := by decide +kernel
set_option maxRecDepth 20000 in
theorem dX10_noSheet_9 : decode cX10_noSheet 9 = .ok (.ifCond .ne 7, 3) := by decide +kernel
set_option maxRecDepth 20000 in
theorem dX10_noSheet_12 : decode cX10_noSheet 12 = .ok (.iconst 1, 1) := by decide +kernel
set_option maxRecDepth 20000 in
theorem dX10_noSheet_13 : decode cX10_noSheet 13 = .ok (.goto 4, 3) := by decide +kernel
set_option maxRecDepth 20000 in
theorem dX10_noSheet_16 : decode cX10_noSheet 16 = .ok (.iconst 0, 1) := by decide +kernel
set_option maxRecDepth 20000 in
theorem dX10_noSheet_17 : decode cX10_noSheet 17 = .ok (.ireturn, 1) := by decide +kernel
set_option maxRecDepth 20000 in
theorem dX10_sheet_0 : decode cX10_sheet 0 = .ok (.iload_n 1, 1) := by decide +kernel
set_option maxRecDepth 20000 in
theorem dX10_sheet_1 : decode cX10_sheet 1 = .ok (.invokestatic 115, 3) := by decide +kernel
set_option maxRecDepth 20000 in
theorem dX10_sheet_4 : decode cX10_sheet 4 = .ok (.ifCond .eq 9, 3) := by decide +kernel
set_option maxRecDepth 20000 in
theorem dX10_sheet_7 : decode cX10_sheet 7 = .ok (.aload_n 0, 1) := by decide +kernel
set_option maxRecDepth 20000 in
theorem dX10_sheet_8 : decode cX10_sheet 8 = .ok (.iconst (-1), 1) := by decide +kernel
set_option maxRecDepth 20000 in
theorem dX10_sheet_9 : decode cX10_sheet 9 = .ok (.invokevirtual 119, 3) := by decide +kernel
set_option maxRecDepth 20000 in
theorem dX10_sheet_12 : decode cX10_sheet 12 = .ok (.ireturn, 1) := by decide +kernel
set_option maxRecDepth 20000 in
theorem dX10_sheet_13 : decode cX10_sheet 13 = .ok (.iload_n 2, 1) := by decide +kernel
set_option maxRecDepth 20000 in
theorem dX10_sheet_14 : decode cX10_sheet 14 = .ok (.i2l, 1) := by decide +kernel
set_option maxRecDepth 20000 in
theorem dX10_sheet_15 : decode cX10_sheet 15 = .ok (.lconst 0, 1) := by decide +kernel
set_option maxRecDepth 20000 in
theorem dX10_sheet_16 : decode cX10_sheet 16 = .ok (.ldc2_w 122, 3) := by decide +kernel
set_option maxRecDepth 20000 in
theorem dX10_sheet_19 : decode cX10_sheet 19 = .ok (.invokestatic 83, 3) := by decide +kernel
set_option maxRecDepth 20000 in
theorem dX10_sheet_22 : decode cX10_sheet 22 = .ok (.ifCond .eq 9, 3) := by decide +kernel
set_option maxRecDepth 20000 in
theorem dX10_sheet_25 : decode cX10_sheet 25 = .ok (.iload_n 3, 1) := by decide +kernel
set_option maxRecDepth 20000 in
theorem dX10_sheet_26 : decode cX10_sheet 26 = .ok (.bipush 60, 2) := by decide +kernel
set_option maxRecDepth 20000 in
theorem dX10_sheet_28 : decode cX10_sheet 28 = .ok (.if_icmp .le 10, 3) := by decide +kernel
set_option maxRecDepth 20000 in
theorem dX10_sheet_31 : decode cX10_sheet 31 = .ok (.aload_n 0, 1) := by decide +kernel
set_option maxRecDepth 20000 in
theorem dX10_sheet_32 : decode cX10_sheet 32 = .ok (.bipush (-2), 2) := by decide +kernel
set_option maxRecDepth 20000 in
theorem dX10_sheet_34 : decode cX10_sheet 34 = .ok (.invokevirtual 119, 3) := by decide +kernel
set_option maxRecDepth 20000 in
theorem dX10_sheet_37 : decode cX10_sheet 37 = .ok (.ireturn, 1) := by decide +kernel
set_option maxRecDepth 20000 in
theorem dX10_sheet_38 : decode cX10_sheet 38 = .ok (.iload_n 3, 1) := by decide +kernel
set_option maxRecDepth 20000 in
theorem dX10_sheet_39 : decode cX10_sheet 39 = .ok (.ifCond .ge 9, 3) := by decide +kernel
set_option maxRecDepth 20000 in
theorem dX10_sheet_42 : decode cX10_sheet 42 = .ok (.aload_n 0, 1) := by decide +kernel
set_option maxRecDepth 20000 in
theorem dX10_sheet_43 : decode cX10_sheet 43 = .ok (.iconst 4, 1) := by decide +kernel
set_option maxRecDepth 20000 in
theorem dX10_sheet_44 : decode cX10_sheet 44 = .ok (.invokevirtual 107, 3) := by decide +kernel
set_option maxRecDepth 20000 in
theorem dX10_sheet_47 : decode cX10_sheet 47 = .ok (.ireturn, 1) := by decide +kernel
set_option maxRecDepth 20000 in
theorem dX10_sheet_48 : decode cX10_sheet 48 = .ok (.aload_n 0, 1) := by decide +kernel
set_option maxRecDepth 20000 in
theorem dX10_sheet_49 : decode cX10_sheet 49 = .ok (.getfield 58, 3) := by decide +kernel
set_option maxRecDepth 20000 in
theorem dX10_sheet_52 : decode cX10_sheet 52 = .ok (.iload_n 1, 1) := by decide +kernel
set_option maxRecDepth 20000 in
theorem dX10_sheet_53 : decode cX10_sheet 53 = .ok (.iload_n 3, 1) := by decide +kernel
set_option maxRecDepth 20000 in
theorem dX10_sheet_54 : decode cX10_sheet 54 = .ok (.iastore, 1) := by decide +kernel
set_option maxRecDepth 20000 in
theorem dX10_sheet_55 : decode cX10_sheet 55 = .ok (.aload_n 0, 1) := by decide +kernel
set_option maxRecDepth 20000 in
theorem dX10_sheet_56 : decode cX10_sheet 56 = .ok (.getfield 61, 3) := by decide +kernel
set_option maxRecDepth 20000 in
theorem dX10_sheet_59 : decode cX10_sheet 59 = .ok (.iload_n 1, 1) := by decide +kernel
set_option maxRecDepth 20000 in
theorem dX10_sheet_60 : decode cX10_sheet 60 = .ok (.iload_n 2, 1) := by decide +kernel
set_option maxRecDepth 20000 in
theorem dX10_sheet_61 : decode cX10_sheet 61 = .ok (.iastore, 1) := by decide +kernel
set_option maxRecDepth 20000 in
theorem dX10_sheet_62 : decode cX10_sheet 62 = .ok (.iconst 0, 1) := by decide +kernel
set_option maxRecDepth 20000 in
theorem dX10_sheet_63 : decode cX10_sheet 63 = .ok (.istore 4, 2) := by decide +kernel
set_option maxRecDepth 20000 in
theorem dX10_sheet_65 : decode cX10_sheet 65 = .ok (.iload 4, 2) := by decide +kernel
set_option maxRecDepth 20000 in
theorem dX10_sheet_67 : decode cX10_sheet 67 = .ok (.iload_n 3, 1) := by decide +kernel
set_option maxRecDepth 20000 in
theorem dX10_sheet_68 : decode cX10_sheet 68 = .ok (.if_icmp .ge 22, 3) := by decide +kernel
set_option maxRecDepth 20000 in
theorem dX10_sheet_71 : decode cX10_sheet 71 = .ok (.aload_n 0, 1) := by decide +kernel
set_option maxRecDepth 20000 in
theorem dX10_sheet_72 : decode cX10_sheet 72 = .ok (.getfield 64, 3) := by decide +kernel
set_option maxRecDepth 20000 in
theorem dX10_sheet_75 : decode cX10_sheet 75 = .ok (.bipush 60, 2) := by decide +kernel
set_option maxRecDepth 20000 in
theorem dX10_sheet_77 : decode cX10_sheet 77 = .ok (.iload_n 1, 1) := by decide +kernel
set_option maxRecDepth 20000 in
theorem dX10_sheet_78 : decode cX10_sheet 78 = .ok (.imul, 1) := by decide +kernel
set_option maxRecDepth 20000 in
theorem dX10_sheet_79 : decode cX10_sheet 79 = .ok (.iload 4, 2) := by decide +kernel
set_option maxRecDepth 20000 in
theorem dX10_sheet_81 : decode cX10_sheet 81 = .ok (.iadd, 1) := by decide +kernel
set_option maxRecDepth 20000 in
theorem dX10_sheet_82 : decode cX10_sheet 82 = .ok (.iconst 0, 1) := by decide +kernel
set_option maxRecDepth 20000 in
theorem dX10_sheet_83 : decode cX10_sheet 83 = .ok (.iastore, 1) := by decide +kernel
set_option maxRecDepth 20000 in
theorem dX10_sheet_84 : decode cX10_sheet 84 = .ok (.iinc 4 1, 3) := by decide +kernel
set_option maxRecDepth 20000 in
theorem dX10_sheet_87 : decode cX10_sheet 87 = .ok (.goto (-22), 3) := by decide +kernel
set_option maxRecDepth 20000 in
theorem dX10_sheet_90 : decode cX10_sheet 90 = .ok (.aload_n 0, 1) := by decide +kernel
set_option maxRecDepth 20000 in
theorem dX10_sheet_91 : decode cX10_sheet 91 = .ok (.iconst 1, 1) := by decide +kernel
set_option maxRecDepth 20000 in
theorem dX10_sheet_92 : decode cX10_sheet 92 = .ok (.invokevirtual 119, 3) := by decide +kernel
set_option maxRecDepth 20000 in
theorem dX10_sheet_95 : decode cX10_sheet 95 = .ok (.ireturn, 1) := by decide +kernel
set_option maxRecDepth 20000 in
theorem dX10_lose_0 : decode cX10_lose 0 = .ok (.iload_n 1, 1) := by decide +kernel
set_option maxRecDepth 20000 in
theorem dX10_lose_1 : decode cX10_lose 1 = .ok (.invokestatic 115, 3) := by decide +kernel
set_option maxRecDepth 20000 in
theorem dX10_lose_4 : decode cX10_lose 4 = .ok (.ifCond .eq 5, 3) := by decide +kernel
set_option maxRecDepth 20000 in
theorem dX10_lose_7 : decode cX10_lose 7 = .ok (.iconst (-1), 1) := by decide +kernel
set_option maxRecDepth 20000 in
theorem dX10_lose_8 : decode cX10_lose 8 = .ok (.ireturn, 1) := by decide +kernel
set_option maxRecDepth 20000 in
theorem dX10_lose_9 : decode cX10_lose 9 = .ok (.aload_n 0, 1) := by decide +kernel
set_option maxRecDepth 20000 in
theorem dX10_lose_10 : decode cX10_lose 10 = .ok (.getfield 58, 3) := by decide +kernel
set_option maxRecDepth 20000 in
theorem dX10_lose_13 : decode cX10_lose 13 = .ok (.iload_n 1, 1) := by decide +kernel
set_option maxRecDepth 20000 in
theorem dX10_lose_14 : decode cX10_lose 14 = .ok (.iaload, 1) := by decide +kernel
set_option maxRecDepth 20000 in
theorem dX10_lose_15 : decode cX10_lose 15 = .ok (.ifCond .ge 7, 3) := by decide +kernel
set_option maxRecDepth 20000 in
theorem dX10_lose_18 : decode cX10_lose 18 = .ok (.iconst 0, 1) := by decide +kernel
set_option maxRecDepth 20000 in
theorem dX10_lose_19 : decode cX10_lose 19 = .ok (.goto 4, 3) := by decide +kernel
set_option maxRecDepth 20000 in
theorem dX10_lose_22 : decode cX10_lose 22 = .ok (.iconst 1, 1) := by decide +kernel
set_option maxRecDepth 20000 in
theorem dX10_lose_23 : decode cX10_lose 23 = .ok (.istore_n 2, 1) := by decide +kernel
set_option maxRecDepth 20000 in
theorem dX10_lose_24 : decode cX10_lose 24 = .ok (.aload_n 0, 1) := by decide +kernel
set_option maxRecDepth 20000 in
theorem dX10_lose_25 : decode cX10_lose 25 = .ok (.getfield 58, 3) := by decide +kernel
set_option maxRecDepth 20000 in
theorem dX10_lose_28 : decode cX10_lose 28 = .ok (.iload_n 1, 1) := by decide +kernel
set_option maxRecDepth 20000 in
theorem dX10_lose_29 : decode cX10_lose 29 = .ok (.iconst (-1), 1) := by decide +kernel
set_option maxRecDepth 20000 in
theorem dX10_lose_30 : decode cX10_lose 30 = .ok (.iastore, 1) := by decide +kernel
set_option maxRecDepth 20000 in
theorem dX10_lose_31 : decode cX10_lose 31 = .ok (.iload_n 2, 1) := by decide +kernel
set_option maxRecDepth 20000 in
theorem dX10_lose_32 : decode cX10_lose 32 = .ok (.ireturn, 1) := by decide +kernel
set_option maxRecDepth 20000 in
theorem dX10_noCell_0 : decode cX10_noCell 0 = .ok (.aload_n 0, 1) := by decide +kernel
set_option maxRecDepth 20000 in
theorem dX10_noCell_1 : decode cX10_noCell 1 = .ok (.getfield 58, 3) := by decide +kernel
set_option maxRecDepth 20000 in
theorem dX10_noCell_4 : decode cX10_noCell 4 = .ok (.iload_n 1, 1) := by decide +kernel
set_option maxRecDepth 20000 in
theorem dX10_noCell_5 : decode cX10_noCell 5 = .ok (.iaload, 1) := by decide +kernel
set_option maxRecDepth 20000 in
theorem dX10_noCell_6 : decode cX10_noCell 6 = .ok (.ifCond .ge 7, 3) := by decide +kernel
set_option maxRecDepth 20000 in
theorem dX10_noCell_9 : decode cX10_noCell 9 = .ok (.iconst 1, 1) := by decide +kernel
set_option maxRecDepth 20000 in
theorem dX10_noCell_10 : decode cX10_noCell 10 = .ok (.goto 26, 3) := by decide +kernel
set_option maxRecDepth 20000 in
theorem dX10_noCell_13 : decode cX10_noCell 13 = .ok (.iload_n 2, 1) := by decide +kernel
set_option maxRecDepth 20000 in
theorem dX10_noCell_14 : decode cX10_noCell 14 = .ok (.i2l, 1) := by decide +kernel
set_option maxRecDepth 20000 in
theorem dX10_noCell_15 : decode cX10_noCell 15 = .ok (.lconst 0, 1) := by decide +kernel
set_option maxRecDepth 20000 in
theorem dX10_noCell_16 : decode cX10_noCell 16 = .ok (.aload_n 0, 1) := by decide +kernel
set_option maxRecDepth 20000 in
theorem dX10_noCell_17 : decode cX10_noCell 17 = .ok (.getfield 58, 3) := by decide +kernel
set_option maxRecDepth 20000 in
theorem dX10_noCell_20 : decode cX10_noCell 20 = .ok (.iload_n 1, 1) := by decide +kernel
set_option maxRecDepth 20000 in
theorem dX10_noCell_21 : decode cX10_noCell 21 = .ok (.iaload, 1) := by decide +kernel
set_option maxRecDepth 20000 in
theorem dX10_noCell_22 : decode cX10_noCell 22 = .ok (.i2l, 1) := by decide +kernel
set_option maxRecDepth 20000 in
theorem dX10_noCell_23 : decode cX10_noCell 23 = .ok (.lconst 1, 1) := by decide +kernel
set_option maxRecDepth 20000 in
theorem dX10_noCell_24 : decode cX10_noCell 24 = .ok (.lsub, 1) := by decide +kernel
set_option maxRecDepth 20000 in
theorem dX10_noCell_25 : decode cX10_noCell 25 = .ok (.invokestatic 83, 3) := by decide +kernel
set_option maxRecDepth 20000 in
theorem dX10_noCell_28 : decode cX10_noCell 28 = .ok (.ifCond .eq 7, 3) := by decide +kernel
set_option maxRecDepth 20000 in
theorem dX10_noCell_31 : decode cX10_noCell 31 = .ok (.iconst 0, 1) := by decide +kernel
set_option maxRecDepth 20000 in
theorem dX10_noCell_32 : decode cX10_noCell 32 = .ok (.goto 4, 3) := by decide +kernel
set_option maxRecDepth 20000 in
theorem dX10_noCell_35 : decode cX10_noCell 35 = .ok (.iconst 3, 1) := by decide +kernel
set_option maxRecDepth 20000 in
theorem dX10_noCell_36 : decode cX10_noCell 36 = .ok (.ireturn, 1) := by decide +kernel
set_option maxRecDepth 20000 in
theorem dX10_put_0 : decode cX10_put 0 = .ok (.iload_n 1, 1) := by decide +kernel
set_option maxRecDepth 20000 in
theorem dX10_put_1 : decode cX10_put 1 = .ok (.invokestatic 115, 3) := by decide +kernel
set_option maxRecDepth 20000 in
theorem dX10_put_4 : decode cX10_put 4 = .ok (.ifCond .eq 9, 3) := by decide +kernel
set_option maxRecDepth 20000 in
theorem dX10_put_7 : decode cX10_put 7 = .ok (.aload_n 0, 1) := by decide +kernel
set_option maxRecDepth 20000 in
theorem dX10_put_8 : decode cX10_put 8 = .ok (.iconst (-1), 1) := by decide +kernel
set_option maxRecDepth 20000 in
theorem dX10_put_9 : decode cX10_put 9 = .ok (.invokevirtual 119, 3) := by decide +kernel
set_option maxRecDepth 20000 in
theorem dX10_put_12 : decode cX10_put 12 = .ok (.ireturn, 1) := by decide +kernel
set_option maxRecDepth 20000 in
theorem dX10_put_13 : decode cX10_put 13 = .ok (.aload_n 0, 1) := by decide +kernel
set_option maxRecDepth 20000 in
theorem dX10_put_14 : decode cX10_put 14 = .ok (.iload_n 1, 1) := by decide +kernel
set_option maxRecDepth 20000 in
theorem dX10_put_15 : decode cX10_put 15 = .ok (.iload_n 2, 1) := by decide +kernel
set_option maxRecDepth 20000 in
theorem dX10_put_16 : decode cX10_put 16 = .ok (.invokevirtual 211, 3) := by decide +kernel
set_option maxRecDepth 20000 in
theorem dX10_put_19 : decode cX10_put 19 = .ok (.ifCond .le 14, 3) := by decide +kernel
set_option maxRecDepth 20000 in
theorem dX10_put_22 : decode cX10_put 22 = .ok (.aload_n 0, 1) := by decide +kernel
set_option maxRecDepth 20000 in
theorem dX10_put_23 : decode cX10_put 23 = .ok (.aload_n 0, 1) := by decide +kernel
set_option maxRecDepth 20000 in
theorem dX10_put_24 : decode cX10_put 24 = .ok (.iload_n 1, 1) := by decide +kernel
set_option maxRecDepth 20000 in
theorem dX10_put_25 : decode cX10_put 25 = .ok (.iload_n 2, 1) := by decide +kernel
set_option maxRecDepth 20000 in
theorem dX10_put_26 : decode cX10_put 26 = .ok (.invokevirtual 211, 3) := by decide +kernel
set_option maxRecDepth 20000 in
theorem dX10_put_29 : decode cX10_put 29 = .ok (.invokevirtual 107, 3) := by decide +kernel
set_option maxRecDepth 20000 in
theorem dX10_put_32 : decode cX10_put 32 = .ok (.ireturn, 1) := by decide +kernel
set_option maxRecDepth 20000 in
theorem dX10_put_33 : decode cX10_put 33 = .ok (.aload_n 0, 1) := by decide +kernel
set_option maxRecDepth 20000 in
theorem dX10_put_34 : decode cX10_put 34 = .ok (.getfield 64, 3) := by decide +kernel
set_option maxRecDepth 20000 in
theorem dX10_put_37 : decode cX10_put 37 = .ok (.bipush 60, 2) := by decide +kernel
set_option maxRecDepth 20000 in
theorem dX10_put_39 : decode cX10_put 39 = .ok (.iload_n 1, 1) := by decide +kernel
set_option maxRecDepth 20000 in
theorem dX10_put_40 : decode cX10_put 40 = .ok (.imul, 1) := by decide +kernel
set_option maxRecDepth 20000 in
theorem dX10_put_41 : decode cX10_put 41 = .ok (.iload_n 2, 1) := by decide +kernel
set_option maxRecDepth 20000 in
theorem dX10_put_42 : decode cX10_put 42 = .ok (.iadd, 1) := by decide +kernel
set_option maxRecDepth 20000 in
theorem dX10_put_43 : decode cX10_put 43 = .ok (.aload_n 0, 1) := by decide +kernel
set_option maxRecDepth 20000 in
theorem dX10_put_44 : decode cX10_put 44 = .ok (.getfield 61, 3) := by decide +kernel
set_option maxRecDepth 20000 in
theorem dX10_put_47 : decode cX10_put 47 = .ok (.iload_n 1, 1) := by decide +kernel
set_option maxRecDepth 20000 in
theorem dX10_put_48 : decode cX10_put 48 = .ok (.iaload, 1) := by decide +kernel
set_option maxRecDepth 20000 in
theorem dX10_put_49 : decode cX10_put 49 = .ok (.ifCond .ne 8, 3) := by decide +kernel
set_option maxRecDepth 20000 in
theorem dX10_put_52 : decode cX10_put 52 = .ok (.iload_n 3, 1) := by decide +kernel
set_option maxRecDepth 20000 in
theorem dX10_put_53 : decode cX10_put 53 = .ok (.i2b, 1) := by decide +kernel
set_option maxRecDepth 20000 in
theorem dX10_put_54 : decode cX10_put 54 = .ok (.goto 19, 3) := by decide +kernel
set_option maxRecDepth 20000 in
theorem dX10_put_57 : decode cX10_put 57 = .ok (.aload_n 0, 1) := by decide +kernel
set_option maxRecDepth 20000 in
theorem dX10_put_58 : decode cX10_put 58 = .ok (.getfield 61, 3) := by decide +kernel
set_option maxRecDepth 20000 in
theorem dX10_put_61 : decode cX10_put 61 = .ok (.iload_n 1, 1) := by decide +kernel
set_option maxRecDepth 20000 in
theorem dX10_put_62 : decode cX10_put 62 = .ok (.iaload, 1) := by decide +kernel
set_option maxRecDepth 20000 in
theorem dX10_put_63 : decode cX10_put 63 = .ok (.iconst 1, 1) := by decide +kernel
set_option maxRecDepth 20000 in
theorem dX10_put_64 : decode cX10_put 64 = .ok (.if_icmp .ne 8, 3) := by decide +kernel
set_option maxRecDepth 20000 in
theorem dX10_put_67 : decode cX10_put 67 = .ok (.iload_n 3, 1) := by decide +kernel
set_option maxRecDepth 20000 in
theorem dX10_put_68 : decode cX10_put 68 = .ok (.i2s, 1) := by decide +kernel
set_option maxRecDepth 20000 in
theorem dX10_put_69 : decode cX10_put 69 = .ok (.goto 4, 3) := by decide +kernel
set_option maxRecDepth 20000 in
theorem dX10_put_72 : decode cX10_put 72 = .ok (.iload_n 3, 1) := by decide +kernel
set_option maxRecDepth 20000 in
theorem dX10_put_73 : decode cX10_put 73 = .ok (.iastore, 1) := by decide +kernel
set_option maxRecDepth 20000 in
theorem dX10_put_74 : decode cX10_put 74 = .ok (.aload_n 0, 1) := by decide +kernel
set_option maxRecDepth 20000 in
theorem dX10_put_75 : decode cX10_put 75 = .ok (.iconst 1, 1) := by decide +kernel
set_option maxRecDepth 20000 in
theorem dX10_put_76 : decode cX10_put 76 = .ok (.invokevirtual 119, 3) := by decide +kernel
set_option maxRecDepth 20000 in
theorem dX10_put_79 : decode cX10_put 79 = .ok (.ireturn, 1) := by decide +kernel
set_option maxRecDepth 20000 in
theorem dX10_cell_0 : decode cX10_cell 0 = .ok (.aload_n 0, 1) := by decide +kernel
set_option maxRecDepth 20000 in
theorem dX10_cell_1 : decode cX10_cell 1 = .ok (.iconst 0, 1) := by decide +kernel
set_option maxRecDepth 20000 in
theorem dX10_cell_2 : decode cX10_cell 2 = .ok (.putfield 72, 3) := by decide +kernel
set_option maxRecDepth 20000 in
theorem dX10_cell_5 : decode cX10_cell 5 = .ok (.iload_n 1, 1) := by decide +kernel
set_option maxRecDepth 20000 in
theorem dX10_cell_6 : decode cX10_cell 6 = .ok (.invokestatic 115, 3) := by decide +kernel
set_option maxRecDepth 20000 in
theorem dX10_cell_9 : decode cX10_cell 9 = .ok (.ifCond .ne 15, 3) := by decide +kernel
set_option maxRecDepth 20000 in
theorem dX10_cell_12 : decode cX10_cell 12 = .ok (.iload_n 3, 1) := by decide +kernel
set_option maxRecDepth 20000 in
theorem dX10_cell_13 : decode cX10_cell 13 = .ok (.i2l, 1) := by decide +kernel
set_option maxRecDepth 20000 in
theorem dX10_cell_14 : decode cX10_cell 14 = .ok (.lconst 0, 1) := by decide +kernel
set_option maxRecDepth 20000 in
theorem dX10_cell_15 : decode cX10_cell 15 = .ok (.ldc2_w 122, 3) := by decide +kernel
set_option maxRecDepth 20000 in
theorem dX10_cell_18 : decode cX10_cell 18 = .ok (.invokestatic 83, 3) := by decide +kernel
set_option maxRecDepth 20000 in
theorem dX10_cell_21 : decode cX10_cell 21 = .ok (.ifCond .ne 7, 3) := by decide +kernel
set_option maxRecDepth 20000 in
theorem dX10_cell_24 : decode cX10_cell 24 = .ok (.invokestatic 76, 3) := by decide +kernel
set_option maxRecDepth 20000 in
theorem dX10_cell_27 : decode cX10_cell 27 = .ok (.lreturn, 1) := by decide +kernel
set_option maxRecDepth 20000 in
theorem dX10_cell_28 : decode cX10_cell 28 = .ok (.aload_n 0, 1) := by decide +kernel
set_option maxRecDepth 20000 in
theorem dX10_cell_29 : decode cX10_cell 29 = .ok (.getfield 58, 3) := by decide +kernel
set_option maxRecDepth 20000 in
theorem dX10_cell_32 : decode cX10_cell 32 = .ok (.iload_n 1, 1) := by decide +kernel
set_option maxRecDepth 20000 in
theorem dX10_cell_33 : decode cX10_cell 33 = .ok (.iaload, 1) := by decide +kernel
set_option maxRecDepth 20000 in
theorem dX10_cell_34 : decode cX10_cell 34 = .ok (.ifCond .lt 19, 3) := by decide +kernel
set_option maxRecDepth 20000 in
theorem dX10_cell_37 : decode cX10_cell 37 = .ok (.aload_n 0, 1) := by decide +kernel
set_option maxRecDepth 20000 in
theorem dX10_cell_38 : decode cX10_cell 38 = .ok (.getfield 61, 3) := by decide +kernel
set_option maxRecDepth 20000 in
theorem dX10_cell_41 : decode cX10_cell 41 = .ok (.iload_n 1, 1) := by decide +kernel
set_option maxRecDepth 20000 in
theorem dX10_cell_42 : decode cX10_cell 42 = .ok (.iaload, 1) := by decide +kernel
set_option maxRecDepth 20000 in
theorem dX10_cell_43 : decode cX10_cell 43 = .ok (.iload_n 3, 1) := by decide +kernel
set_option maxRecDepth 20000 in
theorem dX10_cell_44 : decode cX10_cell 44 = .ok (.if_icmp .eq 9, 3) := by decide +kernel
set_option maxRecDepth 20000 in
theorem dX10_cell_47 : decode cX10_cell 47 = .ok (.aload_n 0, 1) := by decide +kernel
set_option maxRecDepth 20000 in
theorem dX10_cell_48 : decode cX10_cell 48 = .ok (.iconst 2, 1) := by decide +kernel
set_option maxRecDepth 20000 in
theorem dX10_cell_49 : decode cX10_cell 49 = .ok (.invokevirtual 214, 3) := by decide +kernel
set_option maxRecDepth 20000 in
theorem dX10_cell_52 : decode cX10_cell 52 = .ok (.lreturn, 1) := by decide +kernel
set_option maxRecDepth 20000 in
theorem dX10_cell_53 : decode cX10_cell 53 = .ok (.aload_n 0, 1) := by decide +kernel
set_option maxRecDepth 20000 in
theorem dX10_cell_54 : decode cX10_cell 54 = .ok (.iload_n 1, 1) := by decide +kernel
set_option maxRecDepth 20000 in
theorem dX10_cell_55 : decode cX10_cell 55 = .ok (.iload_n 2, 1) := by decide +kernel
set_option maxRecDepth 20000 in
theorem dX10_cell_56 : decode cX10_cell 56 = .ok (.invokevirtual 211, 3) := by decide +kernel
set_option maxRecDepth 20000 in
theorem dX10_cell_59 : decode cX10_cell 59 = .ok (.ifCond .le 16, 3) := by decide +kernel
set_option maxRecDepth 20000 in
theorem dX10_cell_62 : decode cX10_cell 62 = .ok (.aload_n 0, 1) := by decide +kernel
set_option maxRecDepth 20000 in
theorem dX10_cell_63 : decode cX10_cell 63 = .ok (.aload_n 0, 1) := by decide +kernel
set_option maxRecDepth 20000 in
theorem dX10_cell_64 : decode cX10_cell 64 = .ok (.iload_n 1, 1) := by decide +kernel
set_option maxRecDepth 20000 in
theorem dX10_cell_65 : decode cX10_cell 65 = .ok (.iload_n 2, 1) := by decide +kernel
set_option maxRecDepth 20000 in
theorem dX10_cell_66 : decode cX10_cell 66 = .ok (.invokevirtual 211, 3) := by decide +kernel
set_option maxRecDepth 20000 in
theorem dX10_cell_69 : decode cX10_cell 69 = .ok (.invokevirtual 214, 3) := by decide +kernel
set_option maxRecDepth 20000 in
theorem dX10_cell_72 : decode cX10_cell 72 = .ok (.goto 15, 3) := by decide +kernel
set_option maxRecDepth 20000 in
theorem dX10_cell_75 : decode cX10_cell 75 = .ok (.aload_n 0, 1) := by decide +kernel
set_option maxRecDepth 20000 in
theorem dX10_cell_76 : decode cX10_cell 76 = .ok (.getfield 64, 3) := by decide +kernel
set_option maxRecDepth 20000 in
theorem dX10_cell_79 : decode cX10_cell 79 = .ok (.bipush 60, 2) := by decide +kernel
set_option maxRecDepth 20000 in
theorem dX10_cell_81 : decode cX10_cell 81 = .ok (.iload_n 1, 1) := by decide +kernel
set_option maxRecDepth 20000 in
theorem dX10_cell_82 : decode cX10_cell 82 = .ok (.imul, 1) := by decide +kernel
set_option maxRecDepth 20000 in
theorem dX10_cell_83 : decode cX10_cell 83 = .ok (.iload_n 2, 1) := by decide +kernel
set_option maxRecDepth 20000 in
theorem dX10_cell_84 : decode cX10_cell 84 = .ok (.iadd, 1) := by decide +kernel
set_option maxRecDepth 20000 in
theorem dX10_cell_85 : decode cX10_cell 85 = .ok (.iaload, 1) := by decide +kernel
set_option maxRecDepth 20000 in
theorem dX10_cell_86 : decode cX10_cell 86 = .ok (.i2l, 1) := by decide +kernel
set_option maxRecDepth 20000 in
theorem dX10_cell_87 : decode cX10_cell 87 = .ok (.lreturn, 1) := by decide +kernel
set_option maxRecDepth 20000 in
theorem dX10_isBeyond_0 : decode cX10_isBeyond 0 = .ok (.iload_n 0, 1) := by decide +kernel
set_option maxRecDepth 20000 in
theorem dX10_isBeyond_1 : decode cX10_isBeyond 1 = .ok (.ifCond .lt 19, 3) := by decide +kernel
set_option maxRecDepth 20000 in
theorem dX10_isBeyond_4 : decode cX10_isBeyond 4 = .ok (.lload_n 1, 1) := by decide +kernel
set_option maxRecDepth 20000 in
theorem dX10_isBeyond_5 : decode cX10_isBeyond 5 = .ok (.lconst 0, 1) := by decide +kernel
set_option maxRecDepth 20000 in
theorem dX10_isBeyond_6 : decode cX10_isBeyond 6 = .ok (.lcmp, 1) := by decide +kernel
set_option maxRecDepth 20000 in
theorem dX10_isBeyond_7 : decode cX10_isBeyond 7 = .ok (.ifCond .lt 13, 3) := by decide +kernel
set_option maxRecDepth 20000 in
theorem dX10_isBeyond_10 : decode cX10_isBeyond 10 = .ok (.iload_n 0, 1) := by decide +kernel
set_option maxRecDepth 20000 in
theorem dX10_isBeyond_11 : decode cX10_isBeyond 11 = .ok (.i2l, 1) := by decide +kernel
set_option maxRecDepth 20000 in
theorem dX10_isBeyond_12 : decode cX10_isBeyond 12 = .ok (.lload_n 1, 1) := by decide +kernel
set_option maxRecDepth 20000 in
theorem dX10_isBeyond_13 : decode cX10_isBeyond 13 = .ok (.ladd, 1) := by decide +kernel
set_option maxRecDepth 20000 in
theorem dX10_isBeyond_14 : decode cX10_isBeyond 14 = .ok (.iload_n 3, 1) := by decide +kernel
set_option maxRecDepth 20000 in
theorem dX10_isBeyond_15 : decode cX10_isBeyond 15 = .ok (.i2l, 1) := by decide +kernel
set_option maxRecDepth 20000 in
theorem dX10_isBeyond_16 : decode cX10_isBeyond 16 = .ok (.lcmp, 1) := by decide +kernel
set_option maxRecDepth 20000 in
theorem dX10_isBeyond_17 : decode cX10_isBeyond 17 = .ok (.ifCond .le 7, 3) := by decide +kernel
set_option maxRecDepth 20000 in
theorem dX10_isBeyond_20 : decode cX10_isBeyond 20 = .ok (.iconst 1, 1) := by decide +kernel
set_option maxRecDepth 20000 in
theorem dX10_isBeyond_21 : decode cX10_isBeyond 21 = .ok (.goto 4, 3) := by decide +kernel
set_option maxRecDepth 20000 in
theorem dX10_isBeyond_24 : decode cX10_isBeyond 24 = .ok (.iconst 0, 1) := by decide +kernel
set_option maxRecDepth 20000 in
theorem dX10_isBeyond_25 : decode cX10_isBeyond 25 = .ok (.ireturn, 1) := by decide +kernel
set_option maxRecDepth 20000 in
theorem dX10_copy_0 : decode cX10_copy 0 = .ok (.iload_n 1, 1) := by decide +kernel
set_option maxRecDepth 20000 in
theorem dX10_copy_1 : decode cX10_copy 1 = .ok (.invokestatic 115, 3) := by decide +kernel
set_option maxRecDepth 20000 in
theorem dX10_copy_4 : decode cX10_copy 4 = .ok (.ifCond .ne 10, 3) := by decide +kernel
set_option maxRecDepth 20000 in
theorem dX10_copy_7 : decode cX10_copy 7 = .ok (.iload_n 3, 1) := by decide +kernel
set_option maxRecDepth 20000 in
theorem dX10_copy_8 : decode cX10_copy 8 = .ok (.invokestatic 115, 3) := by decide +kernel
set_option maxRecDepth 20000 in
theorem dX10_copy_11 : decode cX10_copy 11 = .ok (.ifCond .eq 9, 3) := by decide +kernel
set_option maxRecDepth 20000 in
theorem dX10_copy_14 : decode cX10_copy 14 = .ok (.aload_n 0, 1) := by decide +kernel
set_option maxRecDepth 20000 in
theorem dX10_copy_15 : decode cX10_copy 15 = .ok (.iconst (-1), 1) := by decide +kernel
set_option maxRecDepth 20000 in
theorem dX10_copy_16 : decode cX10_copy 16 = .ok (.invokevirtual 119, 3) := by decide +kernel
set_option maxRecDepth 20000 in
theorem dX10_copy_19 : decode cX10_copy 19 = .ok (.ireturn, 1) := by decide +kernel
set_option maxRecDepth 20000 in
theorem dX10_copy_20 : decode cX10_copy 20 = .ok (.aload_n 0, 1) := by decide +kernel
set_option maxRecDepth 20000 in
theorem dX10_copy_21 : decode cX10_copy 21 = .ok (.getfield 58, 3) := by decide +kernel
set_option maxRecDepth 20000 in
theorem dX10_copy_24 : decode cX10_copy 24 = .ok (.iload_n 1, 1) := by decide +kernel
set_option maxRecDepth 20000 in
theorem dX10_copy_25 : decode cX10_copy 25 = .ok (.iaload, 1) := by decide +kernel
set_option maxRecDepth 20000 in
theorem dX10_copy_26 : decode cX10_copy 26 = .ok (.ifCond .lt 12, 3) := by decide +kernel
set_option maxRecDepth 20000 in
theorem dX10_copy_29 : decode cX10_copy 29 = .ok (.aload_n 0, 1) := by decide +kernel
set_option maxRecDepth 20000 in
theorem dX10_copy_30 : decode cX10_copy 30 = .ok (.getfield 58, 3) := by decide +kernel
set_option maxRecDepth 20000 in
theorem dX10_copy_33 : decode cX10_copy 33 = .ok (.iload_n 3, 1) := by decide +kernel
set_option maxRecDepth 20000 in
theorem dX10_copy_34 : decode cX10_copy 34 = .ok (.iaload, 1) := by decide +kernel
set_option maxRecDepth 20000 in
theorem dX10_copy_35 : decode cX10_copy 35 = .ok (.ifCond .ge 9, 3) := by decide +kernel
set_option maxRecDepth 20000 in
theorem dX10_copy_38 : decode cX10_copy 38 = .ok (.aload_n 0, 1) := by decide +kernel
set_option maxRecDepth 20000 in
theorem dX10_copy_39 : decode cX10_copy 39 = .ok (.iconst 1, 1) := by decide +kernel
set_option maxRecDepth 20000 in
theorem dX10_copy_40 : decode cX10_copy 40 = .ok (.invokevirtual 107, 3) := by decide +kernel
set_option maxRecDepth 20000 in
theorem dX10_copy_43 : decode cX10_copy 43 = .ok (.ireturn, 1) := by decide +kernel
set_option maxRecDepth 20000 in
theorem dX10_copy_44 : decode cX10_copy 44 = .ok (.aload_n 0, 1) := by decide +kernel
set_option maxRecDepth 20000 in
theorem dX10_copy_45 : decode cX10_copy 45 = .ok (.getfield 61, 3) := by decide +kernel
set_option maxRecDepth 20000 in
theorem dX10_copy_48 : decode cX10_copy 48 = .ok (.iload_n 1, 1) := by decide +kernel
set_option maxRecDepth 20000 in
theorem dX10_copy_49 : decode cX10_copy 49 = .ok (.iaload, 1) := by decide +kernel
set_option maxRecDepth 20000 in
theorem dX10_copy_50 : decode cX10_copy 50 = .ok (.aload_n 0, 1) := by decide +kernel
set_option maxRecDepth 20000 in
theorem dX10_copy_51 : decode cX10_copy 51 = .ok (.getfield 61, 3) := by decide +kernel
set_option maxRecDepth 20000 in
theorem dX10_copy_54 : decode cX10_copy 54 = .ok (.iload_n 3, 1) := by decide +kernel
set_option maxRecDepth 20000 in
theorem dX10_copy_55 : decode cX10_copy 55 = .ok (.iaload, 1) := by decide +kernel
set_option maxRecDepth 20000 in
theorem dX10_copy_56 : decode cX10_copy 56 = .ok (.if_icmp .eq 9, 3) := by decide +kernel
set_option maxRecDepth 20000 in
theorem dX10_copy_59 : decode cX10_copy 59 = .ok (.aload_n 0, 1) := by decide +kernel
set_option maxRecDepth 20000 in
theorem dX10_copy_60 : decode cX10_copy 60 = .ok (.iconst 2, 1) := by decide +kernel
set_option maxRecDepth 20000 in
theorem dX10_copy_61 : decode cX10_copy 61 = .ok (.invokevirtual 107, 3) := by decide +kernel
set_option maxRecDepth 20000 in
theorem dX10_copy_64 : decode cX10_copy 64 = .ok (.ireturn, 1) := by decide +kernel
set_option maxRecDepth 20000 in
theorem dX10_copy_65 : decode cX10_copy 65 = .ok (.iload_n 2, 1) := by decide +kernel
set_option maxRecDepth 20000 in
theorem dX10_copy_66 : decode cX10_copy 66 = .ok (.iload 5, 2) := by decide +kernel
set_option maxRecDepth 20000 in
theorem dX10_copy_68 : decode cX10_copy 68 = .ok (.i2l, 1) := by decide +kernel
set_option maxRecDepth 20000 in
theorem dX10_copy_69 : decode cX10_copy 69 = .ok (.aload_n 0, 1) := by decide +kernel
set_option maxRecDepth 20000 in
theorem dX10_copy_70 : decode cX10_copy 70 = .ok (.getfield 58, 3) := by decide +kernel
set_option maxRecDepth 20000 in
theorem dX10_copy_73 : decode cX10_copy 73 = .ok (.iload_n 1, 1) := by decide +kernel
set_option maxRecDepth 20000 in
theorem dX10_copy_74 : decode cX10_copy 74 = .ok (.iaload, 1) := by decide +kernel
set_option maxRecDepth 20000 in
theorem dX10_copy_75 : decode cX10_copy 75 = .ok (.invokestatic 111, 3) := by decide +kernel
set_option maxRecDepth 20000 in
theorem dX10_copy_78 : decode cX10_copy 78 = .ok (.ifCond .ne 20, 3) := by decide +kernel
set_option maxRecDepth 20000 in
theorem dX10_copy_81 : decode cX10_copy 81 = .ok (.iload 4, 2) := by decide +kernel
set_option maxRecDepth 20000 in
theorem dX10_copy_83 : decode cX10_copy 83 = .ok (.iload 5, 2) := by decide +kernel
set_option maxRecDepth 20000 in
theorem dX10_copy_85 : decode cX10_copy 85 = .ok (.i2l, 1) := by decide +kernel
set_option maxRecDepth 20000 in
theorem dX10_copy_86 : decode cX10_copy 86 = .ok (.aload_n 0, 1) := by decide +kernel
set_option maxRecDepth 20000 in
theorem dX10_copy_87 : decode cX10_copy 87 = .ok (.getfield 58, 3) := by decide +kernel
set_option maxRecDepth 20000 in
theorem dX10_copy_90 : decode cX10_copy 90 = .ok (.iload_n 3, 1) := by decide +kernel
set_option maxRecDepth 20000 in
theorem dX10_copy_91 : decode cX10_copy 91 = .ok (.iaload, 1) := by decide +kernel
set_option maxRecDepth 20000 in
theorem dX10_copy_92 : decode cX10_copy 92 = .ok (.invokestatic 111, 3) := by decide +kernel
set_option maxRecDepth 20000 in
theorem dX10_copy_95 : decode cX10_copy 95 = .ok (.ifCond .eq 9, 3) := by decide +kernel
set_option maxRecDepth 20000 in
theorem dX10_copy_98 : decode cX10_copy 98 = .ok (.aload_n 0, 1) := by decide +kernel
set_option maxRecDepth 20000 in
theorem dX10_copy_99 : decode cX10_copy 99 = .ok (.iconst 3, 1) := by decide +kernel
set_option maxRecDepth 20000 in
theorem dX10_copy_100 : decode cX10_copy 100 = .ok (.invokevirtual 107, 3) := by decide +kernel
set_option maxRecDepth 20000 in
theorem dX10_copy_103 : decode cX10_copy 103 = .ok (.ireturn, 1) := by decide +kernel
set_option maxRecDepth 20000 in
theorem dX10_copy_104 : decode cX10_copy 104 = .ok (.iconst 0, 1) := by decide +kernel
set_option maxRecDepth 20000 in
theorem dX10_copy_105 : decode cX10_copy 105 = .ok (.istore 6, 2) := by decide +kernel
set_option maxRecDepth 20000 in
theorem dX10_copy_107 : decode cX10_copy 107 = .ok (.iload 6, 2) := by decide +kernel
set_option maxRecDepth 20000 in
theorem dX10_copy_109 : decode cX10_copy 109 = .ok (.iload 5, 2) := by decide +kernel
set_option maxRecDepth 20000 in
theorem dX10_copy_111 : decode cX10_copy 111 = .ok (.if_icmp .ge 30, 3) := by decide +kernel
set_option maxRecDepth 20000 in
theorem dX10_copy_114 : decode cX10_copy 114 = .ok (.aload_n 0, 1) := by decide +kernel
set_option maxRecDepth 20000 in
theorem dX10_copy_115 : decode cX10_copy 115 = .ok (.getfield 67, 3) := by decide +kernel
set_option maxRecDepth 20000 in
theorem dX10_copy_118 : decode cX10_copy 118 = .ok (.iload 6, 2) := by decide +kernel
set_option maxRecDepth 20000 in
theorem dX10_copy_120 : decode cX10_copy 120 = .ok (.aload_n 0, 1) := by decide +kernel
set_option maxRecDepth 20000 in
theorem dX10_copy_121 : decode cX10_copy 121 = .ok (.getfield 64, 3) := by decide +kernel
set_option maxRecDepth 20000 in
theorem dX10_copy_124 : decode cX10_copy 124 = .ok (.bipush 60, 2) := by decide +kernel
set_option maxRecDepth 20000 in
theorem dX10_copy_126 : decode cX10_copy 126 = .ok (.iload_n 1, 1) := by decide +kernel
set_option maxRecDepth 20000 in
theorem dX10_copy_127 : decode cX10_copy 127 = .ok (.imul, 1) := by decide +kernel
set_option maxRecDepth 20000 in
theorem dX10_copy_128 : decode cX10_copy 128 = .ok (.iload_n 2, 1) := by decide +kernel
set_option maxRecDepth 20000 in
theorem dX10_copy_129 : decode cX10_copy 129 = .ok (.iadd, 1) := by decide +kernel
set_option maxRecDepth 20000 in
theorem dX10_copy_130 : decode cX10_copy 130 = .ok (.iload 6, 2) := by decide +kernel
set_option maxRecDepth 20000 in
theorem dX10_copy_132 : decode cX10_copy 132 = .ok (.iadd, 1) := by decide +kernel
set_option maxRecDepth 20000 in
theorem dX10_copy_133 : decode cX10_copy 133 = .ok (.iaload, 1) := by decide +kernel
set_option maxRecDepth 20000 in
theorem dX10_copy_134 : decode cX10_copy 134 = .ok (.iastore, 1) := by decide +kernel
set_option maxRecDepth 20000 in
theorem dX10_copy_135 : decode cX10_copy 135 = .ok (.iinc 6 1, 3) := by decide +kernel
set_option maxRecDepth 20000 in
theorem dX10_copy_138 : decode cX10_copy 138 = .ok (.goto (-31), 3) := by decide +kernel
set_option maxRecDepth 20000 in
theorem dX10_copy_141 : decode cX10_copy 141 = .ok (.iconst 0, 1) := by decide +kernel
set_option maxRecDepth 20000 in
theorem dX10_copy_142 : decode cX10_copy 142 = .ok (.istore 6, 2) := by decide +kernel
set_option maxRecDepth 20000 in
theorem dX10_copy_144 : decode cX10_copy 144 = .ok (.iload 6, 2) := by decide +kernel
set_option maxRecDepth 20000 in
theorem dX10_copy_146 : decode cX10_copy 146 = .ok (.iload 5, 2) := by decide +kernel
set_option maxRecDepth 20000 in
theorem dX10_copy_148 : decode cX10_copy 148 = .ok (.if_icmp .ge 31, 3) := by decide +kernel
set_option maxRecDepth 20000 in
theorem dX10_copy_151 : decode cX10_copy 151 = .ok (.aload_n 0, 1) := by decide +kernel
set_option maxRecDepth 20000 in
theorem dX10_copy_152 : decode cX10_copy 152 = .ok (.getfield 64, 3) := by decide +kernel
set_option maxRecDepth 20000 in
theorem dX10_copy_155 : decode cX10_copy 155 = .ok (.bipush 60, 2) := by decide +kernel
set_option maxRecDepth 20000 in
theorem dX10_copy_157 : decode cX10_copy 157 = .ok (.iload_n 3, 1) := by decide +kernel
set_option maxRecDepth 20000 in
theorem dX10_copy_158 : decode cX10_copy 158 = .ok (.imul, 1) := by decide +kernel
set_option maxRecDepth 20000 in
theorem dX10_copy_159 : decode cX10_copy 159 = .ok (.iload 4, 2) := by decide +kernel
set_option maxRecDepth 20000 in
theorem dX10_copy_161 : decode cX10_copy 161 = .ok (.iadd, 1) := by decide +kernel
set_option maxRecDepth 20000 in
theorem dX10_copy_162 : decode cX10_copy 162 = .ok (.iload 6, 2) := by decide +kernel
set_option maxRecDepth 20000 in
theorem dX10_copy_164 : decode cX10_copy 164 = .ok (.iadd, 1) := by decide +kernel
set_option maxRecDepth 20000 in
theorem dX10_copy_165 : decode cX10_copy 165 = .ok (.aload_n 0, 1) := by decide +kernel
set_option maxRecDepth 20000 in
theorem dX10_copy_166 : decode cX10_copy 166 = .ok (.getfield 67, 3) := by decide +kernel
set_option maxRecDepth 20000 in
theorem dX10_copy_169 : decode cX10_copy 169 = .ok (.iload 6, 2) := by decide +kernel
set_option maxRecDepth 20000 in
theorem dX10_copy_171 : decode cX10_copy 171 = .ok (.iaload, 1) := by decide +kernel
set_option maxRecDepth 20000 in
theorem dX10_copy_172 : decode cX10_copy 172 = .ok (.iastore, 1) := by decide +kernel
set_option maxRecDepth 20000 in
theorem dX10_copy_173 : decode cX10_copy 173 = .ok (.iinc 6 1, 3) := by decide +kernel
set_option maxRecDepth 20000 in
theorem dX10_copy_176 : decode cX10_copy 176 = .ok (.goto (-32), 3) := by decide +kernel
set_option maxRecDepth 20000 in
theorem dX10_copy_179 : decode cX10_copy 179 = .ok (.aload_n 0, 1) := by decide +kernel
set_option maxRecDepth 20000 in
theorem dX10_copy_180 : decode cX10_copy 180 = .ok (.iload 5, 2) := by decide +kernel
set_option maxRecDepth 20000 in
theorem dX10_copy_182 : decode cX10_copy 182 = .ok (.invokevirtual 119, 3) := by decide +kernel
set_option maxRecDepth 20000 in
theorem dX10_copy_185 : decode cX10_copy 185 = .ok (.ireturn, 1) := by decide +kernel
set_option maxRecDepth 20000 in
theorem dX10_traced_0 : decode cX10_traced 0 = .ok (.aload_n 0, 1) := by decide +kernel
set_option maxRecDepth 20000 in
theorem dX10_traced_1 : decode cX10_traced 1 = .ok (.bipush 31, 2) := by decide +kernel
set_option maxRecDepth 20000 in
theorem dX10_traced_3 : decode cX10_traced 3 = .ok (.aload_n 0, 1) := by decide +kernel
set_option maxRecDepth 20000 in
theorem dX10_traced_4 : decode cX10_traced 4 = .ok (.getfield 218, 3) := by decide +kernel
set_option maxRecDepth 20000 in
theorem dX10_traced_7 : decode cX10_traced 7 = .ok (.imul, 1) := by decide +kernel
set_option maxRecDepth 20000 in
theorem dX10_traced_8 : decode cX10_traced 8 = .ok (.iload_n 1, 1) := by decide +kernel
set_option maxRecDepth 20000 in
theorem dX10_traced_9 : decode cX10_traced 9 = .ok (.iadd, 1) := by decide +kernel
set_option maxRecDepth 20000 in
theorem dX10_traced_10 : decode cX10_traced 10 = .ok (.putfield 218, 3) := by decide +kernel
set_option maxRecDepth 20000 in
theorem dX10_traced_13 : decode cX10_traced 13 = .ok (.return_, 1) := by decide +kernel
set_option maxRecDepth 20000 in
theorem dX10_tell_0 : decode cX10_tell 0 = .ok (.aload_n 0, 1) := by decide +kernel
set_option maxRecDepth 20000 in
theorem dX10_tell_1 : decode cX10_tell 1 = .ok (.iload_n 1, 1) := by decide +kernel
set_option maxRecDepth 20000 in
theorem dX10_tell_2 : decode cX10_tell 2 = .ok (.invokevirtual 140, 3) := by decide +kernel
set_option maxRecDepth 20000 in
theorem dX10_tell_5 : decode cX10_tell 5 = .ok (.ifCond .eq 5, 3) := by decide +kernel
set_option maxRecDepth 20000 in
theorem dX10_tell_8 : decode cX10_tell 8 = .ok (.iconst (-1), 1) := by decide +kernel
set_option maxRecDepth 20000 in
theorem dX10_tell_9 : decode cX10_tell 9 = .ok (.ireturn, 1) := by decide +kernel
set_option maxRecDepth 20000 in
theorem dX10_tell_10 : decode cX10_tell 10 = .ok (.aload_n 0, 1) := by decide +kernel
set_option maxRecDepth 20000 in
theorem dX10_tell_11 : decode cX10_tell 11 = .ok (.getfield 7, 3) := by decide +kernel
set_option maxRecDepth 20000 in
theorem dX10_tell_14 : decode cX10_tell 14 = .ok (.iload_n 1, 1) := by decide +kernel
set_option maxRecDepth 20000 in
theorem dX10_tell_15 : decode cX10_tell 15 = .ok (.iaload, 1) := by decide +kernel
set_option maxRecDepth 20000 in
theorem dX10_tell_16 : decode cX10_tell 16 = .ok (.istore_n 2, 1) := by decide +kernel
set_option maxRecDepth 20000 in
theorem dX10_tell_17 : decode cX10_tell 17 = .ok (.iload_n 2, 1) := by decide +kernel
set_option maxRecDepth 20000 in
theorem dX10_tell_18 : decode cX10_tell 18 = .ok (.iconst 2, 1) := by decide +kernel
set_option maxRecDepth 20000 in
theorem dX10_tell_19 : decode cX10_tell 19 = .ok (.if_icmp .ne 8, 3) := by decide +kernel
set_option maxRecDepth 20000 in
theorem dX10_tell_22 : decode cX10_tell 22 = .ok (.aload_n 0, 1) := by decide +kernel
set_option maxRecDepth 20000 in
theorem dX10_tell_23 : decode cX10_tell 23 = .ok (.iconst 3, 1) := by decide +kernel
set_option maxRecDepth 20000 in
theorem dX10_tell_24 : decode cX10_tell 24 = .ok (.invokevirtual 221, 3) := by decide +kernel
set_option maxRecDepth 20000 in
theorem dX10_tell_27 : decode cX10_tell 27 = .ok (.iload_n 2, 1) := by decide +kernel
set_option maxRecDepth 20000 in
theorem dX10_tell_28 : decode cX10_tell 28 = .ok (.ifCond .le 8, 3) := by decide +kernel
set_option maxRecDepth 20000 in
theorem dX10_tell_31 : decode cX10_tell 31 = .ok (.aload_n 0, 1) := by decide +kernel
set_option maxRecDepth 20000 in
theorem dX10_tell_32 : decode cX10_tell 32 = .ok (.iconst 2, 1) := by decide +kernel
set_option maxRecDepth 20000 in
theorem dX10_tell_33 : decode cX10_tell 33 = .ok (.invokevirtual 221, 3) := by decide +kernel
set_option maxRecDepth 20000 in
theorem dX10_tell_36 : decode cX10_tell 36 = .ok (.aload_n 0, 1) := by decide +kernel
set_option maxRecDepth 20000 in
theorem dX10_tell_37 : decode cX10_tell 37 = .ok (.iconst 1, 1) := by decide +kernel
set_option maxRecDepth 20000 in
theorem dX10_tell_38 : decode cX10_tell 38 = .ok (.invokevirtual 221, 3) := by decide +kernel
set_option maxRecDepth 20000 in
theorem dX10_tell_41 : decode cX10_tell 41 = .ok (.iload_n 2, 1) := by decide +kernel
set_option maxRecDepth 20000 in
theorem dX10_tell_42 : decode cX10_tell 42 = .ok (.iconst 2, 1) := by decide +kernel
set_option maxRecDepth 20000 in
theorem dX10_tell_43 : decode cX10_tell 43 = .ok (.if_icmp .ne 8, 3) := by decide +kernel
set_option maxRecDepth 20000 in
theorem dX10_tell_46 : decode cX10_tell 46 = .ok (.aload_n 0, 1) := by decide +kernel
set_option maxRecDepth 20000 in
theorem dX10_tell_47 : decode cX10_tell 47 = .ok (.iconst 1, 1) := by decide +kernel
set_option maxRecDepth 20000 in
theorem dX10_tell_48 : decode cX10_tell 48 = .ok (.invokevirtual 221, 3) := by decide +kernel
set_option maxRecDepth 20000 in
theorem dX10_tell_51 : decode cX10_tell 51 = .ok (.aload_n 0, 1) := by decide +kernel
set_option maxRecDepth 20000 in
theorem dX10_tell_52 : decode cX10_tell 52 = .ok (.getfield 16, 3) := by decide +kernel
set_option maxRecDepth 20000 in
theorem dX10_tell_55 : decode cX10_tell 55 = .ok (.iload_n 1, 1) := by decide +kernel
set_option maxRecDepth 20000 in
theorem dX10_tell_56 : decode cX10_tell 56 = .ok (.iaload, 1) := by decide +kernel
set_option maxRecDepth 20000 in
theorem dX10_tell_57 : decode cX10_tell 57 = .ok (.istore_n 3, 1) := by decide +kernel
set_option maxRecDepth 20000 in
theorem dX10_tell_58 : decode cX10_tell 58 = .ok (.iload_n 2, 1) := by decide +kernel
set_option maxRecDepth 20000 in
theorem dX10_tell_59 : decode cX10_tell 59 = .ok (.ifCond .ne 7, 3) := by decide +kernel
set_option maxRecDepth 20000 in
theorem dX10_tell_62 : decode cX10_tell 62 = .ok (.iload_n 3, 1) := by decide +kernel
set_option maxRecDepth 20000 in
theorem dX10_tell_63 : decode cX10_tell 63 = .ok (.goto 21, 3) := by decide +kernel
set_option maxRecDepth 20000 in
theorem dX10_tell_66 : decode cX10_tell 66 = .ok (.iload_n 2, 1) := by decide +kernel
set_option maxRecDepth 20000 in
theorem dX10_tell_67 : decode cX10_tell 67 = .ok (.iconst 1, 1) := by decide +kernel
set_option maxRecDepth 20000 in
theorem dX10_tell_68 : decode cX10_tell 68 = .ok (.if_icmp .ne 10, 3) := by decide +kernel
set_option maxRecDepth 20000 in
theorem dX10_tell_71 : decode cX10_tell 71 = .ok (.iload_n 3, 1) := by decide +kernel
set_option maxRecDepth 20000 in
theorem dX10_tell_72 : decode cX10_tell 72 = .ok (.bipush 100, 2) := by decide +kernel
set_option maxRecDepth 20000 in
theorem dX10_tell_74 : decode cX10_tell 74 = .ok (.iadd, 1) := by decide +kernel
set_option maxRecDepth 20000 in
theorem dX10_tell_75 : decode cX10_tell 75 = .ok (.goto 9, 3) := by decide +kernel
set_option maxRecDepth 20000 in
theorem dX10_tell_78 : decode cX10_tell 78 = .ok (.iconst 2, 1) := by decide +kernel
set_option maxRecDepth 20000 in
theorem dX10_tell_79 : decode cX10_tell 79 = .ok (.iload_n 3, 1) := by decide +kernel
set_option maxRecDepth 20000 in
theorem dX10_tell_80 : decode cX10_tell 80 = .ok (.imul, 1) := by decide +kernel
set_option maxRecDepth 20000 in
theorem dX10_tell_81 : decode cX10_tell 81 = .ok (.bipush 100, 2) := by decide +kernel
set_option maxRecDepth 20000 in
theorem dX10_tell_83 : decode cX10_tell 83 = .ok (.iadd, 1) := by decide +kernel
set_option maxRecDepth 20000 in
theorem dX10_tell_84 : decode cX10_tell 84 = .ok (.ireturn, 1) := by decide +kernel
set_option maxRecDepth 20000 in
theorem dX10_call_0 : decode cX10_call 0 = .ok (.aload_n 0, 1) := by decide +kernel
set_option maxRecDepth 20000 in
theorem dX10_call_1 : decode cX10_call 1 = .ok (.iload_n 1, 1) := by decide +kernel
set_option maxRecDepth 20000 in
theorem dX10_call_2 : decode cX10_call 2 = .ok (.invokevirtual 140, 3) := by decide +kernel
set_option maxRecDepth 20000 in
theorem dX10_call_5 : decode cX10_call 5 = .ok (.ifCond .eq 5, 3) := by decide +kernel
set_option maxRecDepth 20000 in
theorem dX10_call_8 : decode cX10_call 8 = .ok (.iconst (-1), 1) := by decide +kernel
set_option maxRecDepth 20000 in
theorem dX10_call_9 : decode cX10_call 9 = .ok (.ireturn, 1) := by decide +kernel
set_option maxRecDepth 20000 in
theorem dX10_call_10 : decode cX10_call 10 = .ok (.aload_n 0, 1) := by decide +kernel
set_option maxRecDepth 20000 in
theorem dX10_call_11 : decode cX10_call 11 = .ok (.aload_n 0, 1) := by decide +kernel
set_option maxRecDepth 20000 in
theorem dX10_call_12 : decode cX10_call 12 = .ok (.getfield 7, 3) := by decide +kernel
set_option maxRecDepth 20000 in
theorem dX10_call_15 : decode cX10_call 15 = .ok (.iload_n 1, 1) := by decide +kernel
set_option maxRecDepth 20000 in
theorem dX10_call_16 : decode cX10_call 16 = .ok (.iaload, 1) := by decide +kernel
set_option maxRecDepth 20000 in
theorem dX10_call_17 : decode cX10_call 17 = .ok (.iconst 2, 1) := by decide +kernel
set_option maxRecDepth 20000 in
theorem dX10_call_18 : decode cX10_call 18 = .ok (.if_icmp .ne 7, 3) := by decide +kernel
set_option maxRecDepth 20000 in
theorem dX10_call_21 : decode cX10_call 21 = .ok (.iconst 5, 1) := by decide +kernel
set_option maxRecDepth 20000 in
theorem dX10_call_22 : decode cX10_call 22 = .ok (.goto 4, 3) := by decide +kernel
set_option maxRecDepth 20000 in
theorem dX10_call_25 : decode cX10_call 25 = .ok (.iconst 4, 1) := by decide +kernel
set_option maxRecDepth 20000 in
theorem dX10_call_26 : decode cX10_call 26 = .ok (.invokevirtual 221, 3) := by decide +kernel
set_option maxRecDepth 20000 in
theorem dX10_call_29 : decode cX10_call 29 = .ok (.aload_n 0, 1) := by decide +kernel
set_option maxRecDepth 20000 in
theorem dX10_call_30 : decode cX10_call 30 = .ok (.getfield 7, 3) := by decide +kernel
set_option maxRecDepth 20000 in
theorem dX10_call_33 : decode cX10_call 33 = .ok (.iload_n 1, 1) := by decide +kernel
set_option maxRecDepth 20000 in
theorem dX10_call_34 : decode cX10_call 34 = .ok (.iaload, 1) := by decide +kernel
set_option maxRecDepth 20000 in
theorem dX10_call_35 : decode cX10_call 35 = .ok (.iconst 2, 1) := by decide +kernel
set_option maxRecDepth 20000 in
theorem dX10_call_36 : decode cX10_call 36 = .ok (.if_icmp .ne 8, 3) := by decide +kernel
set_option maxRecDepth 20000 in
theorem dX10_call_39 : decode cX10_call 39 = .ok (.bipush 20, 2) := by decide +kernel
set_option maxRecDepth 20000 in
theorem dX10_call_41 : decode cX10_call 41 = .ok (.goto 4, 3) := by decide +kernel
set_option maxRecDepth 20000 in
theorem dX10_call_44 : decode cX10_call 44 = .ok (.iload_n 1, 1) := by decide +kernel
set_option maxRecDepth 20000 in
theorem dX10_call_45 : decode cX10_call 45 = .ok (.ireturn, 1) := by decide +kernel
set_option maxRecDepth 20000 in
theorem dX10_as_0 : decode cX10_as 0 = .ok (.aload_n 0, 1) := by decide +kernel
set_option maxRecDepth 20000 in
theorem dX10_as_1 : decode cX10_as 1 = .ok (.iload_n 1, 1) := by decide +kernel
set_option maxRecDepth 20000 in
theorem dX10_as_2 : decode cX10_as 2 = .ok (.invokevirtual 140, 3) := by decide +kernel
set_option maxRecDepth 20000 in
theorem dX10_as_5 : decode cX10_as 5 = .ok (.ifCond .eq 9, 3) := by decide +kernel
set_option maxRecDepth 20000 in
theorem dX10_as_8 : decode cX10_as 8 = .ok (.aload_n 0, 1) := by decide +kernel
set_option maxRecDepth 20000 in
theorem dX10_as_9 : decode cX10_as 9 = .ok (.iconst (-1), 1) := by decide +kernel
set_option maxRecDepth 20000 in
theorem dX10_as_10 : decode cX10_as 10 = .ok (.invokevirtual 119, 3) := by decide +kernel
set_option maxRecDepth 20000 in
theorem dX10_as_13 : decode cX10_as 13 = .ok (.ireturn, 1) := by decide +kernel
set_option maxRecDepth 20000 in
theorem dX10_as_14 : decode cX10_as 14 = .ok (.iload_n 2, 1) := by decide +kernel
set_option maxRecDepth 20000 in
theorem dX10_as_15 : decode cX10_as 15 = .ok (.i2l, 1) := by decide +kernel
set_option maxRecDepth 20000 in
theorem dX10_as_16 : decode cX10_as 16 = .ok (.lconst 0, 1) := by decide +kernel
set_option maxRecDepth 20000 in
theorem dX10_as_17 : decode cX10_as 17 = .ok (.ldc2_w 122, 3) := by decide +kernel
set_option maxRecDepth 20000 in
theorem dX10_as_20 : decode cX10_as 20 = .ok (.invokestatic 83, 3) := by decide +kernel
set_option maxRecDepth 20000 in
theorem dX10_as_23 : decode cX10_as 23 = .ok (.ifCond .ne 10, 3) := by decide +kernel
set_option maxRecDepth 20000 in
theorem dX10_as_26 : decode cX10_as 26 = .ok (.aload_n 0, 1) := by decide +kernel
set_option maxRecDepth 20000 in
theorem dX10_as_27 : decode cX10_as 27 = .ok (.bipush (-2), 2) := by decide +kernel
set_option maxRecDepth 20000 in
theorem dX10_as_29 : decode cX10_as 29 = .ok (.invokevirtual 119, 3) := by decide +kernel
set_option maxRecDepth 20000 in
theorem dX10_as_32 : decode cX10_as 32 = .ok (.ireturn, 1) := by decide +kernel
set_option maxRecDepth 20000 in
theorem dX10_as_33 : decode cX10_as 33 = .ok (.aload_n 0, 1) := by decide +kernel
set_option maxRecDepth 20000 in
theorem dX10_as_34 : decode cX10_as 34 = .ok (.getfield 7, 3) := by decide +kernel
set_option maxRecDepth 20000 in
theorem dX10_as_37 : decode cX10_as 37 = .ok (.iload_n 1, 1) := by decide +kernel
set_option maxRecDepth 20000 in
theorem dX10_as_38 : decode cX10_as 38 = .ok (.iaload, 1) := by decide +kernel
set_option maxRecDepth 20000 in
theorem dX10_as_39 : decode cX10_as 39 = .ok (.iload_n 2, 1) := by decide +kernel
set_option maxRecDepth 20000 in
theorem dX10_as_40 : decode cX10_as 40 = .ok (.if_icmp .lt 11, 3) := by decide +kernel
set_option maxRecDepth 20000 in
theorem dX10_as_43 : decode cX10_as 43 = .ok (.aload_n 0, 1) := by decide +kernel
set_option maxRecDepth 20000 in
theorem dX10_as_44 : decode cX10_as 44 = .ok (.iconst 1, 1) := by decide +kernel
set_option maxRecDepth 20000 in
theorem dX10_as_45 : decode cX10_as 45 = .ok (.invokevirtual 119, 3) := by decide +kernel
set_option maxRecDepth 20000 in
theorem dX10_as_48 : decode cX10_as 48 = .ok (.goto 8, 3) := by decide +kernel
set_option maxRecDepth 20000 in
theorem dX10_as_51 : decode cX10_as 51 = .ok (.aload_n 0, 1) := by decide +kernel
set_option maxRecDepth 20000 in
theorem dX10_as_52 : decode cX10_as 52 = .ok (.iconst 2, 1) := by decide +kernel
set_option maxRecDepth 20000 in
theorem dX10_as_53 : decode cX10_as 53 = .ok (.invokevirtual 107, 3) := by decide +kernel
set_option maxRecDepth 20000 in
theorem dX10_as_56 : decode cX10_as 56 = .ok (.ireturn, 1) := by decide +kernel
set_option maxRecDepth 20000 in
theorem dX10_trace_0 : decode cX10_trace 0 = .ok (.aload_n 0, 1) := by decide +kernel
set_option maxRecDepth 20000 in
theorem dX10_trace_1 : decode cX10_trace 1 = .ok (.getfield 218, 3) := by decide +kernel
set_option maxRecDepth 20000 in
theorem dX10_trace_4 : decode cX10_trace 4 = .ok (.ireturn, 1) := by decide +kernel
set_option maxRecDepth 20000 in
theorem dX10_fault_0 : decode cX10_fault 0 = .ok (.aload_n 0, 1) := by decide +kernel
set_option maxRecDepth 20000 in
theorem dX10_fault_1 : decode cX10_fault 1 = .ok (.getfield 72, 3) := by decide +kernel
set_option maxRecDepth 20000 in
theorem dX10_fault_4 : decode cX10_fault 4 = .ok (.ireturn, 1) := by decide +kernel
set_option maxRecDepth 20000 in
theorem dX10_many_0 : decode cX10_many 0 = .ok (.iload_n 1, 1) := by decide +kernel
set_option maxRecDepth 20000 in
theorem dX10_many_1 : decode cX10_many 1 = .ok (.tableswitch 51 0 3 #[31, 36, 41, 46], 31) := by decide +kernel
set_option maxRecDepth 20000 in
theorem dX10_many_32 : decode cX10_many 32 = .ok (.aload_n 0, 1) := by decide +kernel
set_option maxRecDepth 20000 in
theorem dX10_many_33 : decode cX10_many 33 = .ok (.getfield 80, 3) := by decide +kernel
set_option maxRecDepth 20000 in
theorem dX10_many_36 : decode cX10_many 36 = .ok (.ireturn, 1) := by decide +kernel
set_option maxRecDepth 20000 in
theorem dX10_many_37 : decode cX10_many 37 = .ok (.aload_n 0, 1) := by decide +kernel
set_option maxRecDepth 20000 in
theorem dX10_many_38 : decode cX10_many 38 = .ok (.getfield 134, 3) := by decide +kernel
set_option maxRecDepth 20000 in
theorem dX10_many_41 : decode cX10_many 41 = .ok (.ireturn, 1) := by decide +kernel
set_option maxRecDepth 20000 in
theorem dX10_many_42 : decode cX10_many 42 = .ok (.aload_n 0, 1) := by decide +kernel
set_option maxRecDepth 20000 in
theorem dX10_many_43 : decode cX10_many 43 = .ok (.getfield 137, 3) := by decide +kernel
set_option maxRecDepth 20000 in
theorem dX10_many_46 : decode cX10_many 46 = .ok (.ireturn, 1) := by decide +kernel
set_option maxRecDepth 20000 in
theorem dX10_many_47 : decode cX10_many 47 = .ok (.aload_n 0, 1) := by decide +kernel
set_option maxRecDepth 20000 in
theorem dX10_many_48 : decode cX10_many 48 = .ok (.getfield 131, 3) := by decide +kernel
set_option maxRecDepth 20000 in
theorem dX10_many_51 : decode cX10_many 51 = .ok (.ireturn, 1) := by decide +kernel
set_option maxRecDepth 20000 in
theorem dX10_many_52 : decode cX10_many 52 = .ok (.bipush (-2), 2) := by decide +kernel
set_option maxRecDepth 20000 in
theorem dX10_many_54 : decode cX10_many 54 = .ok (.ireturn, 1) := by decide +kernel
set_option maxRecDepth 20000 in
theorem dJ6_bitCount_0f7a4_0 : decode cJ6_bitCount_0f7a4 0 = .ok (.iload_n 0, 1) := by decide +kernel
set_option maxRecDepth 20000 in
theorem dJ6_bitCount_0f7a4_1 : decode cJ6_bitCount_0f7a4 1 = .ok (.iload_n 0, 1) := by decide +kernel
set_option maxRecDepth 20000 in
theorem dJ6_bitCount_0f7a4_2 : decode cJ6_bitCount_0f7a4 2 = .ok (.iconst 1, 1) := by decide +kernel
set_option maxRecDepth 20000 in
theorem dJ6_bitCount_0f7a4_3 : decode cJ6_bitCount_0f7a4 3 = .ok (.iushr, 1) := by decide +kernel
set_option maxRecDepth 20000 in
theorem dJ6_bitCount_0f7a4_4 : decode cJ6_bitCount_0f7a4 4 = .ok (.ldc_w 265, 3) := by decide +kernel
set_option maxRecDepth 20000 in
theorem dJ6_bitCount_0f7a4_7 : decode cJ6_bitCount_0f7a4 7 = .ok (.iand, 1) := by decide +kernel
set_option maxRecDepth 20000 in
theorem dJ6_bitCount_0f7a4_8 : decode cJ6_bitCount_0f7a4 8 = .ok (.isub, 1) := by decide +kernel
set_option maxRecDepth 20000 in
theorem dJ6_bitCount_0f7a4_9 : decode cJ6_bitCount_0f7a4 9 = .ok (.istore_n 0, 1) := by decide +kernel
set_option maxRecDepth 20000 in
theorem dJ6_bitCount_0f7a4_10 : decode cJ6_bitCount_0f7a4 10 = .ok (.iload_n 0, 1) := by decide +kernel
set_option maxRecDepth 20000 in
theorem dJ6_bitCount_0f7a4_11 : decode cJ6_bitCount_0f7a4 11 = .ok (.ldc_w 266, 3) := by decide +kernel
set_option maxRecDepth 20000 in
theorem dJ6_bitCount_0f7a4_14 : decode cJ6_bitCount_0f7a4 14 = .ok (.iand, 1) := by decide +kernel
set_option maxRecDepth 20000 in
theorem dJ6_bitCount_0f7a4_15 : decode cJ6_bitCount_0f7a4 15 = .ok (.iload_n 0, 1) := by decide +kernel
set_option maxRecDepth 20000 in
theorem dJ6_bitCount_0f7a4_16 : decode cJ6_bitCount_0f7a4 16 = .ok (.iconst 2, 1) := by decide +kernel
set_option maxRecDepth 20000 in
theorem dJ6_bitCount_0f7a4_17 : decode cJ6_bitCount_0f7a4 17 = .ok (.iushr, 1) := by decide +kernel
set_option maxRecDepth 20000 in
theorem dJ6_bitCount_0f7a4_18 : decode cJ6_bitCount_0f7a4 18 = .ok (.ldc_w 266, 3) := by decide +kernel
set_option maxRecDepth 20000 in
theorem dJ6_bitCount_0f7a4_21 : decode cJ6_bitCount_0f7a4 21 = .ok (.iand, 1) := by decide +kernel
set_option maxRecDepth 20000 in
theorem dJ6_bitCount_0f7a4_22 : decode cJ6_bitCount_0f7a4 22 = .ok (.iadd, 1) := by decide +kernel
set_option maxRecDepth 20000 in
theorem dJ6_bitCount_0f7a4_23 : decode cJ6_bitCount_0f7a4 23 = .ok (.istore_n 0, 1) := by decide +kernel
set_option maxRecDepth 20000 in
theorem dJ6_bitCount_0f7a4_24 : decode cJ6_bitCount_0f7a4 24 = .ok (.iload_n 0, 1) := by decide +kernel
set_option maxRecDepth 20000 in
theorem dJ6_bitCount_0f7a4_25 : decode cJ6_bitCount_0f7a4 25 = .ok (.iload_n 0, 1) := by decide +kernel
set_option maxRecDepth 20000 in
theorem dJ6_bitCount_0f7a4_26 : decode cJ6_bitCount_0f7a4 26 = .ok (.iconst 4, 1) := by decide +kernel
set_option maxRecDepth 20000 in
theorem dJ6_bitCount_0f7a4_27 : decode cJ6_bitCount_0f7a4 27 = .ok (.iushr, 1) := by decide +kernel
set_option maxRecDepth 20000 in
theorem dJ6_bitCount_0f7a4_28 : decode cJ6_bitCount_0f7a4 28 = .ok (.iadd, 1) := by decide +kernel
set_option maxRecDepth 20000 in
theorem dJ6_bitCount_0f7a4_29 : decode cJ6_bitCount_0f7a4 29 = .ok (.ldc_w 267, 3) := by decide +kernel
set_option maxRecDepth 20000 in
theorem dJ6_bitCount_0f7a4_32 : decode cJ6_bitCount_0f7a4 32 = .ok (.iand, 1) := by decide +kernel
set_option maxRecDepth 20000 in
theorem dJ6_bitCount_0f7a4_33 : decode cJ6_bitCount_0f7a4 33 = .ok (.istore_n 0, 1) := by decide +kernel
set_option maxRecDepth 20000 in
theorem dJ6_bitCount_0f7a4_34 : decode cJ6_bitCount_0f7a4 34 = .ok (.iload_n 0, 1) := by decide +kernel
set_option maxRecDepth 20000 in
theorem dJ6_bitCount_0f7a4_35 : decode cJ6_bitCount_0f7a4 35 = .ok (.iload_n 0, 1) := by decide +kernel
set_option maxRecDepth 20000 in
theorem dJ6_bitCount_0f7a4_36 : decode cJ6_bitCount_0f7a4 36 = .ok (.bipush 8, 2) := by decide +kernel
set_option maxRecDepth 20000 in
theorem dJ6_bitCount_0f7a4_38 : decode cJ6_bitCount_0f7a4 38 = .ok (.iushr, 1) := by decide +kernel
set_option maxRecDepth 20000 in
theorem dJ6_bitCount_0f7a4_39 : decode cJ6_bitCount_0f7a4 39 = .ok (.iadd, 1) := by decide +kernel
set_option maxRecDepth 20000 in
theorem dJ6_bitCount_0f7a4_40 : decode cJ6_bitCount_0f7a4 40 = .ok (.istore_n 0, 1) := by decide +kernel
set_option maxRecDepth 20000 in
theorem dJ6_bitCount_0f7a4_41 : decode cJ6_bitCount_0f7a4 41 = .ok (.iload_n 0, 1) := by decide +kernel
set_option maxRecDepth 20000 in
theorem dJ6_bitCount_0f7a4_42 : decode cJ6_bitCount_0f7a4 42 = .ok (.iload_n 0, 1) := by decide +kernel
set_option maxRecDepth 20000 in
theorem dJ6_bitCount_0f7a4_43 : decode cJ6_bitCount_0f7a4 43 = .ok (.bipush 16, 2) := by decide +kernel
set_option maxRecDepth 20000 in
theorem dJ6_bitCount_0f7a4_45 : decode cJ6_bitCount_0f7a4 45 = .ok (.iushr, 1) := by decide +kernel
set_option maxRecDepth 20000 in
theorem dJ6_bitCount_0f7a4_46 : decode cJ6_bitCount_0f7a4 46 = .ok (.iadd, 1) := by decide +kernel
set_option maxRecDepth 20000 in
theorem dJ6_bitCount_0f7a4_47 : decode cJ6_bitCount_0f7a4 47 = .ok (.istore_n 0, 1) := by decide +kernel
set_option maxRecDepth 20000 in
theorem dJ6_bitCount_0f7a4_48 : decode cJ6_bitCount_0f7a4 48 = .ok (.iload_n 0, 1) := by decide +kernel
set_option maxRecDepth 20000 in
theorem dJ6_bitCount_0f7a4_49 : decode cJ6_bitCount_0f7a4 49 = .ok (.bipush 63, 2) := by decide +kernel
set_option maxRecDepth 20000 in
theorem dJ6_bitCount_0f7a4_51 : decode cJ6_bitCount_0f7a4 51 = .ok (.iand, 1) := by decide +kernel
set_option maxRecDepth 20000 in
theorem dJ6_bitCount_0f7a4_52 : decode cJ6_bitCount_0f7a4 52 = .ok (.ireturn, 1) := by decide +kernel
set_option maxRecDepth 20000 in
theorem dJ9_min_7cf53_0 : decode cJ9_min_7cf53 0 = .ok (.iload_n 0, 1) := by decide +kernel
set_option maxRecDepth 20000 in
theorem dJ9_min_7cf53_1 : decode cJ9_min_7cf53 1 = .ok (.iload_n 1, 1) := by decide +kernel
set_option maxRecDepth 20000 in
theorem dJ9_min_7cf53_2 : decode cJ9_min_7cf53 2 = .ok (.if_icmp .gt 7, 3) := by decide +kernel
set_option maxRecDepth 20000 in
theorem dJ9_min_7cf53_5 : decode cJ9_min_7cf53 5 = .ok (.iload_n 0, 1) := by decide +kernel
set_option maxRecDepth 20000 in
theorem dJ9_min_7cf53_6 : decode cJ9_min_7cf53 6 = .ok (.goto 4, 3) := by decide +kernel
set_option maxRecDepth 20000 in
theorem dJ9_min_7cf53_9 : decode cJ9_min_7cf53 9 = .ok (.iload_n 1, 1) := by decide +kernel
set_option maxRecDepth 20000 in
theorem dJ9_min_7cf53_10 : decode cJ9_min_7cf53 10 = .ok (.ireturn, 1) := by decide +kernel
set_option maxRecDepth 20000 in
theorem dJ7_fill_53178_0 : decode cJ7_fill_53178 0 = .ok (.iconst 0, 1) := by decide +kernel
set_option maxRecDepth 20000 in
theorem dJ7_fill_53178_1 : decode cJ7_fill_53178 1 = .ok (.istore_n 2, 1) := by decide +kernel
set_option maxRecDepth 20000 in
theorem dJ7_fill_53178_2 : decode cJ7_fill_53178 2 = .ok (.aload_n 0, 1) := by decide +kernel
set_option maxRecDepth 20000 in
theorem dJ7_fill_53178_3 : decode cJ7_fill_53178 3 = .ok (.arraylength, 1) := by decide +kernel
set_option maxRecDepth 20000 in
theorem dJ7_fill_53178_4 : decode cJ7_fill_53178 4 = .ok (.istore_n 3, 1) := by decide +kernel
set_option maxRecDepth 20000 in
theorem dJ7_fill_53178_5 : decode cJ7_fill_53178 5 = .ok (.iload_n 2, 1) := by decide +kernel
set_option maxRecDepth 20000 in
theorem dJ7_fill_53178_6 : decode cJ7_fill_53178 6 = .ok (.iload_n 3, 1) := by decide +kernel
set_option maxRecDepth 20000 in
theorem dJ7_fill_53178_7 : decode cJ7_fill_53178 7 = .ok (.if_icmp .ge 13, 3) := by decide +kernel
set_option maxRecDepth 20000 in
theorem dJ7_fill_53178_10 : decode cJ7_fill_53178 10 = .ok (.aload_n 0, 1) := by decide +kernel
set_option maxRecDepth 20000 in
theorem dJ7_fill_53178_11 : decode cJ7_fill_53178 11 = .ok (.iload_n 2, 1) := by decide +kernel
set_option maxRecDepth 20000 in
theorem dJ7_fill_53178_12 : decode cJ7_fill_53178 12 = .ok (.iload_n 1, 1) := by decide +kernel
set_option maxRecDepth 20000 in
theorem dJ7_fill_53178_13 : decode cJ7_fill_53178 13 = .ok (.iastore, 1) := by decide +kernel
set_option maxRecDepth 20000 in
theorem dJ7_fill_53178_14 : decode cJ7_fill_53178 14 = .ok (.iinc 2 1, 3) := by decide +kernel
set_option maxRecDepth 20000 in
theorem dJ7_fill_53178_17 : decode cJ7_fill_53178 17 = .ok (.goto (-12), 3) := by decide +kernel
set_option maxRecDepth 20000 in
theorem dJ7_fill_53178_20 : decode cJ7_fill_53178 20 = .ok (.return_, 1) := by decide +kernel
set_option maxRecDepth 20000 in
theorem dL_law_0 : decode cL_law 0 = .ok (.new 7, 3) := by decide +kernel
set_option maxRecDepth 20000 in
theorem dL_law_3 : decode cL_law 3 = .ok (.dup, 1) := by decide +kernel
set_option maxRecDepth 20000 in
theorem dL_law_4 : decode cL_law 4 = .ok (.invokespecial 9, 3) := by decide +kernel
set_option maxRecDepth 20000 in
theorem dL_law_7 : decode cL_law 7 = .ok (.astore_n 1, 1) := by decide +kernel
set_option maxRecDepth 20000 in
theorem dL_law_8 : decode cL_law 8 = .ok (.new 10, 3) := by decide +kernel
set_option maxRecDepth 20000 in
theorem dL_law_11 : decode cL_law 11 = .ok (.dup, 1) := by decide +kernel
set_option maxRecDepth 20000 in
theorem dL_law_12 : decode cL_law 12 = .ok (.invokespecial 12, 3) := by decide +kernel
set_option maxRecDepth 20000 in
theorem dL_law_15 : decode cL_law 15 = .ok (.astore_n 2, 1) := by decide +kernel
set_option maxRecDepth 20000 in
theorem dL_law_16 : decode cL_law 16 = .ok (.iconst 0, 1) := by decide +kernel
set_option maxRecDepth 20000 in
theorem dL_law_17 : decode cL_law 17 = .ok (.istore_n 3, 1) := by decide +kernel
set_option maxRecDepth 20000 in
theorem dL_law_18 : decode cL_law 18 = .ok (.iload_n 3, 1) := by decide +kernel
set_option maxRecDepth 20000 in
theorem dL_law_19 : decode cL_law 19 = .ok (.aload_n 0, 1) := by decide +kernel
set_option maxRecDepth 20000 in
theorem dL_law_20 : decode cL_law 20 = .ok (.arraylength, 1) := by decide +kernel
set_option maxRecDepth 20000 in
theorem dL_law_21 : decode cL_law 21 = .ok (.bipush 6, 2) := by decide +kernel
set_option maxRecDepth 20000 in
theorem dL_law_23 : decode cL_law 23 = .ok (.isub, 1) := by decide +kernel
set_option maxRecDepth 20000 in
theorem dL_law_24 : decode cL_law 24 = .ok (.if_icmp .gt 1106, 3) := by decide +kernel
set_option maxRecDepth 20000 in
theorem dL_law_27 : decode cL_law 27 = .ok (.aload_n 0, 1) := by decide +kernel
set_option maxRecDepth 20000 in
theorem dL_law_28 : decode cL_law 28 = .ok (.iload_n 3, 1) := by decide +kernel
set_option maxRecDepth 20000 in
theorem dL_law_29 : decode cL_law 29 = .ok (.iaload, 1) := by decide +kernel
set_option maxRecDepth 20000 in
theorem dL_law_30 : decode cL_law 30 = .ok (.bipush 31, 2) := by decide +kernel
set_option maxRecDepth 20000 in
theorem dL_law_32 : decode cL_law 32 = .ok (.iand, 1) := by decide +kernel
set_option maxRecDepth 20000 in
theorem dL_law_33 : decode cL_law 33 = .ok (.tableswitch 1091 0 31 #[143, 196, 229, 252, 285, 328, 351, 384, 407, 430, 443, 466, 499, 522, 545, 568, 621, 654, 677, 700, 713, 747, 790, 813, 856, 900, 963, 986, 1009, 1042, 1055, 1068], 143) := by decide +kernel
set_option maxRecDepth 20000 in
theorem dL_law_176 : decode cL_law 176 = .ok (.aload_n 1, 1) := by decide +kernel
set_option maxRecDepth 20000 in
theorem dL_law_177 : decode cL_law 177 = .ok (.aload_n 0, 1) := by decide +kernel
set_option maxRecDepth 20000 in
theorem dL_law_178 : decode cL_law 178 = .ok (.iload_n 3, 1) := by decide +kernel
set_option maxRecDepth 20000 in
theorem dL_law_179 : decode cL_law 179 = .ok (.iconst 1, 1) := by decide +kernel
set_option maxRecDepth 20000 in
theorem dL_law_180 : decode cL_law 180 = .ok (.iadd, 1) := by decide +kernel
set_option maxRecDepth 20000 in
theorem dL_law_181 : decode cL_law 181 = .ok (.iaload, 1) := by decide +kernel
set_option maxRecDepth 20000 in
theorem dL_law_182 : decode cL_law 182 = .ok (.aload_n 0, 1) := by decide +kernel
set_option maxRecDepth 20000 in
theorem dL_law_183 : decode cL_law 183 = .ok (.iload_n 3, 1) := by decide +kernel
set_option maxRecDepth 20000 in
theorem dL_law_184 : decode cL_law 184 = .ok (.iconst 2, 1) := by decide +kernel
set_option maxRecDepth 20000 in
theorem dL_law_185 : decode cL_law 185 = .ok (.iadd, 1) := by decide +kernel
set_option maxRecDepth 20000 in
theorem dL_law_186 : decode cL_law 186 = .ok (.iaload, 1) := by decide +kernel
set_option maxRecDepth 20000 in
theorem dL_law_187 : decode cL_law 187 = .ok (.aload_n 0, 1) := by decide +kernel
set_option maxRecDepth 20000 in
theorem dL_law_188 : decode cL_law 188 = .ok (.iload_n 3, 1) := by decide +kernel
set_option maxRecDepth 20000 in
theorem dL_law_189 : decode cL_law 189 = .ok (.iconst 3, 1) := by decide +kernel
set_option maxRecDepth 20000 in
theorem dL_law_190 : decode cL_law 190 = .ok (.iadd, 1) := by decide +kernel
set_option maxRecDepth 20000 in
theorem dL_law_191 : decode cL_law 191 = .ok (.iaload, 1) := by decide +kernel
set_option maxRecDepth 20000 in
theorem dL_law_192 : decode cL_law 192 = .ok (.aload_n 0, 1) := by decide +kernel
set_option maxRecDepth 20000 in
theorem dL_law_193 : decode cL_law 193 = .ok (.iload_n 3, 1) := by decide +kernel
set_option maxRecDepth 20000 in
theorem dL_law_194 : decode cL_law 194 = .ok (.iconst 4, 1) := by decide +kernel
set_option maxRecDepth 20000 in
theorem dL_law_195 : decode cL_law 195 = .ok (.iadd, 1) := by decide +kernel
set_option maxRecDepth 20000 in
theorem dL_law_196 : decode cL_law 196 = .ok (.iaload, 1) := by decide +kernel
set_option maxRecDepth 20000 in
theorem dL_law_197 : decode cL_law 197 = .ok (.invokevirtual 13, 3) := by decide +kernel
set_option maxRecDepth 20000 in
theorem dL_law_200 : decode cL_law 200 = .ok (.aload_n 2, 1) := by decide +kernel
set_option maxRecDepth 20000 in
theorem dL_law_201 : decode cL_law 201 = .ok (.aload_n 0, 1) := by decide +kernel
set_option maxRecDepth 20000 in
theorem dL_law_202 : decode cL_law 202 = .ok (.iload_n 3, 1) := by decide +kernel
set_option maxRecDepth 20000 in
theorem dL_law_203 : decode cL_law 203 = .ok (.iconst 1, 1) := by decide +kernel
set_option maxRecDepth 20000 in
theorem dL_law_204 : decode cL_law 204 = .ok (.iadd, 1) := by decide +kernel
set_option maxRecDepth 20000 in
theorem dL_law_205 : decode cL_law 205 = .ok (.iaload, 1) := by decide +kernel
set_option maxRecDepth 20000 in
theorem dL_law_206 : decode cL_law 206 = .ok (.aload_n 0, 1) := by decide +kernel
set_option maxRecDepth 20000 in
theorem dL_law_207 : decode cL_law 207 = .ok (.iload_n 3, 1) := by decide +kernel
set_option maxRecDepth 20000 in
theorem dL_law_208 : decode cL_law 208 = .ok (.iconst 2, 1) := by decide +kernel
set_option maxRecDepth 20000 in
theorem dL_law_209 : decode cL_law 209 = .ok (.iadd, 1) := by decide +kernel
set_option maxRecDepth 20000 in
theorem dL_law_210 : decode cL_law 210 = .ok (.iaload, 1) := by decide +kernel
set_option maxRecDepth 20000 in
theorem dL_law_211 : decode cL_law 211 = .ok (.aload_n 0, 1) := by decide +kernel
set_option maxRecDepth 20000 in
theorem dL_law_212 : decode cL_law 212 = .ok (.iload_n 3, 1) := by decide +kernel
set_option maxRecDepth 20000 in
theorem dL_law_213 : decode cL_law 213 = .ok (.iconst 3, 1) := by decide +kernel
set_option maxRecDepth 20000 in
theorem dL_law_214 : decode cL_law 214 = .ok (.iadd, 1) := by decide +kernel
set_option maxRecDepth 20000 in
theorem dL_law_215 : decode cL_law 215 = .ok (.iaload, 1) := by decide +kernel
set_option maxRecDepth 20000 in
theorem dL_law_216 : decode cL_law 216 = .ok (.aload_n 0, 1) := by decide +kernel
set_option maxRecDepth 20000 in
theorem dL_law_217 : decode cL_law 217 = .ok (.iload_n 3, 1) := by decide +kernel
set_option maxRecDepth 20000 in
theorem dL_law_218 : decode cL_law 218 = .ok (.iconst 4, 1) := by decide +kernel
set_option maxRecDepth 20000 in
theorem dL_law_219 : decode cL_law 219 = .ok (.iadd, 1) := by decide +kernel
set_option maxRecDepth 20000 in
theorem dL_law_220 : decode cL_law 220 = .ok (.iaload, 1) := by decide +kernel
set_option maxRecDepth 20000 in
theorem dL_law_221 : decode cL_law 221 = .ok (.invokevirtual 17, 3) := by decide +kernel
set_option maxRecDepth 20000 in
theorem dL_law_224 : decode cL_law 224 = .ok (.if_icmp .eq 900, 3) := by decide +kernel
set_option maxRecDepth 20000 in
theorem dL_law_227 : decode cL_law 227 = .ok (.iconst 0, 1) := by decide +kernel
set_option maxRecDepth 20000 in
theorem dL_law_228 : decode cL_law 228 = .ok (.ireturn, 1) := by decide +kernel
set_option maxRecDepth 20000 in
theorem dL_law_229 : decode cL_law 229 = .ok (.aload_n 1, 1) := by decide +kernel
set_option maxRecDepth 20000 in
theorem dL_law_230 : decode cL_law 230 = .ok (.aload_n 0, 1) := by decide +kernel
set_option maxRecDepth 20000 in
theorem dL_law_231 : decode cL_law 231 = .ok (.iload_n 3, 1) := by decide +kernel
set_option maxRecDepth 20000 in
theorem dL_law_232 : decode cL_law 232 = .ok (.iconst 1, 1) := by decide +kernel
set_option maxRecDepth 20000 in
theorem dL_law_233 : decode cL_law 233 = .ok (.iadd, 1) := by decide +kernel
set_option maxRecDepth 20000 in
theorem dL_law_234 : decode cL_law 234 = .ok (.iaload, 1) := by decide +kernel
set_option maxRecDepth 20000 in
theorem dL_law_235 : decode cL_law 235 = .ok (.aload_n 0, 1) := by decide +kernel
set_option maxRecDepth 20000 in
theorem dL_law_236 : decode cL_law 236 = .ok (.iload_n 3, 1) := by decide +kernel
set_option maxRecDepth 20000 in
theorem dL_law_237 : decode cL_law 237 = .ok (.iconst 2, 1) := by decide +kernel
set_option maxRecDepth 20000 in
theorem dL_law_238 : decode cL_law 238 = .ok (.iadd, 1) := by decide +kernel
set_option maxRecDepth 20000 in
theorem dL_law_239 : decode cL_law 239 = .ok (.iaload, 1) := by decide +kernel
set_option maxRecDepth 20000 in
theorem dL_law_240 : decode cL_law 240 = .ok (.invokevirtual 18, 3) := by decide +kernel
set_option maxRecDepth 20000 in
theorem dL_law_243 : decode cL_law 243 = .ok (.aload_n 2, 1) := by decide +kernel
set_option maxRecDepth 20000 in
theorem dL_law_244 : decode cL_law 244 = .ok (.aload_n 0, 1) := by decide +kernel
set_option maxRecDepth 20000 in
theorem dL_law_245 : decode cL_law 245 = .ok (.iload_n 3, 1) := by decide +kernel
set_option maxRecDepth 20000 in
theorem dL_law_246 : decode cL_law 246 = .ok (.iconst 1, 1) := by decide +kernel
set_option maxRecDepth 20000 in
theorem dL_law_247 : decode cL_law 247 = .ok (.iadd, 1) := by decide +kernel
set_option maxRecDepth 20000 in
theorem dL_law_248 : decode cL_law 248 = .ok (.iaload, 1) := by decide +kernel
set_option maxRecDepth 20000 in
theorem dL_law_249 : decode cL_law 249 = .ok (.aload_n 0, 1) := by decide +kernel
set_option maxRecDepth 20000 in
theorem dL_law_250 : decode cL_law 250 = .ok (.iload_n 3, 1) := by decide +kernel
set_option maxRecDepth 20000 in
theorem dL_law_251 : decode cL_law 251 = .ok (.iconst 2, 1) := by decide +kernel
set_option maxRecDepth 20000 in
theorem dL_law_252 : decode cL_law 252 = .ok (.iadd, 1) := by decide +kernel
set_option maxRecDepth 20000 in
theorem dL_law_253 : decode cL_law 253 = .ok (.iaload, 1) := by decide +kernel
set_option maxRecDepth 20000 in
theorem dL_law_254 : decode cL_law 254 = .ok (.invokevirtual 22, 3) := by decide +kernel
set_option maxRecDepth 20000 in
theorem dL_law_257 : decode cL_law 257 = .ok (.if_icmp .eq 867, 3) := by decide +kernel
set_option maxRecDepth 20000 in
theorem dL_law_260 : decode cL_law 260 = .ok (.iconst 0, 1) := by decide +kernel
set_option maxRecDepth 20000 in
theorem dL_law_261 : decode cL_law 261 = .ok (.ireturn, 1) := by decide +kernel
set_option maxRecDepth 20000 in
theorem dL_law_262 : decode cL_law 262 = .ok (.aload_n 1, 1) := by decide +kernel
set_option maxRecDepth 20000 in
theorem dL_law_263 : decode cL_law 263 = .ok (.aload_n 0, 1) := by decide +kernel
set_option maxRecDepth 20000 in
theorem dL_law_264 : decode cL_law 264 = .ok (.iload_n 3, 1) := by decide +kernel
set_option maxRecDepth 20000 in
theorem dL_law_265 : decode cL_law 265 = .ok (.iconst 1, 1) := by decide +kernel
set_option maxRecDepth 20000 in
theorem dL_law_266 : decode cL_law 266 = .ok (.iadd, 1) := by decide +kernel
set_option maxRecDepth 20000 in
theorem dL_law_267 : decode cL_law 267 = .ok (.iaload, 1) := by decide +kernel
set_option maxRecDepth 20000 in
theorem dL_law_268 : decode cL_law 268 = .ok (.invokevirtual 23, 3) := by decide +kernel
set_option maxRecDepth 20000 in
theorem dL_law_271 : decode cL_law 271 = .ok (.aload_n 2, 1) := by decide +kernel
set_option maxRecDepth 20000 in
theorem dL_law_272 : decode cL_law 272 = .ok (.aload_n 0, 1) := by decide +kernel
set_option maxRecDepth 20000 in
theorem dL_law_273 : decode cL_law 273 = .ok (.iload_n 3, 1) := by decide +kernel
set_option maxRecDepth 20000 in
theorem dL_law_274 : decode cL_law 274 = .ok (.iconst 1, 1) := by decide +kernel
set_option maxRecDepth 20000 in
theorem dL_law_275 : decode cL_law 275 = .ok (.iadd, 1) := by decide +kernel
set_option maxRecDepth 20000 in
theorem dL_law_276 : decode cL_law 276 = .ok (.iaload, 1) := by decide +kernel
set_option maxRecDepth 20000 in
theorem dL_law_277 : decode cL_law 277 = .ok (.invokevirtual 27, 3) := by decide +kernel
set_option maxRecDepth 20000 in
theorem dL_law_280 : decode cL_law 280 = .ok (.if_icmp .eq 844, 3) := by decide +kernel
set_option maxRecDepth 20000 in
theorem dL_law_283 : decode cL_law 283 = .ok (.iconst 0, 1) := by decide +kernel
set_option maxRecDepth 20000 in
theorem dL_law_284 : decode cL_law 284 = .ok (.ireturn, 1) := by decide +kernel
set_option maxRecDepth 20000 in
theorem dL_law_285 : decode cL_law 285 = .ok (.aload_n 1, 1) := by decide +kernel
set_option maxRecDepth 20000 in
theorem dL_law_286 : decode cL_law 286 = .ok (.aload_n 0, 1) := by decide +kernel
set_option maxRecDepth 20000 in
theorem dL_law_287 : decode cL_law 287 = .ok (.iload_n 3, 1) := by decide +kernel
set_option maxRecDepth 20000 in
theorem dL_law_288 : decode cL_law 288 = .ok (.iconst 1, 1) := by decide +kernel
set_option maxRecDepth 20000 in
theorem dL_law_289 : decode cL_law 289 = .ok (.iadd, 1) := by decide +kernel
set_option maxRecDepth 20000 in
theorem dL_law_290 : decode cL_law 290 = .ok (.iaload, 1) := by decide +kernel
set_option maxRecDepth 20000 in
theorem dL_law_291 : decode cL_law 291 = .ok (.aload_n 0, 1) := by decide +kernel
set_option maxRecDepth 20000 in
theorem dL_law_292 : decode cL_law 292 = .ok (.iload_n 3, 1) := by decide +kernel
set_option maxRecDepth 20000 in
theorem dL_law_293 : decode cL_law 293 = .ok (.iconst 2, 1) := by decide +kernel
set_option maxRecDepth 20000 in
theorem dL_law_294 : decode cL_law 294 = .ok (.iadd, 1) := by decide +kernel
set_option maxRecDepth 20000 in
theorem dL_law_295 : decode cL_law 295 = .ok (.iaload, 1) := by decide +kernel
set_option maxRecDepth 20000 in
theorem dL_law_296 : decode cL_law 296 = .ok (.invokevirtual 28, 3) := by decide +kernel
set_option maxRecDepth 20000 in
theorem dL_law_299 : decode cL_law 299 = .ok (.aload_n 2, 1) := by decide +kernel
set_option maxRecDepth 20000 in
theorem dL_law_300 : decode cL_law 300 = .ok (.aload_n 0, 1) := by decide +kernel
set_option maxRecDepth 20000 in
theorem dL_law_301 : decode cL_law 301 = .ok (.iload_n 3, 1) := by decide +kernel
set_option maxRecDepth 20000 in
theorem dL_law_302 : decode cL_law 302 = .ok (.iconst 1, 1) := by decide +kernel
set_option maxRecDepth 20000 in
theorem dL_law_303 : decode cL_law 303 = .ok (.iadd, 1) := by decide +kernel
set_option maxRecDepth 20000 in
theorem dL_law_304 : decode cL_law 304 = .ok (.iaload, 1) := by decide +kernel
set_option maxRecDepth 20000 in
theorem dL_law_305 : decode cL_law 305 = .ok (.aload_n 0, 1) := by decide +kernel
set_option maxRecDepth 20000 in
theorem dL_law_306 : decode cL_law 306 = .ok (.iload_n 3, 1) := by decide +kernel
set_option maxRecDepth 20000 in
theorem dL_law_307 : decode cL_law 307 = .ok (.iconst 2, 1) := by decide +kernel
set_option maxRecDepth 20000 in
theorem dL_law_308 : decode cL_law 308 = .ok (.iadd, 1) := by decide +kernel
set_option maxRecDepth 20000 in
theorem dL_law_309 : decode cL_law 309 = .ok (.iaload, 1) := by decide +kernel
set_option maxRecDepth 20000 in
theorem dL_law_310 : decode cL_law 310 = .ok (.invokevirtual 31, 3) := by decide +kernel
set_option maxRecDepth 20000 in
theorem dL_law_313 : decode cL_law 313 = .ok (.if_icmp .eq 811, 3) := by decide +kernel
set_option maxRecDepth 20000 in
theorem dL_law_316 : decode cL_law 316 = .ok (.iconst 0, 1) := by decide +kernel
set_option maxRecDepth 20000 in
theorem dL_law_317 : decode cL_law 317 = .ok (.ireturn, 1) := by decide +kernel
set_option maxRecDepth 20000 in
theorem dL_law_318 : decode cL_law 318 = .ok (.aload_n 1, 1) := by decide +kernel
set_option maxRecDepth 20000 in
theorem dL_law_319 : decode cL_law 319 = .ok (.aload_n 0, 1) := by decide +kernel
set_option maxRecDepth 20000 in
theorem dL_law_320 : decode cL_law 320 = .ok (.iload_n 3, 1) := by decide +kernel
set_option maxRecDepth 20000 in
theorem dL_law_321 : decode cL_law 321 = .ok (.iconst 1, 1) := by decide +kernel
set_option maxRecDepth 20000 in
theorem dL_law_322 : decode cL_law 322 = .ok (.iadd, 1) := by decide +kernel
set_option maxRecDepth 20000 in
theorem dL_law_323 : decode cL_law 323 = .ok (.iaload, 1) := by decide +kernel
set_option maxRecDepth 20000 in
theorem dL_law_324 : decode cL_law 324 = .ok (.aload_n 0, 1) := by decide +kernel
set_option maxRecDepth 20000 in
theorem dL_law_325 : decode cL_law 325 = .ok (.iload_n 3, 1) := by decide +kernel
set_option maxRecDepth 20000 in
theorem dL_law_326 : decode cL_law 326 = .ok (.iconst 2, 1) := by decide +kernel
set_option maxRecDepth 20000 in
theorem dL_law_327 : decode cL_law 327 = .ok (.iadd, 1) := by decide +kernel
set_option maxRecDepth 20000 in
theorem dL_law_328 : decode cL_law 328 = .ok (.iaload, 1) := by decide +kernel
set_option maxRecDepth 20000 in
theorem dL_law_329 : decode cL_law 329 = .ok (.aload_n 0, 1) := by decide +kernel
set_option maxRecDepth 20000 in
theorem dL_law_330 : decode cL_law 330 = .ok (.iload_n 3, 1) := by decide +kernel
set_option maxRecDepth 20000 in
theorem dL_law_331 : decode cL_law 331 = .ok (.iconst 3, 1) := by decide +kernel
set_option maxRecDepth 20000 in
theorem dL_law_332 : decode cL_law 332 = .ok (.iadd, 1) := by decide +kernel
set_option maxRecDepth 20000 in
theorem dL_law_333 : decode cL_law 333 = .ok (.iaload, 1) := by decide +kernel
set_option maxRecDepth 20000 in
theorem dL_law_334 : decode cL_law 334 = .ok (.invokevirtual 32, 3) := by decide +kernel
set_option maxRecDepth 20000 in
theorem dL_law_337 : decode cL_law 337 = .ok (.aload_n 2, 1) := by decide +kernel
set_option maxRecDepth 20000 in
theorem dL_law_338 : decode cL_law 338 = .ok (.aload_n 0, 1) := by decide +kernel
set_option maxRecDepth 20000 in
theorem dL_law_339 : decode cL_law 339 = .ok (.iload_n 3, 1) := by decide +kernel
set_option maxRecDepth 20000 in
theorem dL_law_340 : decode cL_law 340 = .ok (.iconst 1, 1) := by decide +kernel
set_option maxRecDepth 20000 in
theorem dL_law_341 : decode cL_law 341 = .ok (.iadd, 1) := by decide +kernel
set_option maxRecDepth 20000 in
theorem dL_law_342 : decode cL_law 342 = .ok (.iaload, 1) := by decide +kernel
set_option maxRecDepth 20000 in
theorem dL_law_343 : decode cL_law 343 = .ok (.aload_n 0, 1) := by decide +kernel
set_option maxRecDepth 20000 in
theorem dL_law_344 : decode cL_law 344 = .ok (.iload_n 3, 1) := by decide +kernel
set_option maxRecDepth 20000 in
theorem dL_law_345 : decode cL_law 345 = .ok (.iconst 2, 1) := by decide +kernel
set_option maxRecDepth 20000 in
theorem dL_law_346 : decode cL_law 346 = .ok (.iadd, 1) := by decide +kernel
set_option maxRecDepth 20000 in
theorem dL_law_347 : decode cL_law 347 = .ok (.iaload, 1) := by decide +kernel
set_option maxRecDepth 20000 in
theorem dL_law_348 : decode cL_law 348 = .ok (.aload_n 0, 1) := by decide +kernel
set_option maxRecDepth 20000 in
theorem dL_law_349 : decode cL_law 349 = .ok (.iload_n 3, 1) := by decide +kernel
set_option maxRecDepth 20000 in
theorem dL_law_350 : decode cL_law 350 = .ok (.iconst 3, 1) := by decide +kernel
set_option maxRecDepth 20000 in
theorem dL_law_351 : decode cL_law 351 = .ok (.iadd, 1) := by decide +kernel
set_option maxRecDepth 20000 in
theorem dL_law_352 : decode cL_law 352 = .ok (.iaload, 1) := by decide +kernel
set_option maxRecDepth 20000 in
theorem dL_law_353 : decode cL_law 353 = .ok (.invokevirtual 36, 3) := by decide +kernel
set_option maxRecDepth 20000 in
theorem dL_law_356 : decode cL_law 356 = .ok (.if_icmp .eq 768, 3) := by decide +kernel
set_option maxRecDepth 20000 in
theorem dL_law_359 : decode cL_law 359 = .ok (.iconst 0, 1) := by decide +kernel
set_option maxRecDepth 20000 in
theorem dL_law_360 : decode cL_law 360 = .ok (.ireturn, 1) := by decide +kernel
set_option maxRecDepth 20000 in
theorem dL_law_361 : decode cL_law 361 = .ok (.aload_n 1, 1) := by decide +kernel
set_option maxRecDepth 20000 in
theorem dL_law_362 : decode cL_law 362 = .ok (.aload_n 0, 1) := by decide +kernel
set_option maxRecDepth 20000 in
theorem dL_law_363 : decode cL_law 363 = .ok (.iload_n 3, 1) := by decide +kernel
set_option maxRecDepth 20000 in
theorem dL_law_364 : decode cL_law 364 = .ok (.iconst 1, 1) := by decide +kernel
set_option maxRecDepth 20000 in
theorem dL_law_365 : decode cL_law 365 = .ok (.iadd, 1) := by decide +kernel
set_option maxRecDepth 20000 in
theorem dL_law_366 : decode cL_law 366 = .ok (.iaload, 1) := by decide +kernel
set_option maxRecDepth 20000 in
theorem dL_law_367 : decode cL_law 367 = .ok (.invokevirtual 37, 3) := by decide +kernel
set_option maxRecDepth 20000 in
theorem dL_law_370 : decode cL_law 370 = .ok (.aload_n 2, 1) := by decide +kernel
set_option maxRecDepth 20000 in
theorem dL_law_371 : decode cL_law 371 = .ok (.aload_n 0, 1) := by decide +kernel
set_option maxRecDepth 20000 in
theorem dL_law_372 : decode cL_law 372 = .ok (.iload_n 3, 1) := by decide +kernel
set_option maxRecDepth 20000 in
theorem dL_law_373 : decode cL_law 373 = .ok (.iconst 1, 1) := by decide +kernel
set_option maxRecDepth 20000 in
theorem dL_law_374 : decode cL_law 374 = .ok (.iadd, 1) := by decide +kernel
set_option maxRecDepth 20000 in
theorem dL_law_375 : decode cL_law 375 = .ok (.iaload, 1) := by decide +kernel
set_option maxRecDepth 20000 in
theorem dL_law_376 : decode cL_law 376 = .ok (.invokevirtual 40, 3) := by decide +kernel
set_option maxRecDepth 20000 in
theorem dL_law_379 : decode cL_law 379 = .ok (.if_icmp .eq 745, 3) := by decide +kernel
set_option maxRecDepth 20000 in
theorem dL_law_382 : decode cL_law 382 = .ok (.iconst 0, 1) := by decide +kernel
set_option maxRecDepth 20000 in
theorem dL_law_383 : decode cL_law 383 = .ok (.ireturn, 1) := by decide +kernel
set_option maxRecDepth 20000 in
theorem dL_law_384 : decode cL_law 384 = .ok (.aload_n 1, 1) := by decide +kernel
set_option maxRecDepth 20000 in
theorem dL_law_385 : decode cL_law 385 = .ok (.aload_n 0, 1) := by decide +kernel
set_option maxRecDepth 20000 in
theorem dL_law_386 : decode cL_law 386 = .ok (.iload_n 3, 1) := by decide +kernel
set_option maxRecDepth 20000 in
theorem dL_law_387 : decode cL_law 387 = .ok (.iconst 1, 1) := by decide +kernel
set_option maxRecDepth 20000 in
theorem dL_law_388 : decode cL_law 388 = .ok (.iadd, 1) := by decide +kernel
set_option maxRecDepth 20000 in
theorem dL_law_389 : decode cL_law 389 = .ok (.iaload, 1) := by decide +kernel
set_option maxRecDepth 20000 in
theorem dL_law_390 : decode cL_law 390 = .ok (.aload_n 0, 1) := by decide +kernel
set_option maxRecDepth 20000 in
theorem dL_law_391 : decode cL_law 391 = .ok (.iload_n 3, 1) := by decide +kernel
set_option maxRecDepth 20000 in
theorem dL_law_392 : decode cL_law 392 = .ok (.iconst 2, 1) := by decide +kernel
set_option maxRecDepth 20000 in
theorem dL_law_393 : decode cL_law 393 = .ok (.iadd, 1) := by decide +kernel
set_option maxRecDepth 20000 in
theorem dL_law_394 : decode cL_law 394 = .ok (.iaload, 1) := by decide +kernel
set_option maxRecDepth 20000 in
theorem dL_law_395 : decode cL_law 395 = .ok (.invokevirtual 41, 3) := by decide +kernel
set_option maxRecDepth 20000 in
theorem dL_law_398 : decode cL_law 398 = .ok (.aload_n 2, 1) := by decide +kernel
set_option maxRecDepth 20000 in
theorem dL_law_399 : decode cL_law 399 = .ok (.aload_n 0, 1) := by decide +kernel
set_option maxRecDepth 20000 in
theorem dL_law_400 : decode cL_law 400 = .ok (.iload_n 3, 1) := by decide +kernel
set_option maxRecDepth 20000 in
theorem dL_law_401 : decode cL_law 401 = .ok (.iconst 1, 1) := by decide +kernel
set_option maxRecDepth 20000 in
theorem dL_law_402 : decode cL_law 402 = .ok (.iadd, 1) := by decide +kernel
set_option maxRecDepth 20000 in
theorem dL_law_403 : decode cL_law 403 = .ok (.iaload, 1) := by decide +kernel
set_option maxRecDepth 20000 in
theorem dL_law_404 : decode cL_law 404 = .ok (.aload_n 0, 1) := by decide +kernel
set_option maxRecDepth 20000 in
theorem dL_law_405 : decode cL_law 405 = .ok (.iload_n 3, 1) := by decide +kernel
set_option maxRecDepth 20000 in
theorem dL_law_406 : decode cL_law 406 = .ok (.iconst 2, 1) := by decide +kernel
set_option maxRecDepth 20000 in
theorem dL_law_407 : decode cL_law 407 = .ok (.iadd, 1) := by decide +kernel
set_option maxRecDepth 20000 in
theorem dL_law_408 : decode cL_law 408 = .ok (.iaload, 1) := by decide +kernel
set_option maxRecDepth 20000 in
theorem dL_law_409 : decode cL_law 409 = .ok (.invokevirtual 44, 3) := by decide +kernel
set_option maxRecDepth 20000 in
theorem dL_law_412 : decode cL_law 412 = .ok (.if_icmp .eq 712, 3) := by decide +kernel
set_option maxRecDepth 20000 in
theorem dL_law_415 : decode cL_law 415 = .ok (.iconst 0, 1) := by decide +kernel
set_option maxRecDepth 20000 in
theorem dL_law_416 : decode cL_law 416 = .ok (.ireturn, 1) := by decide +kernel
set_option maxRecDepth 20000 in
theorem dL_law_417 : decode cL_law 417 = .ok (.aload_n 1, 1) := by decide +kernel
set_option maxRecDepth 20000 in
theorem dL_law_418 : decode cL_law 418 = .ok (.aload_n 0, 1) := by decide +kernel
set_option maxRecDepth 20000 in
theorem dL_law_419 : decode cL_law 419 = .ok (.iload_n 3, 1) := by decide +kernel
set_option maxRecDepth 20000 in
theorem dL_law_420 : decode cL_law 420 = .ok (.iconst 1, 1) := by decide +kernel
set_option maxRecDepth 20000 in
theorem dL_law_421 : decode cL_law 421 = .ok (.iadd, 1) := by decide +kernel
set_option maxRecDepth 20000 in
theorem dL_law_422 : decode cL_law 422 = .ok (.iaload, 1) := by decide +kernel
set_option maxRecDepth 20000 in
theorem dL_law_423 : decode cL_law 423 = .ok (.invokevirtual 45, 3) := by decide +kernel
set_option maxRecDepth 20000 in
theorem dL_law_426 : decode cL_law 426 = .ok (.aload_n 2, 1) := by decide +kernel
set_option maxRecDepth 20000 in
theorem dL_law_427 : decode cL_law 427 = .ok (.aload_n 0, 1) := by decide +kernel
set_option maxRecDepth 20000 in
theorem dL_law_428 : decode cL_law 428 = .ok (.iload_n 3, 1) := by decide +kernel
set_option maxRecDepth 20000 in
theorem dL_law_429 : decode cL_law 429 = .ok (.iconst 1, 1) := by decide +kernel
set_option maxRecDepth 20000 in
theorem dL_law_430 : decode cL_law 430 = .ok (.iadd, 1) := by decide +kernel
set_option maxRecDepth 20000 in
theorem dL_law_431 : decode cL_law 431 = .ok (.iaload, 1) := by decide +kernel
set_option maxRecDepth 20000 in
theorem dL_law_432 : decode cL_law 432 = .ok (.invokevirtual 48, 3) := by decide +kernel
set_option maxRecDepth 20000 in
theorem dL_law_435 : decode cL_law 435 = .ok (.if_icmp .eq 689, 3) := by decide +kernel
set_option maxRecDepth 20000 in
theorem dL_law_438 : decode cL_law 438 = .ok (.iconst 0, 1) := by decide +kernel
set_option maxRecDepth 20000 in
theorem dL_law_439 : decode cL_law 439 = .ok (.ireturn, 1) := by decide +kernel
set_option maxRecDepth 20000 in
theorem dL_law_440 : decode cL_law 440 = .ok (.aload_n 1, 1) := by decide +kernel
set_option maxRecDepth 20000 in
theorem dL_law_441 : decode cL_law 441 = .ok (.aload_n 0, 1) := by decide +kernel
set_option maxRecDepth 20000 in
theorem dL_law_442 : decode cL_law 442 = .ok (.iload_n 3, 1) := by decide +kernel
set_option maxRecDepth 20000 in
theorem dL_law_443 : decode cL_law 443 = .ok (.iconst 1, 1) := by decide +kernel
set_option maxRecDepth 20000 in
theorem dL_law_444 : decode cL_law 444 = .ok (.iadd, 1) := by decide +kernel
set_option maxRecDepth 20000 in
theorem dL_law_445 : decode cL_law 445 = .ok (.iaload, 1) := by decide +kernel
set_option maxRecDepth 20000 in
theorem dL_law_446 : decode cL_law 446 = .ok (.invokevirtual 49, 3) := by decide +kernel
set_option maxRecDepth 20000 in
theorem dL_law_449 : decode cL_law 449 = .ok (.aload_n 2, 1) := by decide +kernel
set_option maxRecDepth 20000 in
theorem dL_law_450 : decode cL_law 450 = .ok (.aload_n 0, 1) := by decide +kernel
set_option maxRecDepth 20000 in
theorem dL_law_451 : decode cL_law 451 = .ok (.iload_n 3, 1) := by decide +kernel
set_option maxRecDepth 20000 in
theorem dL_law_452 : decode cL_law 452 = .ok (.iconst 1, 1) := by decide +kernel
set_option maxRecDepth 20000 in
theorem dL_law_453 : decode cL_law 453 = .ok (.iadd, 1) := by decide +kernel
set_option maxRecDepth 20000 in
theorem dL_law_454 : decode cL_law 454 = .ok (.iaload, 1) := by decide +kernel
set_option maxRecDepth 20000 in
theorem dL_law_455 : decode cL_law 455 = .ok (.invokevirtual 52, 3) := by decide +kernel
set_option maxRecDepth 20000 in
theorem dL_law_458 : decode cL_law 458 = .ok (.if_icmp .eq 666, 3) := by decide +kernel
set_option maxRecDepth 20000 in
theorem dL_law_461 : decode cL_law 461 = .ok (.iconst 0, 1) := by decide +kernel
set_option maxRecDepth 20000 in
theorem dL_law_462 : decode cL_law 462 = .ok (.ireturn, 1) := by decide +kernel
set_option maxRecDepth 20000 in
theorem dL_law_463 : decode cL_law 463 = .ok (.aload_n 1, 1) := by decide +kernel
set_option maxRecDepth 20000 in
theorem dL_law_464 : decode cL_law 464 = .ok (.invokevirtual 53, 3) := by decide +kernel
set_option maxRecDepth 20000 in
theorem dL_law_467 : decode cL_law 467 = .ok (.aload_n 2, 1) := by decide +kernel
set_option maxRecDepth 20000 in
theorem dL_law_468 : decode cL_law 468 = .ok (.invokevirtual 57, 3) := by decide +kernel
set_option maxRecDepth 20000 in
theorem dL_law_471 : decode cL_law 471 = .ok (.if_icmp .eq 653, 3) := by decide +kernel
set_option maxRecDepth 20000 in
theorem dL_law_474 : decode cL_law 474 = .ok (.iconst 0, 1) := by decide +kernel
set_option maxRecDepth 20000 in
theorem dL_law_475 : decode cL_law 475 = .ok (.ireturn, 1) := by decide +kernel
set_option maxRecDepth 20000 in
theorem dL_law_476 : decode cL_law 476 = .ok (.aload_n 1, 1) := by decide +kernel
set_option maxRecDepth 20000 in
theorem dL_law_477 : decode cL_law 477 = .ok (.aload_n 0, 1) := by decide +kernel
set_option maxRecDepth 20000 in
theorem dL_law_478 : decode cL_law 478 = .ok (.iload_n 3, 1) := by decide +kernel
set_option maxRecDepth 20000 in
theorem dL_law_479 : decode cL_law 479 = .ok (.iconst 1, 1) := by decide +kernel
set_option maxRecDepth 20000 in
theorem dL_law_480 : decode cL_law 480 = .ok (.iadd, 1) := by decide +kernel
set_option maxRecDepth 20000 in
theorem dL_law_481 : decode cL_law 481 = .ok (.iaload, 1) := by decide +kernel
set_option maxRecDepth 20000 in
theorem dL_law_482 : decode cL_law 482 = .ok (.invokevirtual 58, 3) := by decide +kernel
set_option maxRecDepth 20000 in
theorem dL_law_485 : decode cL_law 485 = .ok (.aload_n 2, 1) := by decide +kernel
set_option maxRecDepth 20000 in
theorem dL_law_486 : decode cL_law 486 = .ok (.aload_n 0, 1) := by decide +kernel
set_option maxRecDepth 20000 in
theorem dL_law_487 : decode cL_law 487 = .ok (.iload_n 3, 1) := by decide +kernel
set_option maxRecDepth 20000 in
theorem dL_law_488 : decode cL_law 488 = .ok (.iconst 1, 1) := by decide +kernel
set_option maxRecDepth 20000 in
theorem dL_law_489 : decode cL_law 489 = .ok (.iadd, 1) := by decide +kernel
set_option maxRecDepth 20000 in
theorem dL_law_490 : decode cL_law 490 = .ok (.iaload, 1) := by decide +kernel
set_option maxRecDepth 20000 in
theorem dL_law_491 : decode cL_law 491 = .ok (.invokevirtual 61, 3) := by decide +kernel
set_option maxRecDepth 20000 in
theorem dL_law_494 : decode cL_law 494 = .ok (.if_icmp .eq 630, 3) := by decide +kernel
set_option maxRecDepth 20000 in
theorem dL_law_497 : decode cL_law 497 = .ok (.iconst 0, 1) := by decide +kernel
set_option maxRecDepth 20000 in
theorem dL_law_498 : decode cL_law 498 = .ok (.ireturn, 1) := by decide +kernel
set_option maxRecDepth 20000 in
theorem dL_law_499 : decode cL_law 499 = .ok (.aload_n 1, 1) := by decide +kernel
set_option maxRecDepth 20000 in
theorem dL_law_500 : decode cL_law 500 = .ok (.aload_n 0, 1) := by decide +kernel
set_option maxRecDepth 20000 in
theorem dL_law_501 : decode cL_law 501 = .ok (.iload_n 3, 1) := by decide +kernel
set_option maxRecDepth 20000 in
theorem dL_law_502 : decode cL_law 502 = .ok (.iconst 1, 1) := by decide +kernel
set_option maxRecDepth 20000 in
theorem dL_law_503 : decode cL_law 503 = .ok (.iadd, 1) := by decide +kernel
set_option maxRecDepth 20000 in
theorem dL_law_504 : decode cL_law 504 = .ok (.iaload, 1) := by decide +kernel
set_option maxRecDepth 20000 in
theorem dL_law_505 : decode cL_law 505 = .ok (.aload_n 0, 1) := by decide +kernel
set_option maxRecDepth 20000 in
theorem dL_law_506 : decode cL_law 506 = .ok (.iload_n 3, 1) := by decide +kernel
set_option maxRecDepth 20000 in
theorem dL_law_507 : decode cL_law 507 = .ok (.iconst 2, 1) := by decide +kernel
set_option maxRecDepth 20000 in
theorem dL_law_508 : decode cL_law 508 = .ok (.iadd, 1) := by decide +kernel
set_option maxRecDepth 20000 in
theorem dL_law_509 : decode cL_law 509 = .ok (.iaload, 1) := by decide +kernel
set_option maxRecDepth 20000 in
theorem dL_law_510 : decode cL_law 510 = .ok (.invokevirtual 62, 3) := by decide +kernel
set_option maxRecDepth 20000 in
theorem dL_law_513 : decode cL_law 513 = .ok (.aload_n 2, 1) := by decide +kernel
set_option maxRecDepth 20000 in
theorem dL_law_514 : decode cL_law 514 = .ok (.aload_n 0, 1) := by decide +kernel
set_option maxRecDepth 20000 in
theorem dL_law_515 : decode cL_law 515 = .ok (.iload_n 3, 1) := by decide +kernel
set_option maxRecDepth 20000 in
theorem dL_law_516 : decode cL_law 516 = .ok (.iconst 1, 1) := by decide +kernel
set_option maxRecDepth 20000 in
theorem dL_law_517 : decode cL_law 517 = .ok (.iadd, 1) := by decide +kernel
set_option maxRecDepth 20000 in
theorem dL_law_518 : decode cL_law 518 = .ok (.iaload, 1) := by decide +kernel
set_option maxRecDepth 20000 in
theorem dL_law_519 : decode cL_law 519 = .ok (.aload_n 0, 1) := by decide +kernel
set_option maxRecDepth 20000 in
theorem dL_law_520 : decode cL_law 520 = .ok (.iload_n 3, 1) := by decide +kernel
set_option maxRecDepth 20000 in
theorem dL_law_521 : decode cL_law 521 = .ok (.iconst 2, 1) := by decide +kernel
set_option maxRecDepth 20000 in
theorem dL_law_522 : decode cL_law 522 = .ok (.iadd, 1) := by decide +kernel
set_option maxRecDepth 20000 in
theorem dL_law_523 : decode cL_law 523 = .ok (.iaload, 1) := by decide +kernel
set_option maxRecDepth 20000 in
theorem dL_law_524 : decode cL_law 524 = .ok (.invokevirtual 65, 3) := by decide +kernel
set_option maxRecDepth 20000 in
theorem dL_law_527 : decode cL_law 527 = .ok (.if_icmp .eq 597, 3) := by decide +kernel
set_option maxRecDepth 20000 in
theorem dL_law_530 : decode cL_law 530 = .ok (.iconst 0, 1) := by decide +kernel
set_option maxRecDepth 20000 in
theorem dL_law_531 : decode cL_law 531 = .ok (.ireturn, 1) := by decide +kernel
set_option maxRecDepth 20000 in
theorem dL_law_532 : decode cL_law 532 = .ok (.aload_n 1, 1) := by decide +kernel
set_option maxRecDepth 20000 in
theorem dL_law_533 : decode cL_law 533 = .ok (.aload_n 0, 1) := by decide +kernel
set_option maxRecDepth 20000 in
theorem dL_law_534 : decode cL_law 534 = .ok (.iload_n 3, 1) := by decide +kernel
set_option maxRecDepth 20000 in
theorem dL_law_535 : decode cL_law 535 = .ok (.iconst 1, 1) := by decide +kernel
set_option maxRecDepth 20000 in
theorem dL_law_536 : decode cL_law 536 = .ok (.iadd, 1) := by decide +kernel
set_option maxRecDepth 20000 in
theorem dL_law_537 : decode cL_law 537 = .ok (.iaload, 1) := by decide +kernel
set_option maxRecDepth 20000 in
theorem dL_law_538 : decode cL_law 538 = .ok (.invokevirtual 66, 3) := by decide +kernel
set_option maxRecDepth 20000 in
theorem dL_law_541 : decode cL_law 541 = .ok (.aload_n 2, 1) := by decide +kernel
set_option maxRecDepth 20000 in
theorem dL_law_542 : decode cL_law 542 = .ok (.aload_n 0, 1) := by decide +kernel
set_option maxRecDepth 20000 in
theorem dL_law_543 : decode cL_law 543 = .ok (.iload_n 3, 1) := by decide +kernel
set_option maxRecDepth 20000 in
theorem dL_law_544 : decode cL_law 544 = .ok (.iconst 1, 1) := by decide +kernel
set_option maxRecDepth 20000 in
theorem dL_law_545 : decode cL_law 545 = .ok (.iadd, 1) := by decide +kernel
set_option maxRecDepth 20000 in
theorem dL_law_546 : decode cL_law 546 = .ok (.iaload, 1) := by decide +kernel
set_option maxRecDepth 20000 in
theorem dL_law_547 : decode cL_law 547 = .ok (.invokevirtual 69, 3) := by decide +kernel
set_option maxRecDepth 20000 in
theorem dL_law_550 : decode cL_law 550 = .ok (.if_icmp .eq 574, 3) := by decide +kernel
set_option maxRecDepth 20000 in
theorem dL_law_553 : decode cL_law 553 = .ok (.iconst 0, 1) := by decide +kernel
set_option maxRecDepth 20000 in
theorem dL_law_554 : decode cL_law 554 = .ok (.ireturn, 1) := by decide +kernel
set_option maxRecDepth 20000 in
theorem dL_law_555 : decode cL_law 555 = .ok (.aload_n 1, 1) := by decide +kernel
set_option maxRecDepth 20000 in
theorem dL_law_556 : decode cL_law 556 = .ok (.aload_n 0, 1) := by decide +kernel
set_option maxRecDepth 20000 in
theorem dL_law_557 : decode cL_law 557 = .ok (.iload_n 3, 1) := by decide +kernel
set_option maxRecDepth 20000 in
theorem dL_law_558 : decode cL_law 558 = .ok (.iconst 1, 1) := by decide +kernel
set_option maxRecDepth 20000 in
theorem dL_law_559 : decode cL_law 559 = .ok (.iadd, 1) := by decide +kernel
set_option maxRecDepth 20000 in
theorem dL_law_560 : decode cL_law 560 = .ok (.iaload, 1) := by decide +kernel
set_option maxRecDepth 20000 in
theorem dL_law_561 : decode cL_law 561 = .ok (.invokevirtual 70, 3) := by decide +kernel
set_option maxRecDepth 20000 in
theorem dL_law_564 : decode cL_law 564 = .ok (.aload_n 2, 1) := by decide +kernel
set_option maxRecDepth 20000 in
theorem dL_law_565 : decode cL_law 565 = .ok (.aload_n 0, 1) := by decide +kernel
set_option maxRecDepth 20000 in
theorem dL_law_566 : decode cL_law 566 = .ok (.iload_n 3, 1) := by decide +kernel
set_option maxRecDepth 20000 in
theorem dL_law_567 : decode cL_law 567 = .ok (.iconst 1, 1) := by decide +kernel
set_option maxRecDepth 20000 in
theorem dL_law_568 : decode cL_law 568 = .ok (.iadd, 1) := by decide +kernel
set_option maxRecDepth 20000 in
theorem dL_law_569 : decode cL_law 569 = .ok (.iaload, 1) := by decide +kernel
set_option maxRecDepth 20000 in
theorem dL_law_570 : decode cL_law 570 = .ok (.invokevirtual 73, 3) := by decide +kernel
set_option maxRecDepth 20000 in
theorem dL_law_573 : decode cL_law 573 = .ok (.if_icmp .eq 551, 3) := by decide +kernel
set_option maxRecDepth 20000 in
theorem dL_law_576 : decode cL_law 576 = .ok (.iconst 0, 1) := by decide +kernel
set_option maxRecDepth 20000 in
theorem dL_law_577 : decode cL_law 577 = .ok (.ireturn, 1) := by decide +kernel
set_option maxRecDepth 20000 in
theorem dL_law_578 : decode cL_law 578 = .ok (.aload_n 1, 1) := by decide +kernel
set_option maxRecDepth 20000 in
theorem dL_law_579 : decode cL_law 579 = .ok (.aload_n 0, 1) := by decide +kernel
set_option maxRecDepth 20000 in
theorem dL_law_580 : decode cL_law 580 = .ok (.iload_n 3, 1) := by decide +kernel
set_option maxRecDepth 20000 in
theorem dL_law_581 : decode cL_law 581 = .ok (.iconst 1, 1) := by decide +kernel
set_option maxRecDepth 20000 in
theorem dL_law_582 : decode cL_law 582 = .ok (.iadd, 1) := by decide +kernel
set_option maxRecDepth 20000 in
theorem dL_law_583 : decode cL_law 583 = .ok (.iaload, 1) := by decide +kernel
set_option maxRecDepth 20000 in
theorem dL_law_584 : decode cL_law 584 = .ok (.invokevirtual 74, 3) := by decide +kernel
set_option maxRecDepth 20000 in
theorem dL_law_587 : decode cL_law 587 = .ok (.aload_n 2, 1) := by decide +kernel
set_option maxRecDepth 20000 in
theorem dL_law_588 : decode cL_law 588 = .ok (.aload_n 0, 1) := by decide +kernel
set_option maxRecDepth 20000 in
theorem dL_law_589 : decode cL_law 589 = .ok (.iload_n 3, 1) := by decide +kernel
set_option maxRecDepth 20000 in
theorem dL_law_590 : decode cL_law 590 = .ok (.iconst 1, 1) := by decide +kernel
set_option maxRecDepth 20000 in
theorem dL_law_591 : decode cL_law 591 = .ok (.iadd, 1) := by decide +kernel
set_option maxRecDepth 20000 in
theorem dL_law_592 : decode cL_law 592 = .ok (.iaload, 1) := by decide +kernel
set_option maxRecDepth 20000 in
theorem dL_law_593 : decode cL_law 593 = .ok (.invokevirtual 77, 3) := by decide +kernel
set_option maxRecDepth 20000 in
theorem dL_law_596 : decode cL_law 596 = .ok (.if_icmp .eq 528, 3) := by decide +kernel
set_option maxRecDepth 20000 in
theorem dL_law_599 : decode cL_law 599 = .ok (.iconst 0, 1) := by decide +kernel
set_option maxRecDepth 20000 in
theorem dL_law_600 : decode cL_law 600 = .ok (.ireturn, 1) := by decide +kernel
set_option maxRecDepth 20000 in
theorem dL_law_601 : decode cL_law 601 = .ok (.aload_n 1, 1) := by decide +kernel
set_option maxRecDepth 20000 in
theorem dL_law_602 : decode cL_law 602 = .ok (.aload_n 0, 1) := by decide +kernel
set_option maxRecDepth 20000 in
theorem dL_law_603 : decode cL_law 603 = .ok (.iload_n 3, 1) := by decide +kernel
set_option maxRecDepth 20000 in
theorem dL_law_604 : decode cL_law 604 = .ok (.iconst 1, 1) := by decide +kernel
set_option maxRecDepth 20000 in
theorem dL_law_605 : decode cL_law 605 = .ok (.iadd, 1) := by decide +kernel
set_option maxRecDepth 20000 in
theorem dL_law_606 : decode cL_law 606 = .ok (.iaload, 1) := by decide +kernel
set_option maxRecDepth 20000 in
theorem dL_law_607 : decode cL_law 607 = .ok (.aload_n 0, 1) := by decide +kernel
set_option maxRecDepth 20000 in
theorem dL_law_608 : decode cL_law 608 = .ok (.iload_n 3, 1) := by decide +kernel
set_option maxRecDepth 20000 in
theorem dL_law_609 : decode cL_law 609 = .ok (.iconst 2, 1) := by decide +kernel
set_option maxRecDepth 20000 in
theorem dL_law_610 : decode cL_law 610 = .ok (.iadd, 1) := by decide +kernel
set_option maxRecDepth 20000 in
theorem dL_law_611 : decode cL_law 611 = .ok (.iaload, 1) := by decide +kernel
set_option maxRecDepth 20000 in
theorem dL_law_612 : decode cL_law 612 = .ok (.aload_n 0, 1) := by decide +kernel
set_option maxRecDepth 20000 in
theorem dL_law_613 : decode cL_law 613 = .ok (.iload_n 3, 1) := by decide +kernel
set_option maxRecDepth 20000 in
theorem dL_law_614 : decode cL_law 614 = .ok (.iconst 3, 1) := by decide +kernel
set_option maxRecDepth 20000 in
theorem dL_law_615 : decode cL_law 615 = .ok (.iadd, 1) := by decide +kernel
set_option maxRecDepth 20000 in
theorem dL_law_616 : decode cL_law 616 = .ok (.iaload, 1) := by decide +kernel
set_option maxRecDepth 20000 in
theorem dL_law_617 : decode cL_law 617 = .ok (.aload_n 0, 1) := by decide +kernel
set_option maxRecDepth 20000 in
theorem dL_law_618 : decode cL_law 618 = .ok (.iload_n 3, 1) := by decide +kernel
set_option maxRecDepth 20000 in
theorem dL_law_619 : decode cL_law 619 = .ok (.iconst 4, 1) := by decide +kernel
set_option maxRecDepth 20000 in
theorem dL_law_620 : decode cL_law 620 = .ok (.iadd, 1) := by decide +kernel
set_option maxRecDepth 20000 in
theorem dL_law_621 : decode cL_law 621 = .ok (.iaload, 1) := by decide +kernel
set_option maxRecDepth 20000 in
theorem dL_law_622 : decode cL_law 622 = .ok (.invokevirtual 78, 3) := by decide +kernel
set_option maxRecDepth 20000 in
theorem dL_law_625 : decode cL_law 625 = .ok (.aload_n 2, 1) := by decide +kernel
set_option maxRecDepth 20000 in
theorem dL_law_626 : decode cL_law 626 = .ok (.aload_n 0, 1) := by decide +kernel
set_option maxRecDepth 20000 in
theorem dL_law_627 : decode cL_law 627 = .ok (.iload_n 3, 1) := by decide +kernel
set_option maxRecDepth 20000 in
theorem dL_law_628 : decode cL_law 628 = .ok (.iconst 1, 1) := by decide +kernel
set_option maxRecDepth 20000 in
theorem dL_law_629 : decode cL_law 629 = .ok (.iadd, 1) := by decide +kernel
set_option maxRecDepth 20000 in
theorem dL_law_630 : decode cL_law 630 = .ok (.iaload, 1) := by decide +kernel
set_option maxRecDepth 20000 in
theorem dL_law_631 : decode cL_law 631 = .ok (.aload_n 0, 1) := by decide +kernel
set_option maxRecDepth 20000 in
theorem dL_law_632 : decode cL_law 632 = .ok (.iload_n 3, 1) := by decide +kernel
set_option maxRecDepth 20000 in
theorem dL_law_633 : decode cL_law 633 = .ok (.iconst 2, 1) := by decide +kernel
set_option maxRecDepth 20000 in
theorem dL_law_634 : decode cL_law 634 = .ok (.iadd, 1) := by decide +kernel
set_option maxRecDepth 20000 in
theorem dL_law_635 : decode cL_law 635 = .ok (.iaload, 1) := by decide +kernel
set_option maxRecDepth 20000 in
theorem dL_law_636 : decode cL_law 636 = .ok (.aload_n 0, 1) := by decide +kernel
set_option maxRecDepth 20000 in
theorem dL_law_637 : decode cL_law 637 = .ok (.iload_n 3, 1) := by decide +kernel
set_option maxRecDepth 20000 in
theorem dL_law_638 : decode cL_law 638 = .ok (.iconst 3, 1) := by decide +kernel
set_option maxRecDepth 20000 in
theorem dL_law_639 : decode cL_law 639 = .ok (.iadd, 1) := by decide +kernel
set_option maxRecDepth 20000 in
theorem dL_law_640 : decode cL_law 640 = .ok (.iaload, 1) := by decide +kernel
set_option maxRecDepth 20000 in
theorem dL_law_641 : decode cL_law 641 = .ok (.aload_n 0, 1) := by decide +kernel
set_option maxRecDepth 20000 in
theorem dL_law_642 : decode cL_law 642 = .ok (.iload_n 3, 1) := by decide +kernel
set_option maxRecDepth 20000 in
theorem dL_law_643 : decode cL_law 643 = .ok (.iconst 4, 1) := by decide +kernel
set_option maxRecDepth 20000 in
theorem dL_law_644 : decode cL_law 644 = .ok (.iadd, 1) := by decide +kernel
set_option maxRecDepth 20000 in
theorem dL_law_645 : decode cL_law 645 = .ok (.iaload, 1) := by decide +kernel
set_option maxRecDepth 20000 in
theorem dL_law_646 : decode cL_law 646 = .ok (.invokevirtual 81, 3) := by decide +kernel
set_option maxRecDepth 20000 in
theorem dL_law_649 : decode cL_law 649 = .ok (.if_icmp .eq 475, 3) := by decide +kernel
set_option maxRecDepth 20000 in
theorem dL_law_652 : decode cL_law 652 = .ok (.iconst 0, 1) := by decide +kernel
set_option maxRecDepth 20000 in
theorem dL_law_653 : decode cL_law 653 = .ok (.ireturn, 1) := by decide +kernel
set_option maxRecDepth 20000 in
theorem dL_law_654 : decode cL_law 654 = .ok (.aload_n 1, 1) := by decide +kernel
set_option maxRecDepth 20000 in
theorem dL_law_655 : decode cL_law 655 = .ok (.aload_n 0, 1) := by decide +kernel
set_option maxRecDepth 20000 in
theorem dL_law_656 : decode cL_law 656 = .ok (.iload_n 3, 1) := by decide +kernel
set_option maxRecDepth 20000 in
theorem dL_law_657 : decode cL_law 657 = .ok (.iconst 1, 1) := by decide +kernel
set_option maxRecDepth 20000 in
theorem dL_law_658 : decode cL_law 658 = .ok (.iadd, 1) := by decide +kernel
set_option maxRecDepth 20000 in
theorem dL_law_659 : decode cL_law 659 = .ok (.iaload, 1) := by decide +kernel
set_option maxRecDepth 20000 in
theorem dL_law_660 : decode cL_law 660 = .ok (.aload_n 0, 1) := by decide +kernel
set_option maxRecDepth 20000 in
theorem dL_law_661 : decode cL_law 661 = .ok (.iload_n 3, 1) := by decide +kernel
set_option maxRecDepth 20000 in
theorem dL_law_662 : decode cL_law 662 = .ok (.iconst 2, 1) := by decide +kernel
set_option maxRecDepth 20000 in
theorem dL_law_663 : decode cL_law 663 = .ok (.iadd, 1) := by decide +kernel
set_option maxRecDepth 20000 in
theorem dL_law_664 : decode cL_law 664 = .ok (.iaload, 1) := by decide +kernel
set_option maxRecDepth 20000 in
theorem dL_law_665 : decode cL_law 665 = .ok (.invokevirtual 82, 3) := by decide +kernel
set_option maxRecDepth 20000 in
theorem dL_law_668 : decode cL_law 668 = .ok (.aload_n 2, 1) := by decide +kernel
set_option maxRecDepth 20000 in
theorem dL_law_669 : decode cL_law 669 = .ok (.aload_n 0, 1) := by decide +kernel
set_option maxRecDepth 20000 in
theorem dL_law_670 : decode cL_law 670 = .ok (.iload_n 3, 1) := by decide +kernel
set_option maxRecDepth 20000 in
theorem dL_law_671 : decode cL_law 671 = .ok (.iconst 1, 1) := by decide +kernel
set_option maxRecDepth 20000 in
theorem dL_law_672 : decode cL_law 672 = .ok (.iadd, 1) := by decide +kernel
set_option maxRecDepth 20000 in
theorem dL_law_673 : decode cL_law 673 = .ok (.iaload, 1) := by decide +kernel
set_option maxRecDepth 20000 in
theorem dL_law_674 : decode cL_law 674 = .ok (.aload_n 0, 1) := by decide +kernel
set_option maxRecDepth 20000 in
theorem dL_law_675 : decode cL_law 675 = .ok (.iload_n 3, 1) := by decide +kernel
set_option maxRecDepth 20000 in
theorem dL_law_676 : decode cL_law 676 = .ok (.iconst 2, 1) := by decide +kernel
set_option maxRecDepth 20000 in
theorem dL_law_677 : decode cL_law 677 = .ok (.iadd, 1) := by decide +kernel
set_option maxRecDepth 20000 in
theorem dL_law_678 : decode cL_law 678 = .ok (.iaload, 1) := by decide +kernel
set_option maxRecDepth 20000 in
theorem dL_law_679 : decode cL_law 679 = .ok (.invokevirtual 85, 3) := by decide +kernel
set_option maxRecDepth 20000 in
theorem dL_law_682 : decode cL_law 682 = .ok (.if_icmp .eq 442, 3) := by decide +kernel
set_option maxRecDepth 20000 in
theorem dL_law_685 : decode cL_law 685 = .ok (.iconst 0, 1) := by decide +kernel
set_option maxRecDepth 20000 in
theorem dL_law_686 : decode cL_law 686 = .ok (.ireturn, 1) := by decide +kernel
set_option maxRecDepth 20000 in
theorem dL_law_687 : decode cL_law 687 = .ok (.aload_n 1, 1) := by decide +kernel
set_option maxRecDepth 20000 in
theorem dL_law_688 : decode cL_law 688 = .ok (.aload_n 0, 1) := by decide +kernel
set_option maxRecDepth 20000 in
theorem dL_law_689 : decode cL_law 689 = .ok (.iload_n 3, 1) := by decide +kernel
set_option maxRecDepth 20000 in
theorem dL_law_690 : decode cL_law 690 = .ok (.iconst 1, 1) := by decide +kernel
set_option maxRecDepth 20000 in
theorem dL_law_691 : decode cL_law 691 = .ok (.iadd, 1) := by decide +kernel
set_option maxRecDepth 20000 in
theorem dL_law_692 : decode cL_law 692 = .ok (.iaload, 1) := by decide +kernel
set_option maxRecDepth 20000 in
theorem dL_law_693 : decode cL_law 693 = .ok (.invokevirtual 86, 3) := by decide +kernel
set_option maxRecDepth 20000 in
theorem dL_law_696 : decode cL_law 696 = .ok (.aload_n 2, 1) := by decide +kernel
set_option maxRecDepth 20000 in
theorem dL_law_697 : decode cL_law 697 = .ok (.aload_n 0, 1) := by decide +kernel
set_option maxRecDepth 20000 in
theorem dL_law_698 : decode cL_law 698 = .ok (.iload_n 3, 1) := by decide +kernel
set_option maxRecDepth 20000 in
theorem dL_law_699 : decode cL_law 699 = .ok (.iconst 1, 1) := by decide +kernel
set_option maxRecDepth 20000 in
theorem dL_law_700 : decode cL_law 700 = .ok (.iadd, 1) := by decide +kernel
set_option maxRecDepth 20000 in
theorem dL_law_701 : decode cL_law 701 = .ok (.iaload, 1) := by decide +kernel
set_option maxRecDepth 20000 in
theorem dL_law_702 : decode cL_law 702 = .ok (.invokevirtual 89, 3) := by decide +kernel
set_option maxRecDepth 20000 in
theorem dL_law_705 : decode cL_law 705 = .ok (.if_icmp .eq 419, 3) := by decide +kernel
set_option maxRecDepth 20000 in
theorem dL_law_708 : decode cL_law 708 = .ok (.iconst 0, 1) := by decide +kernel
set_option maxRecDepth 20000 in
theorem dL_law_709 : decode cL_law 709 = .ok (.ireturn, 1) := by decide +kernel
set_option maxRecDepth 20000 in
theorem dL_law_710 : decode cL_law 710 = .ok (.aload_n 1, 1) := by decide +kernel
set_option maxRecDepth 20000 in
theorem dL_law_711 : decode cL_law 711 = .ok (.aload_n 0, 1) := by decide +kernel
set_option maxRecDepth 20000 in
theorem dL_law_712 : decode cL_law 712 = .ok (.iload_n 3, 1) := by decide +kernel
set_option maxRecDepth 20000 in
theorem dL_law_713 : decode cL_law 713 = .ok (.iconst 1, 1) := by decide +kernel
set_option maxRecDepth 20000 in
theorem dL_law_714 : decode cL_law 714 = .ok (.iadd, 1) := by decide +kernel
set_option maxRecDepth 20000 in
theorem dL_law_715 : decode cL_law 715 = .ok (.iaload, 1) := by decide +kernel
set_option maxRecDepth 20000 in
theorem dL_law_716 : decode cL_law 716 = .ok (.invokevirtual 90, 3) := by decide +kernel
set_option maxRecDepth 20000 in
theorem dL_law_719 : decode cL_law 719 = .ok (.aload_n 2, 1) := by decide +kernel
set_option maxRecDepth 20000 in
theorem dL_law_720 : decode cL_law 720 = .ok (.aload_n 0, 1) := by decide +kernel
set_option maxRecDepth 20000 in
theorem dL_law_721 : decode cL_law 721 = .ok (.iload_n 3, 1) := by decide +kernel
set_option maxRecDepth 20000 in
theorem dL_law_722 : decode cL_law 722 = .ok (.iconst 1, 1) := by decide +kernel
set_option maxRecDepth 20000 in
theorem dL_law_723 : decode cL_law 723 = .ok (.iadd, 1) := by decide +kernel
set_option maxRecDepth 20000 in
theorem dL_law_724 : decode cL_law 724 = .ok (.iaload, 1) := by decide +kernel
set_option maxRecDepth 20000 in
theorem dL_law_725 : decode cL_law 725 = .ok (.invokevirtual 93, 3) := by decide +kernel
set_option maxRecDepth 20000 in
theorem dL_law_728 : decode cL_law 728 = .ok (.if_icmp .eq 396, 3) := by decide +kernel
set_option maxRecDepth 20000 in
theorem dL_law_731 : decode cL_law 731 = .ok (.iconst 0, 1) := by decide +kernel
set_option maxRecDepth 20000 in
theorem dL_law_732 : decode cL_law 732 = .ok (.ireturn, 1) := by decide +kernel
set_option maxRecDepth 20000 in
theorem dL_law_733 : decode cL_law 733 = .ok (.aload_n 1, 1) := by decide +kernel
set_option maxRecDepth 20000 in
theorem dL_law_734 : decode cL_law 734 = .ok (.invokevirtual 94, 3) := by decide +kernel
set_option maxRecDepth 20000 in
theorem dL_law_737 : decode cL_law 737 = .ok (.aload_n 2, 1) := by decide +kernel
set_option maxRecDepth 20000 in
theorem dL_law_738 : decode cL_law 738 = .ok (.invokevirtual 97, 3) := by decide +kernel
set_option maxRecDepth 20000 in
theorem dL_law_741 : decode cL_law 741 = .ok (.if_icmp .eq 383, 3) := by decide +kernel
set_option maxRecDepth 20000 in
theorem dL_law_744 : decode cL_law 744 = .ok (.iconst 0, 1) := by decide +kernel
set_option maxRecDepth 20000 in
theorem dL_law_745 : decode cL_law 745 = .ok (.ireturn, 1) := by decide +kernel
set_option maxRecDepth 20000 in
theorem dL_law_746 : decode cL_law 746 = .ok (.aload_n 1, 1) := by decide +kernel
set_option maxRecDepth 20000 in
theorem dL_law_747 : decode cL_law 747 = .ok (.aload_n 0, 1) := by decide +kernel
set_option maxRecDepth 20000 in
theorem dL_law_748 : decode cL_law 748 = .ok (.iload_n 3, 1) := by decide +kernel
set_option maxRecDepth 20000 in
theorem dL_law_749 : decode cL_law 749 = .ok (.iconst 1, 1) := by decide +kernel
set_option maxRecDepth 20000 in
theorem dL_law_750 : decode cL_law 750 = .ok (.iadd, 1) := by decide +kernel
set_option maxRecDepth 20000 in
theorem dL_law_751 : decode cL_law 751 = .ok (.iaload, 1) := by decide +kernel
set_option maxRecDepth 20000 in
theorem dL_law_752 : decode cL_law 752 = .ok (.aload_n 0, 1) := by decide +kernel
set_option maxRecDepth 20000 in
theorem dL_law_753 : decode cL_law 753 = .ok (.iload_n 3, 1) := by decide +kernel
set_option maxRecDepth 20000 in
theorem dL_law_754 : decode cL_law 754 = .ok (.iconst 2, 1) := by decide +kernel
set_option maxRecDepth 20000 in
theorem dL_law_755 : decode cL_law 755 = .ok (.iadd, 1) := by decide +kernel
set_option maxRecDepth 20000 in
theorem dL_law_756 : decode cL_law 756 = .ok (.iaload, 1) := by decide +kernel
set_option maxRecDepth 20000 in
theorem dL_law_757 : decode cL_law 757 = .ok (.invokevirtual 98, 3) := by decide +kernel
set_option maxRecDepth 20000 in
theorem dL_law_760 : decode cL_law 760 = .ok (.aload_n 2, 1) := by decide +kernel
set_option maxRecDepth 20000 in
theorem dL_law_761 : decode cL_law 761 = .ok (.aload_n 0, 1) := by decide +kernel
set_option maxRecDepth 20000 in
theorem dL_law_762 : decode cL_law 762 = .ok (.iload_n 3, 1) := by decide +kernel
set_option maxRecDepth 20000 in
theorem dL_law_763 : decode cL_law 763 = .ok (.iconst 1, 1) := by decide +kernel
set_option maxRecDepth 20000 in
theorem dL_law_764 : decode cL_law 764 = .ok (.iadd, 1) := by decide +kernel
set_option maxRecDepth 20000 in
theorem dL_law_765 : decode cL_law 765 = .ok (.iaload, 1) := by decide +kernel
set_option maxRecDepth 20000 in
theorem dL_law_766 : decode cL_law 766 = .ok (.aload_n 0, 1) := by decide +kernel
set_option maxRecDepth 20000 in
theorem dL_law_767 : decode cL_law 767 = .ok (.iload_n 3, 1) := by decide +kernel
set_option maxRecDepth 20000 in
theorem dL_law_768 : decode cL_law 768 = .ok (.iconst 2, 1) := by decide +kernel
set_option maxRecDepth 20000 in
theorem dL_law_769 : decode cL_law 769 = .ok (.iadd, 1) := by decide +kernel
set_option maxRecDepth 20000 in
theorem dL_law_770 : decode cL_law 770 = .ok (.iaload, 1) := by decide +kernel
set_option maxRecDepth 20000 in
theorem dL_law_771 : decode cL_law 771 = .ok (.invokevirtual 102, 3) := by decide +kernel
set_option maxRecDepth 20000 in
theorem dL_law_774 : decode cL_law 774 = .ok (.lcmp, 1) := by decide +kernel
set_option maxRecDepth 20000 in
theorem dL_law_775 : decode cL_law 775 = .ok (.ifCond .eq 349, 3) := by decide +kernel
set_option maxRecDepth 20000 in
theorem dL_law_778 : decode cL_law 778 = .ok (.iconst 0, 1) := by decide +kernel
set_option maxRecDepth 20000 in
theorem dL_law_779 : decode cL_law 779 = .ok (.ireturn, 1) := by decide +kernel
set_option maxRecDepth 20000 in
theorem dL_law_780 : decode cL_law 780 = .ok (.aload_n 1, 1) := by decide +kernel
set_option maxRecDepth 20000 in
theorem dL_law_781 : decode cL_law 781 = .ok (.aload_n 0, 1) := by decide +kernel
set_option maxRecDepth 20000 in
theorem dL_law_782 : decode cL_law 782 = .ok (.iload_n 3, 1) := by decide +kernel
set_option maxRecDepth 20000 in
theorem dL_law_783 : decode cL_law 783 = .ok (.iconst 1, 1) := by decide +kernel
set_option maxRecDepth 20000 in
theorem dL_law_784 : decode cL_law 784 = .ok (.iadd, 1) := by decide +kernel
set_option maxRecDepth 20000 in
theorem dL_law_785 : decode cL_law 785 = .ok (.iaload, 1) := by decide +kernel
set_option maxRecDepth 20000 in
theorem dL_law_786 : decode cL_law 786 = .ok (.aload_n 0, 1) := by decide +kernel
set_option maxRecDepth 20000 in
theorem dL_law_787 : decode cL_law 787 = .ok (.iload_n 3, 1) := by decide +kernel
set_option maxRecDepth 20000 in
theorem dL_law_788 : decode cL_law 788 = .ok (.iconst 2, 1) := by decide +kernel
set_option maxRecDepth 20000 in
theorem dL_law_789 : decode cL_law 789 = .ok (.iadd, 1) := by decide +kernel
set_option maxRecDepth 20000 in
theorem dL_law_790 : decode cL_law 790 = .ok (.iaload, 1) := by decide +kernel
set_option maxRecDepth 20000 in
theorem dL_law_791 : decode cL_law 791 = .ok (.aload_n 0, 1) := by decide +kernel
set_option maxRecDepth 20000 in
theorem dL_law_792 : decode cL_law 792 = .ok (.iload_n 3, 1) := by decide +kernel
set_option maxRecDepth 20000 in
theorem dL_law_793 : decode cL_law 793 = .ok (.iconst 3, 1) := by decide +kernel
set_option maxRecDepth 20000 in
theorem dL_law_794 : decode cL_law 794 = .ok (.iadd, 1) := by decide +kernel
set_option maxRecDepth 20000 in
theorem dL_law_795 : decode cL_law 795 = .ok (.iaload, 1) := by decide +kernel
set_option maxRecDepth 20000 in
theorem dL_law_796 : decode cL_law 796 = .ok (.invokevirtual 103, 3) := by decide +kernel
set_option maxRecDepth 20000 in
theorem dL_law_799 : decode cL_law 799 = .ok (.aload_n 2, 1) := by decide +kernel
set_option maxRecDepth 20000 in
theorem dL_law_800 : decode cL_law 800 = .ok (.aload_n 0, 1) := by decide +kernel
set_option maxRecDepth 20000 in
theorem dL_law_801 : decode cL_law 801 = .ok (.iload_n 3, 1) := by decide +kernel
set_option maxRecDepth 20000 in
theorem dL_law_802 : decode cL_law 802 = .ok (.iconst 1, 1) := by decide +kernel
set_option maxRecDepth 20000 in
theorem dL_law_803 : decode cL_law 803 = .ok (.iadd, 1) := by decide +kernel
set_option maxRecDepth 20000 in
theorem dL_law_804 : decode cL_law 804 = .ok (.iaload, 1) := by decide +kernel
set_option maxRecDepth 20000 in
theorem dL_law_805 : decode cL_law 805 = .ok (.aload_n 0, 1) := by decide +kernel
set_option maxRecDepth 20000 in
theorem dL_law_806 : decode cL_law 806 = .ok (.iload_n 3, 1) := by decide +kernel
set_option maxRecDepth 20000 in
theorem dL_law_807 : decode cL_law 807 = .ok (.iconst 2, 1) := by decide +kernel
set_option maxRecDepth 20000 in
theorem dL_law_808 : decode cL_law 808 = .ok (.iadd, 1) := by decide +kernel
set_option maxRecDepth 20000 in
theorem dL_law_809 : decode cL_law 809 = .ok (.iaload, 1) := by decide +kernel
set_option maxRecDepth 20000 in
theorem dL_law_810 : decode cL_law 810 = .ok (.aload_n 0, 1) := by decide +kernel
set_option maxRecDepth 20000 in
theorem dL_law_811 : decode cL_law 811 = .ok (.iload_n 3, 1) := by decide +kernel
set_option maxRecDepth 20000 in
theorem dL_law_812 : decode cL_law 812 = .ok (.iconst 3, 1) := by decide +kernel
set_option maxRecDepth 20000 in
theorem dL_law_813 : decode cL_law 813 = .ok (.iadd, 1) := by decide +kernel
set_option maxRecDepth 20000 in
theorem dL_law_814 : decode cL_law 814 = .ok (.iaload, 1) := by decide +kernel
set_option maxRecDepth 20000 in
theorem dL_law_815 : decode cL_law 815 = .ok (.invokevirtual 106, 3) := by decide +kernel
set_option maxRecDepth 20000 in
theorem dL_law_818 : decode cL_law 818 = .ok (.if_icmp .eq 306, 3) := by decide +kernel
set_option maxRecDepth 20000 in
theorem dL_law_821 : decode cL_law 821 = .ok (.iconst 0, 1) := by decide +kernel
set_option maxRecDepth 20000 in
theorem dL_law_822 : decode cL_law 822 = .ok (.ireturn, 1) := by decide +kernel
set_option maxRecDepth 20000 in
theorem dL_law_823 : decode cL_law 823 = .ok (.aload_n 1, 1) := by decide +kernel
set_option maxRecDepth 20000 in
theorem dL_law_824 : decode cL_law 824 = .ok (.aload_n 0, 1) := by decide +kernel
set_option maxRecDepth 20000 in
theorem dL_law_825 : decode cL_law 825 = .ok (.iload_n 3, 1) := by decide +kernel
set_option maxRecDepth 20000 in
theorem dL_law_826 : decode cL_law 826 = .ok (.iconst 1, 1) := by decide +kernel
set_option maxRecDepth 20000 in
theorem dL_law_827 : decode cL_law 827 = .ok (.iadd, 1) := by decide +kernel
set_option maxRecDepth 20000 in
theorem dL_law_828 : decode cL_law 828 = .ok (.iaload, 1) := by decide +kernel
set_option maxRecDepth 20000 in
theorem dL_law_829 : decode cL_law 829 = .ok (.invokevirtual 107, 3) := by decide +kernel
set_option maxRecDepth 20000 in
theorem dL_law_832 : decode cL_law 832 = .ok (.aload_n 2, 1) := by decide +kernel
set_option maxRecDepth 20000 in
theorem dL_law_833 : decode cL_law 833 = .ok (.aload_n 0, 1) := by decide +kernel
set_option maxRecDepth 20000 in
theorem dL_law_834 : decode cL_law 834 = .ok (.iload_n 3, 1) := by decide +kernel
set_option maxRecDepth 20000 in
theorem dL_law_835 : decode cL_law 835 = .ok (.iconst 1, 1) := by decide +kernel
set_option maxRecDepth 20000 in
theorem dL_law_836 : decode cL_law 836 = .ok (.iadd, 1) := by decide +kernel
set_option maxRecDepth 20000 in
theorem dL_law_837 : decode cL_law 837 = .ok (.iaload, 1) := by decide +kernel
set_option maxRecDepth 20000 in
theorem dL_law_838 : decode cL_law 838 = .ok (.invokevirtual 110, 3) := by decide +kernel
set_option maxRecDepth 20000 in
theorem dL_law_841 : decode cL_law 841 = .ok (.if_icmp .eq 283, 3) := by decide +kernel
set_option maxRecDepth 20000 in
theorem dL_law_844 : decode cL_law 844 = .ok (.iconst 0, 1) := by decide +kernel
set_option maxRecDepth 20000 in
theorem dL_law_845 : decode cL_law 845 = .ok (.ireturn, 1) := by decide +kernel
set_option maxRecDepth 20000 in
theorem dL_law_846 : decode cL_law 846 = .ok (.aload_n 1, 1) := by decide +kernel
set_option maxRecDepth 20000 in
theorem dL_law_847 : decode cL_law 847 = .ok (.aload_n 0, 1) := by decide +kernel
set_option maxRecDepth 20000 in
theorem dL_law_848 : decode cL_law 848 = .ok (.iload_n 3, 1) := by decide +kernel
set_option maxRecDepth 20000 in
theorem dL_law_849 : decode cL_law 849 = .ok (.iconst 1, 1) := by decide +kernel
set_option maxRecDepth 20000 in
theorem dL_law_850 : decode cL_law 850 = .ok (.iadd, 1) := by decide +kernel
set_option maxRecDepth 20000 in
theorem dL_law_851 : decode cL_law 851 = .ok (.iaload, 1) := by decide +kernel
set_option maxRecDepth 20000 in
theorem dL_law_852 : decode cL_law 852 = .ok (.aload_n 0, 1) := by decide +kernel
set_option maxRecDepth 20000 in
theorem dL_law_853 : decode cL_law 853 = .ok (.iload_n 3, 1) := by decide +kernel
set_option maxRecDepth 20000 in
theorem dL_law_854 : decode cL_law 854 = .ok (.iconst 2, 1) := by decide +kernel
set_option maxRecDepth 20000 in
theorem dL_law_855 : decode cL_law 855 = .ok (.iadd, 1) := by decide +kernel
set_option maxRecDepth 20000 in
theorem dL_law_856 : decode cL_law 856 = .ok (.iaload, 1) := by decide +kernel
set_option maxRecDepth 20000 in
theorem dL_law_857 : decode cL_law 857 = .ok (.aload_n 0, 1) := by decide +kernel
set_option maxRecDepth 20000 in
theorem dL_law_858 : decode cL_law 858 = .ok (.iload_n 3, 1) := by decide +kernel
set_option maxRecDepth 20000 in
theorem dL_law_859 : decode cL_law 859 = .ok (.iconst 3, 1) := by decide +kernel
set_option maxRecDepth 20000 in
theorem dL_law_860 : decode cL_law 860 = .ok (.iadd, 1) := by decide +kernel
set_option maxRecDepth 20000 in
theorem dL_law_861 : decode cL_law 861 = .ok (.iaload, 1) := by decide +kernel
set_option maxRecDepth 20000 in
theorem dL_law_862 : decode cL_law 862 = .ok (.invokevirtual 111, 3) := by decide +kernel
set_option maxRecDepth 20000 in
theorem dL_law_865 : decode cL_law 865 = .ok (.aload_n 2, 1) := by decide +kernel
set_option maxRecDepth 20000 in
theorem dL_law_866 : decode cL_law 866 = .ok (.aload_n 0, 1) := by decide +kernel
set_option maxRecDepth 20000 in
theorem dL_law_867 : decode cL_law 867 = .ok (.iload_n 3, 1) := by decide +kernel
set_option maxRecDepth 20000 in
theorem dL_law_868 : decode cL_law 868 = .ok (.iconst 1, 1) := by decide +kernel
set_option maxRecDepth 20000 in
theorem dL_law_869 : decode cL_law 869 = .ok (.iadd, 1) := by decide +kernel
set_option maxRecDepth 20000 in
theorem dL_law_870 : decode cL_law 870 = .ok (.iaload, 1) := by decide +kernel
set_option maxRecDepth 20000 in
theorem dL_law_871 : decode cL_law 871 = .ok (.aload_n 0, 1) := by decide +kernel
set_option maxRecDepth 20000 in
theorem dL_law_872 : decode cL_law 872 = .ok (.iload_n 3, 1) := by decide +kernel
set_option maxRecDepth 20000 in
theorem dL_law_873 : decode cL_law 873 = .ok (.iconst 2, 1) := by decide +kernel
set_option maxRecDepth 20000 in
theorem dL_law_874 : decode cL_law 874 = .ok (.iadd, 1) := by decide +kernel
set_option maxRecDepth 20000 in
theorem dL_law_875 : decode cL_law 875 = .ok (.iaload, 1) := by decide +kernel
set_option maxRecDepth 20000 in
theorem dL_law_876 : decode cL_law 876 = .ok (.aload_n 0, 1) := by decide +kernel
set_option maxRecDepth 20000 in
theorem dL_law_877 : decode cL_law 877 = .ok (.iload_n 3, 1) := by decide +kernel
set_option maxRecDepth 20000 in
theorem dL_law_878 : decode cL_law 878 = .ok (.iconst 3, 1) := by decide +kernel
set_option maxRecDepth 20000 in
theorem dL_law_879 : decode cL_law 879 = .ok (.iadd, 1) := by decide +kernel
set_option maxRecDepth 20000 in
theorem dL_law_880 : decode cL_law 880 = .ok (.iaload, 1) := by decide +kernel
set_option maxRecDepth 20000 in
theorem dL_law_881 : decode cL_law 881 = .ok (.invokevirtual 114, 3) := by decide +kernel
set_option maxRecDepth 20000 in
theorem dL_law_884 : decode cL_law 884 = .ok (.if_icmp .eq 240, 3) := by decide +kernel
set_option maxRecDepth 20000 in
theorem dL_law_887 : decode cL_law 887 = .ok (.iconst 0, 1) := by decide +kernel
set_option maxRecDepth 20000 in
theorem dL_law_888 : decode cL_law 888 = .ok (.ireturn, 1) := by decide +kernel
set_option maxRecDepth 20000 in
theorem dL_law_889 : decode cL_law 889 = .ok (.aload_n 1, 1) := by decide +kernel
set_option maxRecDepth 20000 in
theorem dL_law_890 : decode cL_law 890 = .ok (.aload_n 0, 1) := by decide +kernel
set_option maxRecDepth 20000 in
theorem dL_law_891 : decode cL_law 891 = .ok (.iload_n 3, 1) := by decide +kernel
set_option maxRecDepth 20000 in
theorem dL_law_892 : decode cL_law 892 = .ok (.iconst 1, 1) := by decide +kernel
set_option maxRecDepth 20000 in
theorem dL_law_893 : decode cL_law 893 = .ok (.iadd, 1) := by decide +kernel
set_option maxRecDepth 20000 in
theorem dL_law_894 : decode cL_law 894 = .ok (.iaload, 1) := by decide +kernel
set_option maxRecDepth 20000 in
theorem dL_law_895 : decode cL_law 895 = .ok (.aload_n 0, 1) := by decide +kernel
set_option maxRecDepth 20000 in
theorem dL_law_896 : decode cL_law 896 = .ok (.iload_n 3, 1) := by decide +kernel
set_option maxRecDepth 20000 in
theorem dL_law_897 : decode cL_law 897 = .ok (.iconst 2, 1) := by decide +kernel
set_option maxRecDepth 20000 in
theorem dL_law_898 : decode cL_law 898 = .ok (.iadd, 1) := by decide +kernel
set_option maxRecDepth 20000 in
theorem dL_law_899 : decode cL_law 899 = .ok (.iaload, 1) := by decide +kernel
set_option maxRecDepth 20000 in
theorem dL_law_900 : decode cL_law 900 = .ok (.aload_n 0, 1) := by decide +kernel
set_option maxRecDepth 20000 in
theorem dL_law_901 : decode cL_law 901 = .ok (.iload_n 3, 1) := by decide +kernel
set_option maxRecDepth 20000 in
theorem dL_law_902 : decode cL_law 902 = .ok (.iconst 3, 1) := by decide +kernel
set_option maxRecDepth 20000 in
theorem dL_law_903 : decode cL_law 903 = .ok (.iadd, 1) := by decide +kernel
set_option maxRecDepth 20000 in
theorem dL_law_904 : decode cL_law 904 = .ok (.iaload, 1) := by decide +kernel
set_option maxRecDepth 20000 in
theorem dL_law_905 : decode cL_law 905 = .ok (.invokevirtual 115, 3) := by decide +kernel
set_option maxRecDepth 20000 in
theorem dL_law_908 : decode cL_law 908 = .ok (.aload_n 2, 1) := by decide +kernel
set_option maxRecDepth 20000 in
theorem dL_law_909 : decode cL_law 909 = .ok (.aload_n 0, 1) := by decide +kernel
set_option maxRecDepth 20000 in
theorem dL_law_910 : decode cL_law 910 = .ok (.iload_n 3, 1) := by decide +kernel
set_option maxRecDepth 20000 in
theorem dL_law_911 : decode cL_law 911 = .ok (.iconst 1, 1) := by decide +kernel
set_option maxRecDepth 20000 in
theorem dL_law_912 : decode cL_law 912 = .ok (.iadd, 1) := by decide +kernel
set_option maxRecDepth 20000 in
theorem dL_law_913 : decode cL_law 913 = .ok (.iaload, 1) := by decide +kernel
set_option maxRecDepth 20000 in
theorem dL_law_914 : decode cL_law 914 = .ok (.aload_n 0, 1) := by decide +kernel
set_option maxRecDepth 20000 in
theorem dL_law_915 : decode cL_law 915 = .ok (.iload_n 3, 1) := by decide +kernel
set_option maxRecDepth 20000 in
theorem dL_law_916 : decode cL_law 916 = .ok (.iconst 2, 1) := by decide +kernel
set_option maxRecDepth 20000 in
theorem dL_law_917 : decode cL_law 917 = .ok (.iadd, 1) := by decide +kernel
set_option maxRecDepth 20000 in
theorem dL_law_918 : decode cL_law 918 = .ok (.iaload, 1) := by decide +kernel
set_option maxRecDepth 20000 in
theorem dL_law_919 : decode cL_law 919 = .ok (.aload_n 0, 1) := by decide +kernel
set_option maxRecDepth 20000 in
theorem dL_law_920 : decode cL_law 920 = .ok (.iload_n 3, 1) := by decide +kernel
set_option maxRecDepth 20000 in
theorem dL_law_921 : decode cL_law 921 = .ok (.iconst 3, 1) := by decide +kernel
set_option maxRecDepth 20000 in
theorem dL_law_922 : decode cL_law 922 = .ok (.iadd, 1) := by decide +kernel
set_option maxRecDepth 20000 in
theorem dL_law_923 : decode cL_law 923 = .ok (.iaload, 1) := by decide +kernel
set_option maxRecDepth 20000 in
theorem dL_law_924 : decode cL_law 924 = .ok (.invokevirtual 119, 3) := by decide +kernel
set_option maxRecDepth 20000 in
theorem dL_law_927 : decode cL_law 927 = .ok (.lcmp, 1) := by decide +kernel
set_option maxRecDepth 20000 in
theorem dL_law_928 : decode cL_law 928 = .ok (.ifCond .eq 196, 3) := by decide +kernel
set_option maxRecDepth 20000 in
theorem dL_law_931 : decode cL_law 931 = .ok (.iconst 0, 1) := by decide +kernel
set_option maxRecDepth 20000 in
theorem dL_law_932 : decode cL_law 932 = .ok (.ireturn, 1) := by decide +kernel
set_option maxRecDepth 20000 in
theorem dL_law_933 : decode cL_law 933 = .ok (.aload_n 1, 1) := by decide +kernel
set_option maxRecDepth 20000 in
theorem dL_law_934 : decode cL_law 934 = .ok (.aload_n 0, 1) := by decide +kernel
set_option maxRecDepth 20000 in
theorem dL_law_935 : decode cL_law 935 = .ok (.iload_n 3, 1) := by decide +kernel
set_option maxRecDepth 20000 in
theorem dL_law_936 : decode cL_law 936 = .ok (.iconst 1, 1) := by decide +kernel
set_option maxRecDepth 20000 in
theorem dL_law_937 : decode cL_law 937 = .ok (.iadd, 1) := by decide +kernel
set_option maxRecDepth 20000 in
theorem dL_law_938 : decode cL_law 938 = .ok (.iaload, 1) := by decide +kernel
set_option maxRecDepth 20000 in
theorem dL_law_939 : decode cL_law 939 = .ok (.aload_n 0, 1) := by decide +kernel
set_option maxRecDepth 20000 in
theorem dL_law_940 : decode cL_law 940 = .ok (.iload_n 3, 1) := by decide +kernel
set_option maxRecDepth 20000 in
theorem dL_law_941 : decode cL_law 941 = .ok (.iconst 2, 1) := by decide +kernel
set_option maxRecDepth 20000 in
theorem dL_law_942 : decode cL_law 942 = .ok (.iadd, 1) := by decide +kernel
set_option maxRecDepth 20000 in
theorem dL_law_943 : decode cL_law 943 = .ok (.iaload, 1) := by decide +kernel
set_option maxRecDepth 20000 in
theorem dL_law_944 : decode cL_law 944 = .ok (.aload_n 0, 1) := by decide +kernel
set_option maxRecDepth 20000 in
theorem dL_law_945 : decode cL_law 945 = .ok (.iload_n 3, 1) := by decide +kernel
set_option maxRecDepth 20000 in
theorem dL_law_946 : decode cL_law 946 = .ok (.iconst 3, 1) := by decide +kernel
set_option maxRecDepth 20000 in
theorem dL_law_947 : decode cL_law 947 = .ok (.iadd, 1) := by decide +kernel
set_option maxRecDepth 20000 in
theorem dL_law_948 : decode cL_law 948 = .ok (.iaload, 1) := by decide +kernel
set_option maxRecDepth 20000 in
theorem dL_law_949 : decode cL_law 949 = .ok (.aload_n 0, 1) := by decide +kernel
set_option maxRecDepth 20000 in
theorem dL_law_950 : decode cL_law 950 = .ok (.iload_n 3, 1) := by decide +kernel
set_option maxRecDepth 20000 in
theorem dL_law_951 : decode cL_law 951 = .ok (.iconst 4, 1) := by decide +kernel
set_option maxRecDepth 20000 in
theorem dL_law_952 : decode cL_law 952 = .ok (.iadd, 1) := by decide +kernel
set_option maxRecDepth 20000 in
theorem dL_law_953 : decode cL_law 953 = .ok (.iaload, 1) := by decide +kernel
set_option maxRecDepth 20000 in
theorem dL_law_954 : decode cL_law 954 = .ok (.aload_n 0, 1) := by decide +kernel
set_option maxRecDepth 20000 in
theorem dL_law_955 : decode cL_law 955 = .ok (.iload_n 3, 1) := by decide +kernel
set_option maxRecDepth 20000 in
theorem dL_law_956 : decode cL_law 956 = .ok (.iconst 5, 1) := by decide +kernel
set_option maxRecDepth 20000 in
theorem dL_law_957 : decode cL_law 957 = .ok (.iadd, 1) := by decide +kernel
set_option maxRecDepth 20000 in
theorem dL_law_958 : decode cL_law 958 = .ok (.iaload, 1) := by decide +kernel
set_option maxRecDepth 20000 in
theorem dL_law_959 : decode cL_law 959 = .ok (.invokevirtual 120, 3) := by decide +kernel
set_option maxRecDepth 20000 in
theorem dL_law_962 : decode cL_law 962 = .ok (.aload_n 2, 1) := by decide +kernel
set_option maxRecDepth 20000 in
theorem dL_law_963 : decode cL_law 963 = .ok (.aload_n 0, 1) := by decide +kernel
set_option maxRecDepth 20000 in
theorem dL_law_964 : decode cL_law 964 = .ok (.iload_n 3, 1) := by decide +kernel
set_option maxRecDepth 20000 in
theorem dL_law_965 : decode cL_law 965 = .ok (.iconst 1, 1) := by decide +kernel
set_option maxRecDepth 20000 in
theorem dL_law_966 : decode cL_law 966 = .ok (.iadd, 1) := by decide +kernel
set_option maxRecDepth 20000 in
theorem dL_law_967 : decode cL_law 967 = .ok (.iaload, 1) := by decide +kernel
set_option maxRecDepth 20000 in
theorem dL_law_968 : decode cL_law 968 = .ok (.aload_n 0, 1) := by decide +kernel
set_option maxRecDepth 20000 in
theorem dL_law_969 : decode cL_law 969 = .ok (.iload_n 3, 1) := by decide +kernel
set_option maxRecDepth 20000 in
theorem dL_law_970 : decode cL_law 970 = .ok (.iconst 2, 1) := by decide +kernel
set_option maxRecDepth 20000 in
theorem dL_law_971 : decode cL_law 971 = .ok (.iadd, 1) := by decide +kernel
set_option maxRecDepth 20000 in
theorem dL_law_972 : decode cL_law 972 = .ok (.iaload, 1) := by decide +kernel
set_option maxRecDepth 20000 in
theorem dL_law_973 : decode cL_law 973 = .ok (.aload_n 0, 1) := by decide +kernel
set_option maxRecDepth 20000 in
theorem dL_law_974 : decode cL_law 974 = .ok (.iload_n 3, 1) := by decide +kernel
set_option maxRecDepth 20000 in
theorem dL_law_975 : decode cL_law 975 = .ok (.iconst 3, 1) := by decide +kernel
set_option maxRecDepth 20000 in
theorem dL_law_976 : decode cL_law 976 = .ok (.iadd, 1) := by decide +kernel
set_option maxRecDepth 20000 in
theorem dL_law_977 : decode cL_law 977 = .ok (.iaload, 1) := by decide +kernel
set_option maxRecDepth 20000 in
theorem dL_law_978 : decode cL_law 978 = .ok (.aload_n 0, 1) := by decide +kernel
set_option maxRecDepth 20000 in
theorem dL_law_979 : decode cL_law 979 = .ok (.iload_n 3, 1) := by decide +kernel
set_option maxRecDepth 20000 in
theorem dL_law_980 : decode cL_law 980 = .ok (.iconst 4, 1) := by decide +kernel
set_option maxRecDepth 20000 in
theorem dL_law_981 : decode cL_law 981 = .ok (.iadd, 1) := by decide +kernel
set_option maxRecDepth 20000 in
theorem dL_law_982 : decode cL_law 982 = .ok (.iaload, 1) := by decide +kernel
set_option maxRecDepth 20000 in
theorem dL_law_983 : decode cL_law 983 = .ok (.aload_n 0, 1) := by decide +kernel
set_option maxRecDepth 20000 in
theorem dL_law_984 : decode cL_law 984 = .ok (.iload_n 3, 1) := by decide +kernel
set_option maxRecDepth 20000 in
theorem dL_law_985 : decode cL_law 985 = .ok (.iconst 5, 1) := by decide +kernel
set_option maxRecDepth 20000 in
theorem dL_law_986 : decode cL_law 986 = .ok (.iadd, 1) := by decide +kernel
set_option maxRecDepth 20000 in
theorem dL_law_987 : decode cL_law 987 = .ok (.iaload, 1) := by decide +kernel
set_option maxRecDepth 20000 in
theorem dL_law_988 : decode cL_law 988 = .ok (.invokevirtual 124, 3) := by decide +kernel
set_option maxRecDepth 20000 in
theorem dL_law_991 : decode cL_law 991 = .ok (.if_icmp .eq 133, 3) := by decide +kernel
set_option maxRecDepth 20000 in
theorem dL_law_994 : decode cL_law 994 = .ok (.iconst 0, 1) := by decide +kernel
set_option maxRecDepth 20000 in
theorem dL_law_995 : decode cL_law 995 = .ok (.ireturn, 1) := by decide +kernel
set_option maxRecDepth 20000 in
theorem dL_law_996 : decode cL_law 996 = .ok (.aload_n 1, 1) := by decide +kernel
set_option maxRecDepth 20000 in
theorem dL_law_997 : decode cL_law 997 = .ok (.aload_n 0, 1) := by decide +kernel
set_option maxRecDepth 20000 in
theorem dL_law_998 : decode cL_law 998 = .ok (.iload_n 3, 1) := by decide +kernel
set_option maxRecDepth 20000 in
theorem dL_law_999 : decode cL_law 999 = .ok (.iconst 1, 1) := by decide +kernel
set_option maxRecDepth 20000 in
theorem dL_law_1000 : decode cL_law 1000 = .ok (.iadd, 1) := by decide +kernel
set_option maxRecDepth 20000 in
theorem dL_law_1001 : decode cL_law 1001 = .ok (.iaload, 1) := by decide +kernel
set_option maxRecDepth 20000 in
theorem dL_law_1002 : decode cL_law 1002 = .ok (.invokevirtual 125, 3) := by decide +kernel
set_option maxRecDepth 20000 in
theorem dL_law_1005 : decode cL_law 1005 = .ok (.aload_n 2, 1) := by decide +kernel
set_option maxRecDepth 20000 in
theorem dL_law_1006 : decode cL_law 1006 = .ok (.aload_n 0, 1) := by decide +kernel
set_option maxRecDepth 20000 in
theorem dL_law_1007 : decode cL_law 1007 = .ok (.iload_n 3, 1) := by decide +kernel
set_option maxRecDepth 20000 in
theorem dL_law_1008 : decode cL_law 1008 = .ok (.iconst 1, 1) := by decide +kernel
set_option maxRecDepth 20000 in
theorem dL_law_1009 : decode cL_law 1009 = .ok (.iadd, 1) := by decide +kernel
set_option maxRecDepth 20000 in
theorem dL_law_1010 : decode cL_law 1010 = .ok (.iaload, 1) := by decide +kernel
set_option maxRecDepth 20000 in
theorem dL_law_1011 : decode cL_law 1011 = .ok (.invokevirtual 128, 3) := by decide +kernel
set_option maxRecDepth 20000 in
theorem dL_law_1014 : decode cL_law 1014 = .ok (.if_icmp .eq 110, 3) := by decide +kernel
set_option maxRecDepth 20000 in
theorem dL_law_1017 : decode cL_law 1017 = .ok (.iconst 0, 1) := by decide +kernel
set_option maxRecDepth 20000 in
theorem dL_law_1018 : decode cL_law 1018 = .ok (.ireturn, 1) := by decide +kernel
set_option maxRecDepth 20000 in
theorem dL_law_1019 : decode cL_law 1019 = .ok (.aload_n 1, 1) := by decide +kernel
set_option maxRecDepth 20000 in
theorem dL_law_1020 : decode cL_law 1020 = .ok (.aload_n 0, 1) := by decide +kernel
set_option maxRecDepth 20000 in
theorem dL_law_1021 : decode cL_law 1021 = .ok (.iload_n 3, 1) := by decide +kernel
set_option maxRecDepth 20000 in
theorem dL_law_1022 : decode cL_law 1022 = .ok (.iconst 1, 1) := by decide +kernel
set_option maxRecDepth 20000 in
theorem dL_law_1023 : decode cL_law 1023 = .ok (.iadd, 1) := by decide +kernel
set_option maxRecDepth 20000 in
theorem dL_law_1024 : decode cL_law 1024 = .ok (.iaload, 1) := by decide +kernel
set_option maxRecDepth 20000 in
theorem dL_law_1025 : decode cL_law 1025 = .ok (.invokevirtual 129, 3) := by decide +kernel
set_option maxRecDepth 20000 in
theorem dL_law_1028 : decode cL_law 1028 = .ok (.aload_n 2, 1) := by decide +kernel
set_option maxRecDepth 20000 in
theorem dL_law_1029 : decode cL_law 1029 = .ok (.aload_n 0, 1) := by decide +kernel
set_option maxRecDepth 20000 in
theorem dL_law_1030 : decode cL_law 1030 = .ok (.iload_n 3, 1) := by decide +kernel
set_option maxRecDepth 20000 in
theorem dL_law_1031 : decode cL_law 1031 = .ok (.iconst 1, 1) := by decide +kernel
set_option maxRecDepth 20000 in
theorem dL_law_1032 : decode cL_law 1032 = .ok (.iadd, 1) := by decide +kernel
set_option maxRecDepth 20000 in
theorem dL_law_1033 : decode cL_law 1033 = .ok (.iaload, 1) := by decide +kernel
set_option maxRecDepth 20000 in
theorem dL_law_1034 : decode cL_law 1034 = .ok (.invokevirtual 132, 3) := by decide +kernel
set_option maxRecDepth 20000 in
theorem dL_law_1037 : decode cL_law 1037 = .ok (.if_icmp .eq 87, 3) := by decide +kernel
set_option maxRecDepth 20000 in
theorem dL_law_1040 : decode cL_law 1040 = .ok (.iconst 0, 1) := by decide +kernel
set_option maxRecDepth 20000 in
theorem dL_law_1041 : decode cL_law 1041 = .ok (.ireturn, 1) := by decide +kernel
set_option maxRecDepth 20000 in
theorem dL_law_1042 : decode cL_law 1042 = .ok (.aload_n 1, 1) := by decide +kernel
set_option maxRecDepth 20000 in
theorem dL_law_1043 : decode cL_law 1043 = .ok (.aload_n 0, 1) := by decide +kernel
set_option maxRecDepth 20000 in
theorem dL_law_1044 : decode cL_law 1044 = .ok (.iload_n 3, 1) := by decide +kernel
set_option maxRecDepth 20000 in
theorem dL_law_1045 : decode cL_law 1045 = .ok (.iconst 1, 1) := by decide +kernel
set_option maxRecDepth 20000 in
theorem dL_law_1046 : decode cL_law 1046 = .ok (.iadd, 1) := by decide +kernel
set_option maxRecDepth 20000 in
theorem dL_law_1047 : decode cL_law 1047 = .ok (.iaload, 1) := by decide +kernel
set_option maxRecDepth 20000 in
theorem dL_law_1048 : decode cL_law 1048 = .ok (.aload_n 0, 1) := by decide +kernel
set_option maxRecDepth 20000 in
theorem dL_law_1049 : decode cL_law 1049 = .ok (.iload_n 3, 1) := by decide +kernel
set_option maxRecDepth 20000 in
theorem dL_law_1050 : decode cL_law 1050 = .ok (.iconst 2, 1) := by decide +kernel
set_option maxRecDepth 20000 in
theorem dL_law_1051 : decode cL_law 1051 = .ok (.iadd, 1) := by decide +kernel
set_option maxRecDepth 20000 in
theorem dL_law_1052 : decode cL_law 1052 = .ok (.iaload, 1) := by decide +kernel
set_option maxRecDepth 20000 in
theorem dL_law_1053 : decode cL_law 1053 = .ok (.invokevirtual 133, 3) := by decide +kernel
set_option maxRecDepth 20000 in
theorem dL_law_1056 : decode cL_law 1056 = .ok (.aload_n 2, 1) := by decide +kernel
set_option maxRecDepth 20000 in
theorem dL_law_1057 : decode cL_law 1057 = .ok (.aload_n 0, 1) := by decide +kernel
set_option maxRecDepth 20000 in
theorem dL_law_1058 : decode cL_law 1058 = .ok (.iload_n 3, 1) := by decide +kernel
set_option maxRecDepth 20000 in
theorem dL_law_1059 : decode cL_law 1059 = .ok (.iconst 1, 1) := by decide +kernel
set_option maxRecDepth 20000 in
theorem dL_law_1060 : decode cL_law 1060 = .ok (.iadd, 1) := by decide +kernel
set_option maxRecDepth 20000 in
theorem dL_law_1061 : decode cL_law 1061 = .ok (.iaload, 1) := by decide +kernel
set_option maxRecDepth 20000 in
theorem dL_law_1062 : decode cL_law 1062 = .ok (.aload_n 0, 1) := by decide +kernel
set_option maxRecDepth 20000 in
theorem dL_law_1063 : decode cL_law 1063 = .ok (.iload_n 3, 1) := by decide +kernel
set_option maxRecDepth 20000 in
theorem dL_law_1064 : decode cL_law 1064 = .ok (.iconst 2, 1) := by decide +kernel
set_option maxRecDepth 20000 in
theorem dL_law_1065 : decode cL_law 1065 = .ok (.iadd, 1) := by decide +kernel
set_option maxRecDepth 20000 in
theorem dL_law_1066 : decode cL_law 1066 = .ok (.iaload, 1) := by decide +kernel
set_option maxRecDepth 20000 in
theorem dL_law_1067 : decode cL_law 1067 = .ok (.invokevirtual 136, 3) := by decide +kernel
set_option maxRecDepth 20000 in
theorem dL_law_1070 : decode cL_law 1070 = .ok (.if_icmp .eq 54, 3) := by decide +kernel
set_option maxRecDepth 20000 in
theorem dL_law_1073 : decode cL_law 1073 = .ok (.iconst 0, 1) := by decide +kernel
set_option maxRecDepth 20000 in
theorem dL_law_1074 : decode cL_law 1074 = .ok (.ireturn, 1) := by decide +kernel
set_option maxRecDepth 20000 in
theorem dL_law_1075 : decode cL_law 1075 = .ok (.aload_n 1, 1) := by decide +kernel
set_option maxRecDepth 20000 in
theorem dL_law_1076 : decode cL_law 1076 = .ok (.invokevirtual 137, 3) := by decide +kernel
set_option maxRecDepth 20000 in
theorem dL_law_1079 : decode cL_law 1079 = .ok (.aload_n 2, 1) := by decide +kernel
set_option maxRecDepth 20000 in
theorem dL_law_1080 : decode cL_law 1080 = .ok (.invokevirtual 140, 3) := by decide +kernel
set_option maxRecDepth 20000 in
theorem dL_law_1083 : decode cL_law 1083 = .ok (.if_icmp .eq 41, 3) := by decide +kernel
set_option maxRecDepth 20000 in
theorem dL_law_1086 : decode cL_law 1086 = .ok (.iconst 0, 1) := by decide +kernel
set_option maxRecDepth 20000 in
theorem dL_law_1087 : decode cL_law 1087 = .ok (.ireturn, 1) := by decide +kernel
set_option maxRecDepth 20000 in
theorem dL_law_1088 : decode cL_law 1088 = .ok (.aload_n 1, 1) := by decide +kernel
set_option maxRecDepth 20000 in
theorem dL_law_1089 : decode cL_law 1089 = .ok (.invokevirtual 141, 3) := by decide +kernel
set_option maxRecDepth 20000 in
theorem dL_law_1092 : decode cL_law 1092 = .ok (.aload_n 2, 1) := by decide +kernel
set_option maxRecDepth 20000 in
theorem dL_law_1093 : decode cL_law 1093 = .ok (.invokevirtual 144, 3) := by decide +kernel
set_option maxRecDepth 20000 in
theorem dL_law_1096 : decode cL_law 1096 = .ok (.if_icmp .eq 28, 3) := by decide +kernel
set_option maxRecDepth 20000 in
theorem dL_law_1099 : decode cL_law 1099 = .ok (.iconst 0, 1) := by decide +kernel
set_option maxRecDepth 20000 in
theorem dL_law_1100 : decode cL_law 1100 = .ok (.ireturn, 1) := by decide +kernel
set_option maxRecDepth 20000 in
theorem dL_law_1101 : decode cL_law 1101 = .ok (.aload_n 1, 1) := by decide +kernel
set_option maxRecDepth 20000 in
theorem dL_law_1102 : decode cL_law 1102 = .ok (.aload_n 0, 1) := by decide +kernel
set_option maxRecDepth 20000 in
theorem dL_law_1103 : decode cL_law 1103 = .ok (.iload_n 3, 1) := by decide +kernel
set_option maxRecDepth 20000 in
theorem dL_law_1104 : decode cL_law 1104 = .ok (.iconst 1, 1) := by decide +kernel
set_option maxRecDepth 20000 in
theorem dL_law_1105 : decode cL_law 1105 = .ok (.iadd, 1) := by decide +kernel
set_option maxRecDepth 20000 in
theorem dL_law_1106 : decode cL_law 1106 = .ok (.iaload, 1) := by decide +kernel
set_option maxRecDepth 20000 in
theorem dL_law_1107 : decode cL_law 1107 = .ok (.invokevirtual 145, 3) := by decide +kernel
set_option maxRecDepth 20000 in
theorem dL_law_1110 : decode cL_law 1110 = .ok (.aload_n 2, 1) := by decide +kernel
set_option maxRecDepth 20000 in
theorem dL_law_1111 : decode cL_law 1111 = .ok (.aload_n 0, 1) := by decide +kernel
set_option maxRecDepth 20000 in
theorem dL_law_1112 : decode cL_law 1112 = .ok (.iload_n 3, 1) := by decide +kernel
set_option maxRecDepth 20000 in
theorem dL_law_1113 : decode cL_law 1113 = .ok (.iconst 1, 1) := by decide +kernel
set_option maxRecDepth 20000 in
theorem dL_law_1114 : decode cL_law 1114 = .ok (.iadd, 1) := by decide +kernel
set_option maxRecDepth 20000 in
theorem dL_law_1115 : decode cL_law 1115 = .ok (.iaload, 1) := by decide +kernel
set_option maxRecDepth 20000 in
theorem dL_law_1116 : decode cL_law 1116 = .ok (.invokevirtual 148, 3) := by decide +kernel
set_option maxRecDepth 20000 in
theorem dL_law_1119 : decode cL_law 1119 = .ok (.if_icmp .eq 5, 3) := by decide +kernel
set_option maxRecDepth 20000 in
theorem dL_law_1122 : decode cL_law 1122 = .ok (.iconst 0, 1) := by decide +kernel
set_option maxRecDepth 20000 in
theorem dL_law_1123 : decode cL_law 1123 = .ok (.ireturn, 1) := by decide +kernel
set_option maxRecDepth 20000 in
theorem dL_law_1124 : decode cL_law 1124 = .ok (.iinc 3 6, 3) := by decide +kernel
set_option maxRecDepth 20000 in
theorem dL_law_1127 : decode cL_law 1127 = .ok (.goto (-1109), 3) := by decide +kernel
set_option maxRecDepth 20000 in
theorem dL_law_1130 : decode cL_law 1130 = .ok (.iconst 1, 1) := by decide +kernel
set_option maxRecDepth 20000 in
theorem dL_law_1131 : decode cL_law 1131 = .ok (.ireturn, 1) := by decide +kernel
end
section
/-! the state of a system as whole numbers: object, place -/
abbrev Sg : Type := Nat → Nat → Int32
def st (σ : Sg) (o k : Nat) (v : Int32) : Sg := fun o' => if o' = o then upd (σ o) k v else σ o'
def vin (i : Int32) (n : Nat) : Bool := decide (0 ≤ i.toInt) && decide (i.toInt < n)
theorem vin_in {i : Int32} {n : Nat} (h : vin i n = true) : vp_in i n := vp_in_iff.mpr (by simpa [vin] using h)
theorem zt {α : Type} {c : Prop} [Decidable c] {a b r : α} (h : c) (hf : (if c then a else b) = r) : a = r := by rwa [if_pos h] at hf
theorem zf {α : Type} {c : Prop} [Decidable c] {a b r : α} (h : ¬ c) (hf : (if c then a else b) = r) : b = r := by rwa [if_neg h] at hf
theorem zc {α : Type} {c : Prop} [Decidable c] {a : Option α} {r : α} (hf : (if c then a else none) = some r) : c ∧ a = some r := by
  by_cases h : c
  · exact ⟨h, by rwa [if_pos h] at hf⟩
  · rw [if_neg h] at hf; cases hf
theorem zb {α β : Type} {x : Option α} {k : α → Option β} {r : β} (hf : x.bind k = some r) : ∃ a, x = some a ∧ k a = some r := Option.bind_eq_some_iff.mp hf
theorem z01 {v : Int32} (h : v = 0 ∨ v = 1) : narrow .boolean (.int v) = .int v := by rcases h with rfl | rfl <;> rfl
/-- the words of a method's contract: its own code, then all of the tables' -/
def lw_tg : List Cond := lw_tbl.filter goodWord
def wm (y : MethodName) (cc : ByteArray) (n : Nat) (ret : Option FieldType) : List Cond := .code y cc n ret :: lw_tg
theorem lw_ofs {w : Cond} (i : Nat) (h : lw_tbl[i]? = some w) (g : goodWord w = true) : w ∈ lw_tg := List.mem_filter.mpr ⟨List.mem_of_getElem? h, g⟩
theorem gd_wm {y : MethodName} {cc : ByteArray} {n : Nat} {ret : Option FieldType} (h : Cond.code y cc n ret ∈ lw_tg) : GoodIn lw_tg (wm y cc n ret) := fun w hw => by
  have hm : w ∈ lw_tg := (List.mem_cons.mp hw).elim (fun e => by rw [e]; exact h) id
  exact ⟨hm, good_of_word ((List.mem_filter.mp hm).2)⟩
theorem gd_l {a b : List Cond} (ha : ∀ w ∈ a, w ∈ lw_tg) (hb : GoodIn lw_tg b) : GoodIn lw_tg (a ++ b) := fun w hw => (List.mem_append.mp hw).elim (fun h => ⟨ha w h, good_of_word ((List.mem_filter.mp (ha w h)).2)⟩) (hb w)
theorem gd_V {own C : String} {i : Nat} {y : MethodName} {cc : ByteArray} {n : Nat} {ret : Option FieldType} (h1 : Cond.methodLink own i y ∈ lw_tg) (h2 : Cond.instanceMethod y ∈ lw_tg) (h3 : Cond.selects C y y ∈ lw_tg) (h4 : Cond.initialized C ∈ lw_tg) (h : Cond.code y cc n ret ∈ lw_tg) : GoodIn lw_tg (wsV own i C y (wm y cc n ret)) :=
  gd_l (List.forall_mem_cons.mpr ⟨h1, List.forall_mem_cons.mpr ⟨h2, List.forall_mem_cons.mpr ⟨h3, List.forall_mem_cons.mpr ⟨h4, fun _ h => absurd h List.not_mem_nil⟩⟩⟩⟩) (gd_wm h)
theorem gd_S {own : String} {i : Nat} {y : MethodName} {cc : ByteArray} {n : Nat} {ret : Option FieldType} (h1 : Cond.methodLink own i y ∈ lw_tg) (h2 : Cond.static y ∈ lw_tg) (h4 : Cond.initialized y.cls ∈ lw_tg) (h : Cond.code y cc n ret ∈ lw_tg) : GoodIn lw_tg (va_wsS own i y (wm y cc n ret)) :=
  gd_l (List.forall_mem_cons.mpr ⟨h1, List.forall_mem_cons.mpr ⟨h2, List.forall_mem_cons.mpr ⟨h4, fun _ h => absurd h List.not_mem_nil⟩⟩⟩) (gd_wm h)
/-- words that no contract's list may hold: they go with the world -/
def isNF : Cond → Bool
  | .fieldLinkNest _ _ _ _ _ _ => true
  | .methodLinkNest _ _ _ _ => true
  | .arrayOver (.object _) => true
  | _ => false
def lw_nf : List Cond := lw_tbl.filter isNF
theorem lw_ofn {w : Cond} (i : Nat) (h : lw_tbl[i]? = some w) (g : isNF w = true) : w ∈ lw_nf := List.mem_filter.mpr ⟨List.mem_of_getElem? h, g⟩
def NW (U : State) : Prop := ∀ w ∈ lw_nf, va_Nw w U
theorem NW.warm {s U : State} (hW : s.WarmedH U.vm) (h : NW s) : NW U := fun w hw => by
  have hn := (List.mem_filter.mp hw).2
  have hz := h w hw
  unfold isNF at hn
  split at hn
  · exact va_Nw.warmF hW hz
  · exact va_Nw.warmM hW hz
  · exact va_AO.moved hW.alike hz
  · cases hn
theorem NW.same {u U : State} (hv : u.vm = U.vm) (h : NW u) : NW U := fun w hw => by
  have hn := (List.mem_filter.mp hw).2
  have hz := h w hw
  unfold isNF at hn
  split at hn
  · exact va_Nw.same rfl hv hz
  · exact va_Nw.same rfl hv hz
  · exact va_AO.moved (by rw [hv]; exact Vm.Alike.refl _) hz
  · cases hn
/-- the world behind a call -/
def BW (D : va_G) (tys : List (ClassId × FieldType)) (Wf : Sg → va_W) (σ : Sg) : State → Prop := fun U => va_P D vwCl (Wf σ) U.heap ∧ va_K D vwCl tys U ∧ NW U
/-- what stays throughout a method -/
def CX (p : Program) (m : MethodId) (c : Code) (cc : ByteArray) (nL : Nat) (s : State) (args : Array Value) (own : String) (D : va_G) (tys : List (ClassId × FieldType)) (Wf : Sg → va_W) (A : Nat → Prop) : Prop := CallFix p m c cc nL s args lw_tg own ∧ va_K D vwCl tys s ∧ (∀ σ, va_D A (Wf σ)) ∧ NW s
/-- the ends: an int, a long, nothing, a reference or null -/
abbrev QI (D : va_G) (tys : List (ClassId × FieldType)) (Wf : Sg → va_W) (A : Nat → Prop) (r0 : Int32) (σ : Sg) : Array Value → State → Outcome → State → Prop := va_Qi (fun (r : Int32) (_ : Unit) => r = r0) (fun _ => BW D tys Wf σ) A
abbrev QL (D : va_G) (tys : List (ClassId × FieldType)) (Wf : Sg → va_W) (A : Nat → Prop) (r0 : Int64) (σ : Sg) : Array Value → State → Outcome → State → Prop := va_Ql (fun (r : Int64) (_ : Unit) => r = r0) (fun _ => BW D tys Wf σ) A
abbrev QV (D : va_G) (tys : List (ClassId × FieldType)) (Wf : Sg → va_W) (A : Nat → Prop) (σ : Sg) : Array Value → State → Outcome → State → Prop := va_Qv (fun _ : Unit => True) (fun _ => BW D tys Wf σ) A
abbrev QR (D : va_G) (tys : List (ClassId × FieldType)) (Wf : Sg → va_W) (A : Nat → Prop) (r0 : Option Nat) (σ : Sg) : Array Value → State → Outcome → State → Prop := va_Qq (fun (r : Option Nat) (_ : Unit) => r = r0) (fun _ => BW D tys Wf σ) A
section
variable {p : Program} {l : Launch} {e : Env} {R : Room} {s : State} {m : MethodId} {args : Array Value} {below : List Frame} {meth : Method} {c : Code} {cc : ByteArray} {nL : Nat} {own : String} {D : va_G} {tys : List (ClassId × FieldType)} {Wf : Sg → va_W} {A : Nat → Prop} {H : Heap} {locs : List Loc} {Q : State → Prop} {pc : Nat} {ls : Array Slot} {rest : List Value} {σ : Sg} {a : Nat}
theorem q_enter {y : MethodName} {maxL : Nat} {ret : Option FieldType} {rm : Room} {As : List Value} {Qc : Array Value → State → Outcome → State → Prop} (hpn : plainName y.cls = true) (hD : ∀ σ, va_D A (Wf σ)) (hlen : (lg_sl As).length ≤ maxL)
    (body : ∀ (p : Program) (e : Env) (s : State) (m : MethodId) (below : List Frame) (meth : Method) (c : Code), CX p m c cc maxL s As.toArray y.cls D tys Wf A → meth.sig.returnType = ret → meth.locks = false → va_P D vwCl (Wf σ) s.heap → va_S A s.heap s.heap [] → ∀ ls, lv_has ls maxL (lv_args 0 As) → W p l e rm s m As.toArray below meth c s.heap [] 0 0 (MQ below Qc As.toArray s 0 0 A) (F0 m 0 ls [])) :
    Met l y (wm y cc maxL ret) rm (va_Pc As (BW D tys Wf σ)) Qc 0 0 A := by
  refine Met.ofW (cc := cc) (maxL := maxL) (ret := ret) hpn rfl ?_
  intro p e s m args below meth c s₁ B hml hv
  obtain ⟨rfl, hP, hK, hN⟩ := hv
  have hts := atoms_spec (ws := wm y cc maxL ret) B.pre
  have hl := lv_entry As (n := maxL) hlen
  rw [lg_entry_eq]
  exact body p e s m below meth c ⟨⟨B.exec, B.bytes, hml, findClass_of_methodNamed B.named, fun w hw => hts w (List.mem_cons_of_mem _ hw)⟩, hK, hD, hN⟩ B.returns B.notSynchronized hP va_S.rf _ hl
theorem fb_BW {As : List Value} : FrameBlind (va_Pc As (BW D tys Wf σ)) := fun a U g mk q => by
  obtain ⟨q0, qP, qK, qN⟩ := q
  exact ⟨q0, qP, va_K.moved (u := U) (U := U.calling g mk a) (Vm.Alike.refl U.vm) qK, NW.same (u := U) (U := U.calling g mk a) rfl qN⟩
-- returns
theorem q_iret (C : CX p m c cc nL s args own D tys Wf A) (hr : meth.sig.returnType = some .int) (hlk : meth.locks = false) (hP : va_P D vwCl (Wf σ) H) (hS : va_S A s.heap H locs) {v r0 : Int32} {σ' : Sg} (hv : (v, σ) = (r0, σ')) (hd : decode cc pc = .ok (.ireturn, 1)) : W p l e R s m args below meth c H locs 0 0 (MQ below (QI D tys Wf A r0 σ') args s 0 0 A) (F0 m pc ls [.int v]) := by
  cases hv
  exact W.iret (v := v) C.1.1 C.1.2.1 hr (fun t ht hW => ⟨⟨v, (), rfl, rfl, by rw [ht]; exact hP, va_K.moved hW.alike C.2.1, NW.warm hW C.2.2.2⟩, hS.F ht⟩) hS.2.2 hd hlk
theorem q_zret (C : CX p m c cc nL s args own D tys Wf A) (hr : meth.sig.returnType = some .boolean) (hlk : meth.locks = false) (hP : va_P D vwCl (Wf σ) H) (hS : va_S A s.heap H locs) {v r0 : Int32} {σ' : Sg} (hv : (v, σ) = (r0, σ')) (h01 : v = 0 ∨ v = 1) (hd : decode cc pc = .ok (.ireturn, 1)) : W p l e R s m args below meth c H locs 0 0 (MQ below (QI D tys Wf A r0 σ') args s 0 0 A) (F0 m pc ls [.int v]) := by
  cases hv
  exact W.zret (v := v) C.1.1 C.1.2.1 hr (z01 h01) (fun t ht hW => ⟨⟨v, (), rfl, rfl, by rw [ht]; exact hP, va_K.moved hW.alike C.2.1, NW.warm hW C.2.2.2⟩, hS.F ht⟩) hS.2.2 hd hlk
theorem q_lret (C : CX p m c cc nL s args own D tys Wf A) (hr : meth.sig.returnType = some .long) (hlk : meth.locks = false) (hP : va_P D vwCl (Wf σ) H) (hS : va_S A s.heap H locs) {v r0 : Int64} {σ' : Sg} (hv : (v, σ) = (r0, σ')) (hd : decode cc pc = .ok (.lreturn, 1)) : W p l e R s m args below meth c H locs 0 0 (MQ below (QL D tys Wf A r0 σ') args s 0 0 A) (F0 m pc ls [.long v]) := by
  cases hv
  exact W.lret (v := v) C.1.1 C.1.2.1 hr (fun t ht hW => ⟨⟨v, (), rfl, rfl, by rw [ht]; exact hP, va_K.moved hW.alike C.2.1, NW.warm hW C.2.2.2⟩, hS.F ht⟩) hS.2.2 hd hlk
theorem q_vret (C : CX p m c cc nL s args own D tys Wf A) (hr : meth.sig.returnType = none) (hlk : meth.locks = false) (hP : va_P D vwCl (Wf σ) H) (hS : va_S A s.heap H locs) {σ' : Sg} (hv : σ = σ') (hd : decode cc pc = .ok (.return_, 1)) : W p l e R s m args below meth c H locs 0 0 (MQ below (QV D tys Wf A σ') args s 0 0 A) (F0 m pc ls []) := by
  cases hv
  exact W.vret C.1.1 C.1.2.1 hr (fun t ht hW => ⟨⟨(), rfl, trivial, by rw [ht]; exact hP, va_K.moved hW.alike C.2.1, NW.warm hW C.2.2.2⟩, hS.F ht⟩) hS.2.2 hd hlk
theorem q_aret (C : CX p m c cc nL s args own D tys Wf A) {rt : FieldType} (hr : meth.sig.returnType = some rt) (hrt : (∃ n, rt = .object n) ∨ ∃ t, rt = .array t) (hlk : meth.locks = false) (hP : va_P D vwCl (Wf σ) H) (hS : va_S A s.heap H locs) {v r0 : Option Nat} {σ' : Sg} (hv : (v, σ) = (r0, σ')) (hd : decode cc pc = .ok (.areturn, 1)) : W p l e R s m args below meth c H locs 0 0 (MQ below (QR D tys Wf A r0 σ') args s 0 0 A) (F0 m pc ls [va_rf v]) := by
  cases hv
  exact W.aret (v := va_rf v) C.1.1 C.1.2.1 hr hrt (va_rf_or v) (fun t ht hW => ⟨⟨v, (), rfl, rfl, by rw [ht]; exact hP, va_K.moved hW.alike C.2.1, NW.warm hW C.2.2.2⟩, hS.F ht⟩) hS.2.2 hd hlk
-- fields
theorem q_get (C : CX p m c cc nL s args own D tys Wf A) (hP : va_P D vwCl (Wf σ) H) {o ci k N idx : Nat} {fs : List Value} {Cn : String} {T : u_T} {v : Value} (he : (Wf σ)[o]? = some (a, .inr (ci, fs))) (hc : vwCl[ci]? = some (Cn, T, N)) (hin : ∀ w ∈ u_ws Cn T N, w ∈ lw_tg) (hk : k < N) (hv : fs[k]? = some v) (hl : Cond.fieldLink own idx (T k).1 (T k).2.1 (T k).2.2.1 ∈ lw_tg) (hd : decode cc pc = .ok (.getfield idx, 3))
    (kk : W p l e R s m args below meth c H locs 0 0 Q (F0 m (pc + 3) ls (v :: rest))) : W p l e R s m args below meth c H locs 0 0 Q (F0 m pc ls (.ref a :: rest)) :=
  va_get C.1.1 C.1.2.1 C.1.2.2.2.2 hin C.1.2.2.2.1 C.2.1 hP o he hc k hk (C.1.2.2.2.2 _ hl) (fun _ h => h) hv hd kk
theorem q_getN (C : CX p m c cc nL s args own D tys Wf A) (hP : va_P D vwCl (Wf σ) H) {o ci k N idx : Nat} {fs : List Value} {Cn host : String} {T : u_T} {v : Value} (he : (Wf σ)[o]? = some (a, .inr (ci, fs))) (hc : vwCl[ci]? = some (Cn, T, N)) (hin : ∀ w ∈ u_ws Cn T N, w ∈ lw_tg) (hk : k < N) (hv : fs[k]? = some v) (hl : Cond.fieldLinkNest own idx (T k).1 (T k).2.1 (T k).2.2.1 host ∈ lw_nf) (hd : decode cc pc = .ok (.getfield idx, 3))
    (kk : W p l e R s m args below meth c H locs 0 0 Q (F0 m (pc + 3) ls (v :: rest))) : W p l e R s m args below meth c H locs 0 0 Q (F0 m pc ls (.ref a :: rest)) :=
  va_getN C.1.1 C.1.2.1 C.1.2.2.2.2 hin C.1.2.2.2.1 C.2.1 hP o he hc k hk (va_Nw.use rfl (C.2.2.2 _ hl)) (fun _ h => h) hv hd kk
theorem q_put (C : CX p m c cc nL s args own D tys Wf A) (hP : va_P D vwCl (Wf σ) H) (hS : va_S A s.heap H locs) {o ci k N idx : Nat} {fs : List Value} {Cn : String} {T : u_T} {v : Value} {ty0 : Nat → FieldType} (he : (Wf σ)[o]? = some (a, .inr (ci, fs))) (hc : vwCl[ci]? = some (Cn, T, N)) (hin : ∀ w ∈ u_ws Cn T N, w ∈ lw_tg) (hty : ∀ k, k < N → parseFieldDescriptor (T k).2.2.1 = some (ty0 k)) (hnm : ∀ a, a < N → ∀ b, b < N → a ≠ b → (T a).2.1 ≠ (T b).2.1) (hk : k < N) (hfin : (T k).2.2.2 = false) (hn : narrow (ty0 k) v = v) (hfit : fits (ty0 k) v = true) (hlen : k < fs.length) {σ' : Sg} (hset : (Wf σ).set o (a, .inr (ci, fs.set k v)) = Wf σ') (hl : Cond.fieldLink own idx (T k).1 (T k).2.1 (T k).2.2.1 ∈ lw_tg) (hd : decode cc pc = .ok (.putfield idx, 3))
    (kk : ∀ (H1 : Heap) (locs1 : List Loc), va_P D vwCl (Wf σ') H1 → va_S A s.heap H1 locs1 → W p l e R s m args below meth c H1 locs1 0 0 Q (F0 m (pc + 3) ls rest)) : W p l e R s m args below meth c H locs 0 0 Q (F0 m pc ls (v :: .ref a :: rest)) :=
  va_put C.1.1 C.1.2.1 C.1.2.2.2.2 hin ty0 hty hnm C.1.2.2.2.1 C.2.1 hP (C.2.2.1 σ) hS o he hc k hk (C.1.2.2.2.2 _ hl) (fun _ h => h) hfin (hty k hk) hn hfit hlen hd (fun H1 locs1 h1 _ h3 => kk H1 locs1 (hset ▸ h1) h3)
theorem q_putN (C : CX p m c cc nL s args own D tys Wf A) (hP : va_P D vwCl (Wf σ) H) (hS : va_S A s.heap H locs) {o ci k N idx : Nat} {fs : List Value} {Cn host : String} {T : u_T} {v : Value} {ty0 : Nat → FieldType} (he : (Wf σ)[o]? = some (a, .inr (ci, fs))) (hc : vwCl[ci]? = some (Cn, T, N)) (hin : ∀ w ∈ u_ws Cn T N, w ∈ lw_tg) (hty : ∀ k, k < N → parseFieldDescriptor (T k).2.2.1 = some (ty0 k)) (hnm : ∀ a, a < N → ∀ b, b < N → a ≠ b → (T a).2.1 ≠ (T b).2.1) (hk : k < N) (hfin : (T k).2.2.2 = false) (hn : narrow (ty0 k) v = v) (hfit : fits (ty0 k) v = true) (hlen : k < fs.length) {σ' : Sg} (hset : (Wf σ).set o (a, .inr (ci, fs.set k v)) = Wf σ') (hl : Cond.fieldLinkNest own idx (T k).1 (T k).2.1 (T k).2.2.1 host ∈ lw_nf) (hd : decode cc pc = .ok (.putfield idx, 3))
    (kk : ∀ (H1 : Heap) (locs1 : List Loc), va_P D vwCl (Wf σ') H1 → va_S A s.heap H1 locs1 → W p l e R s m args below meth c H1 locs1 0 0 Q (F0 m (pc + 3) ls rest)) : W p l e R s m args below meth c H locs 0 0 Q (F0 m pc ls (v :: .ref a :: rest)) :=
  va_putN C.1.1 C.1.2.1 C.1.2.2.2.2 hin ty0 hty hnm C.1.2.2.2.1 C.2.1 hP (C.2.2.1 σ) hS o he hc k hk (va_Nw.use rfl (C.2.2.2 _ hl)) (fun _ h => h) hfin (hty k hk) hn hfit hlen hd (fun H1 locs1 h1 _ h3 => kk H1 locs1 (hset ▸ h1) h3)
-- arrays of ints
theorem q_ald (C : CX p m c cc nL s args own D tys Wf A) (hP : va_P D vwCl (Wf σ) H) {o n : Nat} {cA : ClassId} {f : Nat → Int32} (he : (Wf σ)[o]? = some (a, .inl (cA, n, .inl f))) (ht : tys[0]? = some (cA, .int)) {i : Int32} (hin : vin i n = true) (hd : decode cc pc = .ok (.iaload, 1))
    (kk : W p l e R s m args below meth c H locs 0 0 Q (F0 m (pc + 1) ls (.int (f i.toNatClampNeg) :: rest))) : W p l e R s m args below meth c H locs 0 0 Q (F0 m pc ls (.int i :: .ref a :: rest)) :=
  va_iald C.1.1 C.1.2.1 C.2.1 hP o 0 he ht (vin_in hin) hd kk
theorem q_ast (C : CX p m c cc nL s args own D tys Wf A) (hP : va_P D vwCl (Wf σ) H) (hS : va_S A s.heap H locs) {o n : Nat} {cA : ClassId} {f : Nat → Int32} (he : (Wf σ)[o]? = some (a, .inl (cA, n, .inl f))) (ht : tys[0]? = some (cA, .int)) {i x : Int32} (hin : vin i n = true) {σ' : Sg} (hset : (Wf σ).set o (a, .inl (cA, n, .inl (upd f i.toNatClampNeg x))) = Wf σ') (hd : decode cc pc = .ok (.iastore, 1))
    (kk : ∀ (H1 : Heap) (locs1 : List Loc), va_P D vwCl (Wf σ') H1 → va_S A s.heap H1 locs1 → W p l e R s m args below meth c H1 locs1 0 0 Q (F0 m (pc + 1) ls rest)) : W p l e R s m args below meth c H locs 0 0 Q (F0 m pc ls (.int x :: .int i :: .ref a :: rest)) :=
  va_iast C.1.1 C.1.2.1 C.2.1 hP (C.2.2.1 σ) hS o 0 he ht (vin_in hin) hd (fun H1 locs1 h1 _ h3 => kk H1 locs1 (hset ▸ h1) h3)
theorem q_aldq (C : CX p m c cc nL s args own D tys Wf A) (hP : va_P D vwCl (Wf σ) H) {o n t0 : Nat} {cA : ClassId} {Cn : String} {f : Nat → Option Nat} (he : (Wf σ)[o]? = some (a, .inl (cA, n, .inr (.inr (.inr (.inr f)))))) (ht : tys[t0]? = some (cA, .object Cn)) {i : Int32} (hin : vin i n = true) {v : Value} (hv : va_rf (f i.toNatClampNeg) = v) (hd : decode cc pc = .ok (.aaload, 1))
    (kk : W p l e R s m args below meth c H locs 0 0 Q (F0 m (pc + 1) ls (v :: rest))) : W p l e R s m args below meth c H locs 0 0 Q (F0 m pc ls (.int i :: .ref a :: rest)) := by
  subst hv
  exact va_aldq C.1.1 C.1.2.1 C.2.1 hP o t0 he ht (vin_in hin) hd kk
theorem q_alen (C : CX p m c cc nL s args own D tys Wf A) (hP : va_P D vwCl (Wf σ) H) {o n : Nat} {cA : ClassId} {f : Nat → Int32} (he : (Wf σ)[o]? = some (a, .inl (cA, n, .inl f))) (ht : tys[0]? = some (cA, .int)) (hd : decode cc pc = .ok (.arraylength, 1))
    (kk : W p l e R s m args below meth c H locs 0 0 Q (F0 m (pc + 1) ls (.int (nI n) :: rest))) : W p l e R s m args below meth c H locs 0 0 Q (F0 m pc ls (.ref a :: rest)) :=
  va_alen C.1.1 C.1.2.1 C.2.1 hP o 0 he ht rfl hd kk
-- references that may be null
theorem q_aloadq_n (C : CX p m c cc nL s args own D tys Wf A) {k : Fin 4} {i : Nat} {r : Option Nat} (hd : decode cc pc = .ok (.aload_n k, 1)) (hi : (k : Nat) = i) (hl : ls[i]? = some (.val (va_rf r))) (kk : W p l e R s m args below meth c H locs 0 0 Q (F0 m (pc + 1) ls (va_rf r :: rest))) : W p l e R s m args below meth c H locs 0 0 Q (F0 m pc ls rest) := by
  cases r with
  | none => exact lv_aload_nN C.1.1 C.1.2.1 hd hi hl kk
  | some t => exact lv_aload_n C.1.1 C.1.2.1 hd hi hl kk
theorem q_aloadq (C : CX p m c cc nL s args own D tys Wf A) {i : Nat} {r : Option Nat} (hd : decode cc pc = .ok (.aload i, 2)) (hl : ls[i]? = some (.val (va_rf r))) (kk : W p l e R s m args below meth c H locs 0 0 Q (F0 m (pc + 2) ls (va_rf r :: rest))) : W p l e R s m args below meth c H locs 0 0 Q (F0 m pc ls rest) := by
  cases r with
  | none => exact lv_aloadN C.1.1 C.1.2.1 hd hl kk
  | some t => exact lv_aload C.1.1 C.1.2.1 hd hl kk
theorem q_astoreq_n (C : CX p m c cc nL s args own D tys Wf A) {k : Fin 4} {i n : Nat} {r : Option Nat} {lv lv' : List (Nat × Value)} (hd : decode cc pc = .ok (.astore_n k, 1)) (hi : (k : Nat) = i) (h : lv_has ls n lv) (hn : i < n) (hl : (i, va_rf r) :: lv.filter (fun q => !(q.1 == i) && !(q.1 + 1 == i && q.2.category == 2)) = lv') (kk : ∀ ls' : Array Slot, lv_has ls' n lv' → W p l e R s m args below meth c H locs 0 0 Q (F0 m (pc + 1) ls' rest)) : W p l e R s m args below meth c H locs 0 0 Q (F0 m pc ls (va_rf r :: rest)) := by
  cases r with
  | none => exact lv_astore_nN C.1.1 C.1.2.1 hd hi h hn hl kk
  | some t => exact lv_astore_n C.1.1 C.1.2.1 hd hi h hn hl kk
theorem q_astoreq (C : CX p m c cc nL s args own D tys Wf A) {i n : Nat} {r : Option Nat} {lv lv' : List (Nat × Value)} (hd : decode cc pc = .ok (.astore i, 2)) (h : lv_has ls n lv) (hn : i < n) (hl : (i, va_rf r) :: lv.filter (fun q => !(q.1 == i) && !(q.1 + 1 == i && q.2.category == 2)) = lv') (kk : ∀ ls' : Array Slot, lv_has ls' n lv' → W p l e R s m args below meth c H locs 0 0 Q (F0 m (pc + 2) ls' rest)) : W p l e R s m args below meth c H locs 0 0 Q (F0 m pc ls (va_rf r :: rest)) := by
  cases r with
  | none => exact lv_astoreN C.1.1 C.1.2.1 hd h hn hl kk
  | some t => exact lv_astore C.1.1 C.1.2.1 hd h hn hl kk
theorem q_ifnull (C : CX p m c cc nL s args own D tys Wf A) {r : Option Nat} {off : Int} {tgt : Nat} (hd : decode cc pc = .ok (.ifnull off, 3)) (ht : (pc : Int) + off = (tgt : Int)) (kn : r = none → W p l e R s m args below meth c H locs 0 0 Q (F0 m tgt ls rest)) (ks : ∀ t, r = some t → W p l e R s m args below meth c H locs 0 0 Q (F0 m (pc + 3) ls rest)) : W p l e R s m args below meth c H locs 0 0 Q (F0 m pc ls (va_rf r :: rest)) := by
  cases r with
  | none => exact lv_ifnullN C.1.1 C.1.2.1 hd ht (kn rfl)
  | some t => exact lv_ifnull C.1.1 C.1.2.1 hd (ks t rfl)
theorem q_ifnonnull (C : CX p m c cc nL s args own D tys Wf A) {r : Option Nat} {off : Int} {tgt : Nat} (hd : decode cc pc = .ok (.ifnonnull off, 3)) (ht : (pc : Int) + off = (tgt : Int)) (kn : r = none → W p l e R s m args below meth c H locs 0 0 Q (F0 m (pc + 3) ls rest)) (ks : ∀ t, r = some t → W p l e R s m args below meth c H locs 0 0 Q (F0 m tgt ls rest)) : W p l e R s m args below meth c H locs 0 0 Q (F0 m pc ls (va_rf r :: rest)) := by
  cases r with
  | none => exact lv_ifnonnullN C.1.1 C.1.2.1 hd (kn rfl)
  | some t => exact lv_ifnonnull C.1.1 C.1.2.1 hd ht (ks t rfl)
-- calls: the callee's words and room in one bundle
def KV (R : Room) (own Cn : String) (idx : Nat) (y : MethodName) (bytes : ByteArray) (maxL : Nat) (ret : Option FieldType) (rm : Room) (n : Nat) : Prop := GoodIn lw_tg (wsV own idx Cn y (wm y bytes maxL ret)) ∧ (rm.cells = 0 ∧ rm.slots = 0) ∧ (y.cls = Cn ∧ y.cls ≠ "java/lang/invoke/MethodHandle" ∧ y.cls ≠ "java/lang/invoke/VarHandle" ∧ (parseMethodDescriptor y.desc).map (fun d => d.parameters.length) = some n) ∧ (rm.frames + 1 ≤ R.frames ∧ 8 + (maxL + 11) + rm.locals ≤ R.locals)
theorem q_runV (C : CX p m c cc nL s args own D tys Wf A) (hP : va_P D vwCl (Wf σ) H) {o ci idx n maxL : Nat} {fs : List Value} {Cn : String} {q : vw_C} {y : MethodName} {bytes : ByteArray} {ret : Option FieldType} {rm : Room} {As st0 : List Value} {Qc : Array Value → State → Outcome → State → Prop} {free : Addr → Prop}
    (hM : Met l y (wm y bytes maxL ret) rm (va_Pc (.ref a :: As) (BW D tys Wf σ)) Qc 0 0 free) (K : KV R own Cn idx y bytes maxL ret rm n) (he : (Wf σ)[o]? = some (a, .inr (ci, fs))) (hc : vwCl[ci]? = some q) (hq : q.1 = Cn) (hn : As.length = n) (hst : st0 = As.reverse ++ .ref a :: rest) (hcat : (rest.map fun v => v.category).sum ≤ 8) (hls : ls.size = nL) (hd : decode cc pc = .ok (.invokevirtual idx, 3)) :
    va_Run p l e R s m args below meth c H locs 0 0 0 0 (F0 m pc ls st0) rest (Qc (Value.ref a :: As).toArray) free := by
  subst hq
  exact va_runV (As := As) (rest := rest) C.1 hM (cwV n C.1.2.2.2.2 K.1 rfl K.2.1.1 K.2.1.2 K.2.2.1 K.2.2.2) ⟨fb_BW, va_recv C.2.1 hP hc he, fun U hU hW => ⟨rfl, by rw [hU]; exact hP, va_K.moved hW.alike C.2.1, NW.warm hW C.2.2.2⟩⟩ rfl hn hls hst (lv_room hcat) hd ⟨Nat.zero_le _, Nat.zero_le _⟩
def KS (R : Room) (own : String) (idx : Nat) (y : MethodName) (bytes : ByteArray) (maxL : Nat) (ret : Option FieldType) (rm : Room) (n : Nat) : Prop := GoodIn lw_tg (va_wsS own idx y (wm y bytes maxL ret)) ∧ (rm.cells = 0 ∧ rm.slots = 0) ∧ (y.cls ≠ "java/lang/invoke/MethodHandle" ∧ y.cls ≠ "java/lang/invoke/VarHandle" ∧ (parseMethodDescriptor y.desc).map (fun d => d.parameters.length) = some n) ∧ (rm.frames + 1 ≤ R.frames ∧ 8 + (maxL + 11) + rm.locals ≤ R.locals)
theorem q_runS (C : CX p m c cc nL s args own D tys Wf A) (hP : va_P D vwCl (Wf σ) H) {idx n maxL : Nat} {y : MethodName} {bytes : ByteArray} {ret : Option FieldType} {rm : Room} {As st0 : List Value} {Qc : Array Value → State → Outcome → State → Prop} {free : Addr → Prop}
    (hM : Met l y (wm y bytes maxL ret) rm (va_Pc As (BW D tys Wf σ)) Qc 0 0 free) (K : KS R own idx y bytes maxL ret rm n) (hn : As.length = n) (hst : st0 = As.reverse ++ rest) (hcat : (rest.map fun v => v.category).sum ≤ 8) (hls : ls.size = nL) (hd : decode cc pc = .ok (.invokestatic idx, 3)) :
    va_Run p l e R s m args below meth c H locs 0 0 0 0 (F0 m pc ls st0) rest (Qc As.toArray) free :=
  va_runS (As := As) (rest := rest) C.1 hM (va_cwS n C.1.2.2.2.2 K.1 rfl K.2.1.1 K.2.1.2 K.2.2.1 K.2.2.2) ⟨fb_BW, fun U hU hW => ⟨rfl, by rw [hU]; exact hP, va_K.moved hW.alike C.2.1, NW.warm hW C.2.2.2⟩⟩ rfl hn hls hst (lv_room hcat) hd ⟨Nat.zero_le _, Nat.zero_le _⟩
theorem q_calli (C : CX p m c cc nL s args own D tys Wf A) (hS : va_S A s.heap H locs) {st0 : List Value} {r0 : Int32} {σ' : Sg} {ar : Array Value} (hr : va_Run p l e R s m args below meth c H locs 0 0 0 0 (F0 m pc ls st0) rest (QI D tys Wf A r0 σ' ar) A)
    (kk : ∀ (H1 : Heap) (locs1 : List Loc), va_P D vwCl (Wf σ') H1 → va_S A s.heap H1 locs1 → W p l e R s m args below meth c H1 locs1 0 0 Q (F0 m (pc + 3) ls (.int r0 :: rest))) : W p l e R s m args below meth c H locs 0 0 Q (F0 m pc ls st0) :=
  va_calli hr hS (fun _ _ h => h) (fun _ h => h) (fun r u t H1 locs1 ht hvm hw hB hz hk hS => by
    subst hw; subst ht
    exact kk _ _ hB.1 hS)
theorem q_calll (C : CX p m c cc nL s args own D tys Wf A) (hS : va_S A s.heap H locs) {st0 : List Value} {r0 : Int64} {σ' : Sg} {ar : Array Value} (hr : va_Run p l e R s m args below meth c H locs 0 0 0 0 (F0 m pc ls st0) rest (QL D tys Wf A r0 σ' ar) A)
    (kk : ∀ (H1 : Heap) (locs1 : List Loc), va_P D vwCl (Wf σ') H1 → va_S A s.heap H1 locs1 → W p l e R s m args below meth c H1 locs1 0 0 Q (F0 m (pc + 3) ls (.long r0 :: rest))) : W p l e R s m args below meth c H locs 0 0 Q (F0 m pc ls st0) :=
  va_calll hr hS (fun _ _ h => h) (fun _ h => h) (fun r u t H1 locs1 ht hvm hw hB hz hk hS => by
    subst hw; subst ht
    exact kk _ _ hB.1 hS)
theorem q_callr (C : CX p m c cc nL s args own D tys Wf A) (hS : va_S A s.heap H locs) {st0 : List Value} {r0 : Option Nat} {σ' : Sg} {ar : Array Value} (hr : va_Run p l e R s m args below meth c H locs 0 0 0 0 (F0 m pc ls st0) rest (QR D tys Wf A r0 σ' ar) A)
    (kk : ∀ (H1 : Heap) (locs1 : List Loc), va_P D vwCl (Wf σ') H1 → va_S A s.heap H1 locs1 → W p l e R s m args below meth c H1 locs1 0 0 Q (F0 m (pc + 3) ls (va_rf r0 :: rest))) : W p l e R s m args below meth c H locs 0 0 Q (F0 m pc ls st0) :=
  va_callq hr hS (fun _ _ h => h) (fun _ h => h) (fun r u t H1 locs1 ht hvm hw hB hz hk hS => by
    subst hw; subst ht
    exact kk _ _ hB.1 hS)
theorem q_callv (C : CX p m c cc nL s args own D tys Wf A) (hS : va_S A s.heap H locs) {st0 : List Value} {σ' : Sg} {ar : Array Value} (hr : va_Run p l e R s m args below meth c H locs 0 0 0 0 (F0 m pc ls st0) rest (QV D tys Wf A σ' ar) A)
    (kk : ∀ (H1 : Heap) (locs1 : List Loc), va_P D vwCl (Wf σ') H1 → va_S A s.heap H1 locs1 → W p l e R s m args below meth c H1 locs1 0 0 Q (F0 m (pc + 3) ls rest)) : W p l e R s m args below meth c H locs 0 0 Q (F0 m pc ls st0) :=
  va_callv hr hS (fun _ _ h => h) (fun _ h => h) (fun u t H1 locs1 ht hvm hw hB hz hk hS => by
    subst ht
    exact kk _ _ hB.1 hS)
end
end
section
set_option maxRecDepth 100000 in
theorem k_43 : Cond.initialized "DeputyTownLaw" ∈ lw_tg := lw_ofs 43 (by decide +kernel) rfl
set_option maxRecDepth 100000 in
theorem k_44 : Cond.initialized "DeputyTown" ∈ lw_tg := lw_ofs 44 (by decide +kernel) rfl
set_option maxRecDepth 100000 in
theorem k_45 : Cond.initialized "DeputyTown$Town" ∈ lw_tg := lw_ofs 45 (by decide +kernel) rfl
set_option maxRecDepth 100000 in
theorem k_46 : Cond.initialized "DeputyTown$Thing" ∈ lw_tg := lw_ofs 46 (by decide +kernel) rfl
set_option maxRecDepth 100000 in
theorem k_47 : Cond.initialized "DeputyTown$Breaks" ∈ lw_tg := lw_ofs 47 (by decide +kernel) rfl
set_option maxRecDepth 100000 in
theorem k_48 : Cond.initialized "DeputyTown$Readings" ∈ lw_tg := lw_ofs 48 (by decide +kernel) rfl
set_option maxRecDepth 100000 in
theorem k_49 : Cond.initialized "DeputyTown$Service" ∈ lw_tg := lw_ofs 49 (by decide +kernel) rfl
set_option maxRecDepth 100000 in
theorem k_50 : Cond.initialized "DeputyTown$Trials" ∈ lw_tg := lw_ofs 50 (by decide +kernel) rfl
set_option maxRecDepth 100000 in
theorem k_51 : Cond.initialized "DeputyTown$Bodies" ∈ lw_tg := lw_ofs 51 (by decide +kernel) rfl
set_option maxRecDepth 100000 in
theorem k_52 : Cond.initialized "DeputyTown$Sheet" ∈ lw_tg := lw_ofs 52 (by decide +kernel) rfl
set_option maxRecDepth 100000 in
theorem k_53 : Cond.initialized "DeputyTownModel" ∈ lw_tg := lw_ofs 53 (by decide +kernel) rfl
set_option maxRecDepth 100000 in
theorem k_54 : Cond.initialized "DeputyTown$Text" ∈ lw_tg := lw_ofs 54 (by decide +kernel) rfl
set_option maxRecDepth 100000 in
theorem k_55 : Cond.initialized "java/lang/Math" ∈ lw_tg := lw_ofs 55 (by decide +kernel) rfl
set_option maxRecDepth 100000 in
theorem k_56 : Cond.initialized "java/util/Arrays" ∈ lw_tg := lw_ofs 56 (by decide +kernel) rfl
set_option maxRecDepth 100000 in
theorem k_57 : Cond.initialized "java/lang/Integer" ∈ lw_tg := lw_ofs 57 (by decide +kernel) rfl
set_option maxRecDepth 100000 in
theorem k_58 : Cond.initialized "java/lang/System" ∈ lw_tg := lw_ofs 58 (by decide +kernel) rfl
set_option maxRecDepth 100000 in
theorem k_59 : Cond.classLink RL 7 RX9 ∈ lw_tg := lw_ofs 59 (by decide +kernel) rfl
set_option maxRecDepth 100000 in
theorem k_60 : Cond.instantiable RX9 8 ∈ lw_tg := lw_ofs 60 (by decide +kernel) rfl
set_option maxRecDepth 100000 in
theorem k_61 : Cond.methodLink RL 9 yX9_init ∈ lw_tg := lw_ofs 61 (by decide +kernel) rfl
set_option maxRecDepth 100000 in
theorem k_62 : Cond.instanceMethod yX9_init ∈ lw_tg := lw_ofs 62 (by decide +kernel) rfl
set_option maxRecDepth 100000 in
theorem k_63 : Cond.code yX9_init cX9_init 2 none ∈ lw_tg := lw_ofs 63 rfl rfl
set_option maxRecDepth 100000 in
theorem k_64 : Cond.methodLink RX9 3 Lib.objectInit ∈ lw_tg := lw_ofs 64 (by decide +kernel) rfl
set_option maxRecDepth 100000 in
theorem k_65 : Cond.instanceMethod Lib.objectInit ∈ lw_tg := lw_ofs 65 (by decide +kernel) rfl
set_option maxRecDepth 100000 in
theorem k_66 : Cond.code Lib.objectInit ⟨#[0xb1]⟩ 1 none ∈ lw_tg := lw_ofs 66 rfl rfl
set_option maxRecDepth 100000 in
theorem k_67 : Cond.classLink RX9 11 RX4 ∈ lw_tg := lw_ofs 67 (by decide +kernel) rfl
set_option maxRecDepth 100000 in
theorem k_68 : Cond.arrayOver (.object "DeputyTown$Sheet") ∈ lw_nf := lw_ofn 68 (by decide +kernel) rfl
set_option maxRecDepth 100000 in
theorem k_69 : Cond.classLink RX9 17 RX7 ∈ lw_tg := lw_ofs 69 (by decide +kernel) rfl
set_option maxRecDepth 100000 in
theorem k_70 : Cond.instantiable RX7 3 ∈ lw_tg := lw_ofs 70 (by decide +kernel) rfl
set_option maxRecDepth 100000 in
theorem k_71 : Cond.methodLink RX9 19 yX7_init ∈ lw_tg := lw_ofs 71 (by decide +kernel) rfl
set_option maxRecDepth 100000 in
theorem k_72 : Cond.instanceMethod yX7_init ∈ lw_tg := lw_ofs 72 (by decide +kernel) rfl
set_option maxRecDepth 100000 in
theorem k_73 : Cond.code yX7_init cX7_init 2 none ∈ lw_tg := lw_ofs 73 rfl rfl
set_option maxRecDepth 100000 in
theorem k_74 : Cond.methodLink RX7 3 Lib.objectInit ∈ lw_tg := lw_ofs 74 (by decide +kernel) rfl
set_option maxRecDepth 100000 in
theorem k_75 : Cond.classLink RX7 9 RX6 ∈ lw_tg := lw_ofs 75 (by decide +kernel) rfl
set_option maxRecDepth 100000 in
theorem k_76 : Cond.arrayOver (.object "DeputyTown$Thing") ∈ lw_nf := lw_ofn 76 (by decide +kernel) rfl
set_option maxRecDepth 100000 in
theorem k_77 : Cond.instantiable RX6 6 ∈ lw_tg := lw_ofs 77 (by decide +kernel) rfl
set_option maxRecDepth 100000 in
theorem k_78 : Cond.methodLink RX7 24 yX6_init ∈ lw_tg := lw_ofs 78 (by decide +kernel) rfl
set_option maxRecDepth 100000 in
theorem k_79 : Cond.instanceMethod yX6_init ∈ lw_tg := lw_ofs 79 (by decide +kernel) rfl
set_option maxRecDepth 100000 in
theorem k_80 : Cond.code yX6_init cX6_init 2 none ∈ lw_tg := lw_ofs 80 rfl rfl
set_option maxRecDepth 100000 in
theorem k_81 : Cond.methodLink RX6 3 Lib.objectInit ∈ lw_tg := lw_ofs 81 (by decide +kernel) rfl
set_option maxRecDepth 100000 in
theorem k_82 : Cond.fieldLink RX6 27 "DeputyTown$Thing" "number" "I" ∈ lw_tg := lw_ofs 82 (by decide +kernel) rfl
set_option maxRecDepth 100000 in
theorem k_83 : Cond.fieldLinkNest RX3 66 "DeputyTown$Thing" "number" "I" "DeputyTown" ∈ lw_nf := lw_ofn 83 (by decide +kernel) rfl
set_option maxRecDepth 100000 in
theorem k_84 : Cond.fieldLinkNest RX0 44 "DeputyTown$Thing" "number" "I" "DeputyTown" ∈ lw_nf := lw_ofn 84 (by decide +kernel) rfl
set_option maxRecDepth 100000 in
theorem k_85 : Cond.fieldLink RX6 9 "DeputyTown$Thing" "kind" "I" ∈ lw_tg := lw_ofs 85 (by decide +kernel) rfl
set_option maxRecDepth 100000 in
theorem k_86 : Cond.fieldLinkNest RX0 15 "DeputyTown$Thing" "kind" "I" "DeputyTown" ∈ lw_nf := lw_ofn 86 (by decide +kernel) rfl
set_option maxRecDepth 100000 in
theorem k_87 : Cond.fieldLinkNest RX9 106 "DeputyTown$Thing" "kind" "I" "DeputyTown" ∈ lw_nf := lw_ofn 87 (by decide +kernel) rfl
set_option maxRecDepth 100000 in
theorem k_88 : Cond.fieldLink RX6 15 "DeputyTown$Thing" "deputy" "I" ∈ lw_tg := lw_ofs 88 (by decide +kernel) rfl
set_option maxRecDepth 100000 in
theorem k_89 : Cond.fieldLinkNest RX9 111 "DeputyTown$Thing" "deputy" "I" "DeputyTown" ∈ lw_nf := lw_ofn 89 (by decide +kernel) rfl
set_option maxRecDepth 100000 in
theorem k_90 : Cond.fieldLinkNest RX8 83 "DeputyTown$Thing" "deputy" "I" "DeputyTown" ∈ lw_nf := lw_ofn 90 (by decide +kernel) rfl
set_option maxRecDepth 100000 in
theorem k_91 : Cond.fieldLinkNest RX7 55 "DeputyTown$Thing" "deputy" "I" "DeputyTown" ∈ lw_nf := lw_ofn 91 (by decide +kernel) rfl
set_option maxRecDepth 100000 in
theorem k_92 : Cond.fieldLinkNest RX3 61 "DeputyTown$Thing" "deputy" "I" "DeputyTown" ∈ lw_nf := lw_ofn 92 (by decide +kernel) rfl
set_option maxRecDepth 100000 in
theorem k_93 : Cond.fieldLink RX6 18 "DeputyTown$Thing" "fit" "I" ∈ lw_tg := lw_ofs 93 (by decide +kernel) rfl
set_option maxRecDepth 100000 in
theorem k_94 : Cond.fieldLinkNest RX9 114 "DeputyTown$Thing" "fit" "I" "DeputyTown" ∈ lw_nf := lw_ofn 94 (by decide +kernel) rfl
set_option maxRecDepth 100000 in
theorem k_95 : Cond.fieldLinkNest RX0 41 "DeputyTown$Thing" "fit" "I" "DeputyTown" ∈ lw_nf := lw_ofn 95 (by decide +kernel) rfl
set_option maxRecDepth 100000 in
theorem k_96 : Cond.fieldLink RX6 21 "DeputyTown$Thing" "lasts" "I" ∈ lw_tg := lw_ofs 96 (by decide +kernel) rfl
set_option maxRecDepth 100000 in
theorem k_97 : Cond.fieldLinkNest RX9 117 "DeputyTown$Thing" "lasts" "I" "DeputyTown" ∈ lw_nf := lw_ofn 97 (by decide +kernel) rfl
set_option maxRecDepth 100000 in
theorem k_98 : Cond.fieldLinkNest RX3 77 "DeputyTown$Thing" "lasts" "I" "DeputyTown" ∈ lw_nf := lw_ofn 98 (by decide +kernel) rfl
set_option maxRecDepth 100000 in
theorem k_99 : Cond.fieldLink RX6 24 "DeputyTown$Thing" "good" "I" ∈ lw_tg := lw_ofs 99 (by decide +kernel) rfl
set_option maxRecDepth 100000 in
theorem k_100 : Cond.fieldLinkNest RX9 120 "DeputyTown$Thing" "good" "I" "DeputyTown" ∈ lw_nf := lw_ofn 100 (by decide +kernel) rfl
set_option maxRecDepth 100000 in
theorem k_101 : Cond.fieldLinkNest RX3 80 "DeputyTown$Thing" "good" "I" "DeputyTown" ∈ lw_nf := lw_ofn 101 (by decide +kernel) rfl
set_option maxRecDepth 100000 in
theorem k_102 : Cond.laysFinal "DeputyTown$Thing" "DeputyTown$Thing" "number" "I" ∈ lw_tg := lw_ofs 102 (by decide +kernel) rfl
set_option maxRecDepth 100000 in
theorem k_104 : Cond.lays "DeputyTown$Thing" "DeputyTown$Thing" "kind" "I" ∈ lw_tg := lw_ofs 104 (by decide +kernel) rfl
set_option maxRecDepth 100000 in
theorem k_106 : Cond.lays "DeputyTown$Thing" "DeputyTown$Thing" "deputy" "I" ∈ lw_tg := lw_ofs 106 (by decide +kernel) rfl
set_option maxRecDepth 100000 in
theorem k_108 : Cond.lays "DeputyTown$Thing" "DeputyTown$Thing" "fit" "I" ∈ lw_tg := lw_ofs 108 (by decide +kernel) rfl
set_option maxRecDepth 100000 in
theorem k_110 : Cond.lays "DeputyTown$Thing" "DeputyTown$Thing" "lasts" "I" ∈ lw_tg := lw_ofs 110 (by decide +kernel) rfl
set_option maxRecDepth 100000 in
theorem k_112 : Cond.lays "DeputyTown$Thing" "DeputyTown$Thing" "good" "I" ∈ lw_tg := lw_ofs 112 (by decide +kernel) rfl
set_option maxRecDepth 100000 in
theorem k_115 : Cond.fieldLink RX7 11 "DeputyTown$Town" "things" "[LDeputyTown$Thing;" ∈ lw_tg := lw_ofs 115 (by decide +kernel) rfl
set_option maxRecDepth 100000 in
theorem k_116 : Cond.fieldLink RX7 17 "DeputyTown$Town" "count" "I" ∈ lw_tg := lw_ofs 116 (by decide +kernel) rfl
set_option maxRecDepth 100000 in
theorem k_117 : Cond.fieldLinkNest RX9 101 "DeputyTown$Town" "count" "I" "DeputyTown" ∈ lw_nf := lw_ofn 117 (by decide +kernel) rfl
set_option maxRecDepth 100000 in
theorem k_118 : Cond.fieldLinkNest RX8 76 "DeputyTown$Town" "count" "I" "DeputyTown" ∈ lw_nf := lw_ofn 118 (by decide +kernel) rfl
set_option maxRecDepth 100000 in
theorem k_119 : Cond.fieldLinkNest RX3 50 "DeputyTown$Town" "count" "I" "DeputyTown" ∈ lw_nf := lw_ofn 119 (by decide +kernel) rfl
set_option maxRecDepth 100000 in
theorem k_120 : Cond.fieldLink RX7 21 "DeputyTown$Town" "law" "I" ∈ lw_tg := lw_ofs 120 (by decide +kernel) rfl
set_option maxRecDepth 100000 in
theorem k_121 : Cond.fieldLinkNest RX3 29 "DeputyTown$Town" "law" "I" "DeputyTown" ∈ lw_nf := lw_ofn 121 (by decide +kernel) rfl
set_option maxRecDepth 100000 in
theorem k_122 : Cond.fieldLinkNest RX8 53 "DeputyTown$Town" "law" "I" "DeputyTown" ∈ lw_nf := lw_ofn 122 (by decide +kernel) rfl
set_option maxRecDepth 100000 in
theorem k_123 : Cond.fieldLinkNest RX9 123 "DeputyTown$Town" "law" "I" "DeputyTown" ∈ lw_nf := lw_ofn 123 (by decide +kernel) rfl
set_option maxRecDepth 100000 in
theorem k_124 : Cond.laysFinal "DeputyTown$Town" "DeputyTown$Town" "things" "[LDeputyTown$Thing;" ∈ lw_tg := lw_ofs 124 (by decide +kernel) rfl
set_option maxRecDepth 100000 in
theorem k_126 : Cond.lays "DeputyTown$Town" "DeputyTown$Town" "count" "I" ∈ lw_tg := lw_ofs 126 (by decide +kernel) rfl
set_option maxRecDepth 100000 in
theorem k_128 : Cond.lays "DeputyTown$Town" "DeputyTown$Town" "law" "I" ∈ lw_tg := lw_ofs 128 (by decide +kernel) rfl
set_option maxRecDepth 100000 in
theorem k_131 : Cond.classLink RX9 24 RX1 ∈ lw_tg := lw_ofs 131 (by decide +kernel) rfl
set_option maxRecDepth 100000 in
theorem k_132 : Cond.instantiable RX1 4 ∈ lw_tg := lw_ofs 132 (by decide +kernel) rfl
set_option maxRecDepth 100000 in
theorem k_133 : Cond.methodLinkNest RX9 26 yX1_init "DeputyTown" ∈ lw_nf := lw_ofn 133 (by decide +kernel) rfl
set_option maxRecDepth 100000 in
theorem k_134 : Cond.instanceMethod yX1_init ∈ lw_tg := lw_ofs 134 (by decide +kernel) rfl
set_option maxRecDepth 100000 in
theorem k_135 : Cond.code yX1_init cX1_init 1 none ∈ lw_tg := lw_ofs 135 rfl rfl
set_option maxRecDepth 100000 in
theorem k_136 : Cond.methodLink RX1 3 Lib.objectInit ∈ lw_tg := lw_ofs 136 (by decide +kernel) rfl
set_option maxRecDepth 100000 in
theorem k_137 : Cond.fieldLink RX1 9 "DeputyTown$Breaks" "who" "[I" ∈ lw_tg := lw_ofs 137 (by decide +kernel) rfl
set_option maxRecDepth 100000 in
theorem k_138 : Cond.fieldLink RX1 15 "DeputyTown$Breaks" "from" "[I" ∈ lw_tg := lw_ofs 138 (by decide +kernel) rfl
set_option maxRecDepth 100000 in
theorem k_139 : Cond.fieldLink RX1 18 "DeputyTown$Breaks" "to" "[I" ∈ lw_tg := lw_ofs 139 (by decide +kernel) rfl
set_option maxRecDepth 100000 in
theorem k_140 : Cond.fieldLink RX1 21 "DeputyTown$Breaks" "count" "I" ∈ lw_tg := lw_ofs 140 (by decide +kernel) rfl
set_option maxRecDepth 100000 in
theorem k_141 : Cond.fieldLinkNest RX9 97 "DeputyTown$Breaks" "count" "I" "DeputyTown" ∈ lw_nf := lw_ofn 141 (by decide +kernel) rfl
set_option maxRecDepth 100000 in
theorem k_142 : Cond.laysFinal "DeputyTown$Breaks" "DeputyTown$Breaks" "who" "[I" ∈ lw_tg := lw_ofs 142 (by decide +kernel) rfl
set_option maxRecDepth 100000 in
theorem k_144 : Cond.laysFinal "DeputyTown$Breaks" "DeputyTown$Breaks" "from" "[I" ∈ lw_tg := lw_ofs 144 (by decide +kernel) rfl
set_option maxRecDepth 100000 in
theorem k_146 : Cond.laysFinal "DeputyTown$Breaks" "DeputyTown$Breaks" "to" "[I" ∈ lw_tg := lw_ofs 146 (by decide +kernel) rfl
set_option maxRecDepth 100000 in
theorem k_148 : Cond.lays "DeputyTown$Breaks" "DeputyTown$Breaks" "count" "I" ∈ lw_tg := lw_ofs 148 (by decide +kernel) rfl
set_option maxRecDepth 100000 in
theorem k_151 : Cond.arrayClass .int ∈ lw_tg := lw_ofs 151 (by decide +kernel) rfl
set_option maxRecDepth 100000 in
theorem k_152 : Cond.classLink RX9 31 RX2 ∈ lw_tg := lw_ofs 152 (by decide +kernel) rfl
set_option maxRecDepth 100000 in
theorem k_153 : Cond.instantiable RX2 3 ∈ lw_tg := lw_ofs 153 (by decide +kernel) rfl
set_option maxRecDepth 100000 in
theorem k_154 : Cond.methodLinkNest RX9 33 yX2_init "DeputyTown" ∈ lw_nf := lw_ofn 154 (by decide +kernel) rfl
set_option maxRecDepth 100000 in
theorem k_155 : Cond.instanceMethod yX2_init ∈ lw_tg := lw_ofs 155 (by decide +kernel) rfl
set_option maxRecDepth 100000 in
theorem k_156 : Cond.code yX2_init cX2_init 1 none ∈ lw_tg := lw_ofs 156 rfl rfl
set_option maxRecDepth 100000 in
theorem k_157 : Cond.methodLink RX2 3 Lib.objectInit ∈ lw_tg := lw_ofs 157 (by decide +kernel) rfl
set_option maxRecDepth 100000 in
theorem k_158 : Cond.fieldLink RX2 9 "DeputyTown$Readings" "uses" "[I" ∈ lw_tg := lw_ofs 158 (by decide +kernel) rfl
set_option maxRecDepth 100000 in
theorem k_159 : Cond.fieldLink RX2 15 "DeputyTown$Readings" "servers" "[I" ∈ lw_tg := lw_ofs 159 (by decide +kernel) rfl
set_option maxRecDepth 100000 in
theorem k_160 : Cond.fieldLink RX2 18 "DeputyTown$Readings" "count" "I" ∈ lw_tg := lw_ofs 160 (by decide +kernel) rfl
set_option maxRecDepth 100000 in
theorem k_161 : Cond.fieldLinkNest RX9 100 "DeputyTown$Readings" "count" "I" "DeputyTown" ∈ lw_nf := lw_ofn 161 (by decide +kernel) rfl
set_option maxRecDepth 100000 in
theorem k_162 : Cond.laysFinal "DeputyTown$Readings" "DeputyTown$Readings" "uses" "[I" ∈ lw_tg := lw_ofs 162 (by decide +kernel) rfl
set_option maxRecDepth 100000 in
theorem k_164 : Cond.laysFinal "DeputyTown$Readings" "DeputyTown$Readings" "servers" "[I" ∈ lw_tg := lw_ofs 164 (by decide +kernel) rfl
set_option maxRecDepth 100000 in
theorem k_166 : Cond.lays "DeputyTown$Readings" "DeputyTown$Readings" "count" "I" ∈ lw_tg := lw_ofs 166 (by decide +kernel) rfl
set_option maxRecDepth 100000 in
theorem k_169 : Cond.classLink RX9 38 RX3 ∈ lw_tg := lw_ofs 169 (by decide +kernel) rfl
set_option maxRecDepth 100000 in
theorem k_170 : Cond.instantiable RX3 4 ∈ lw_tg := lw_ofs 170 (by decide +kernel) rfl
set_option maxRecDepth 100000 in
theorem k_171 : Cond.methodLink RX9 40 yX3_init ∈ lw_tg := lw_ofs 171 (by decide +kernel) rfl
set_option maxRecDepth 100000 in
theorem k_172 : Cond.instanceMethod yX3_init ∈ lw_tg := lw_ofs 172 (by decide +kernel) rfl
set_option maxRecDepth 100000 in
theorem k_173 : Cond.code yX3_init cX3_init 2 none ∈ lw_tg := lw_ofs 173 rfl rfl
set_option maxRecDepth 100000 in
theorem k_174 : Cond.methodLink RX3 3 Lib.objectInit ∈ lw_tg := lw_ofs 174 (by decide +kernel) rfl
set_option maxRecDepth 100000 in
theorem k_175 : Cond.fieldLink RX3 22 "DeputyTown$Service" "folk" "LDeputyTown$Town;" ∈ lw_tg := lw_ofs 175 (by decide +kernel) rfl
set_option maxRecDepth 100000 in
theorem k_176 : Cond.fieldLink RX3 9 "DeputyTown$Service" "servers" "[I" ∈ lw_tg := lw_ofs 176 (by decide +kernel) rfl
set_option maxRecDepth 100000 in
theorem k_177 : Cond.fieldLink RX3 15 "DeputyTown$Service" "streaks" "[I" ∈ lw_tg := lw_ofs 177 (by decide +kernel) rfl
set_option maxRecDepth 100000 in
theorem k_178 : Cond.fieldLink RX3 18 "DeputyTown$Service" "standing" "I" ∈ lw_tg := lw_ofs 178 (by decide +kernel) rfl
set_option maxRecDepth 100000 in
theorem k_179 : Cond.laysFinal "DeputyTown$Service" "DeputyTown$Service" "folk" "LDeputyTown$Town;" ∈ lw_tg := lw_ofs 179 (by decide +kernel) rfl
set_option maxRecDepth 100000 in
theorem k_181 : Cond.laysFinal "DeputyTown$Service" "DeputyTown$Service" "servers" "[I" ∈ lw_tg := lw_ofs 181 (by decide +kernel) rfl
set_option maxRecDepth 100000 in
theorem k_183 : Cond.laysFinal "DeputyTown$Service" "DeputyTown$Service" "streaks" "[I" ∈ lw_tg := lw_ofs 183 (by decide +kernel) rfl
set_option maxRecDepth 100000 in
theorem k_185 : Cond.lays "DeputyTown$Service" "DeputyTown$Service" "standing" "I" ∈ lw_tg := lw_ofs 185 (by decide +kernel) rfl
set_option maxRecDepth 100000 in
theorem k_188 : Cond.classLink RX9 47 RX8 ∈ lw_tg := lw_ofs 188 (by decide +kernel) rfl
set_option maxRecDepth 100000 in
theorem k_189 : Cond.instantiable RX8 9 ∈ lw_tg := lw_ofs 189 (by decide +kernel) rfl
set_option maxRecDepth 100000 in
theorem k_190 : Cond.methodLink RX9 49 yX8_init ∈ lw_tg := lw_ofs 190 (by decide +kernel) rfl
set_option maxRecDepth 100000 in
theorem k_191 : Cond.instanceMethod yX8_init ∈ lw_tg := lw_ofs 191 (by decide +kernel) rfl
set_option maxRecDepth 100000 in
theorem k_192 : Cond.code yX8_init cX8_init 3 none ∈ lw_tg := lw_ofs 192 rfl rfl
set_option maxRecDepth 100000 in
theorem k_193 : Cond.methodLink RX8 3 Lib.objectInit ∈ lw_tg := lw_ofs 193 (by decide +kernel) rfl
set_option maxRecDepth 100000 in
theorem k_194 : Cond.fieldLink RX8 33 "DeputyTown$Trials" "folk" "LDeputyTown$Town;" ∈ lw_tg := lw_ofs 194 (by decide +kernel) rfl
set_option maxRecDepth 100000 in
theorem k_195 : Cond.fieldLink RX8 37 "DeputyTown$Trials" "service" "LDeputyTown$Service;" ∈ lw_tg := lw_ofs 195 (by decide +kernel) rfl
set_option maxRecDepth 100000 in
theorem k_196 : Cond.fieldLink RX8 9 "DeputyTown$Trials" "frailSet" "I" ∈ lw_tg := lw_ofs 196 (by decide +kernel) rfl
set_option maxRecDepth 100000 in
theorem k_197 : Cond.fieldLinkNest RX9 168 "DeputyTown$Trials" "frailSet" "I" "DeputyTown" ∈ lw_nf := lw_ofn 197 (by decide +kernel) rfl
set_option maxRecDepth 100000 in
theorem k_198 : Cond.fieldLink RX8 15 "DeputyTown$Trials" "frailUndone" "I" ∈ lw_tg := lw_ofs 198 (by decide +kernel) rfl
set_option maxRecDepth 100000 in
theorem k_199 : Cond.fieldLinkNest RX9 171 "DeputyTown$Trials" "frailUndone" "I" "DeputyTown" ∈ lw_nf := lw_ofn 199 (by decide +kernel) rfl
set_option maxRecDepth 100000 in
theorem k_200 : Cond.fieldLink RX8 18 "DeputyTown$Trials" "mendChange" "I" ∈ lw_tg := lw_ofs 200 (by decide +kernel) rfl
set_option maxRecDepth 100000 in
theorem k_201 : Cond.fieldLinkNest RX9 180 "DeputyTown$Trials" "mendChange" "I" "DeputyTown" ∈ lw_nf := lw_ofn 201 (by decide +kernel) rfl
set_option maxRecDepth 100000 in
theorem k_202 : Cond.fieldLink RX8 21 "DeputyTown$Trials" "mendUndone" "I" ∈ lw_tg := lw_ofs 202 (by decide +kernel) rfl
set_option maxRecDepth 100000 in
theorem k_203 : Cond.fieldLinkNest RX9 183 "DeputyTown$Trials" "mendUndone" "I" "DeputyTown" ∈ lw_nf := lw_ofn 203 (by decide +kernel) rfl
set_option maxRecDepth 100000 in
theorem k_204 : Cond.fieldLink RX8 24 "DeputyTown$Trials" "failedCount" "I" ∈ lw_tg := lw_ofs 204 (by decide +kernel) rfl
set_option maxRecDepth 100000 in
theorem k_205 : Cond.fieldLinkNest RX9 203 "DeputyTown$Trials" "failedCount" "I" "DeputyTown" ∈ lw_nf := lw_ofn 205 (by decide +kernel) rfl
set_option maxRecDepth 100000 in
theorem k_206 : Cond.fieldLink RX8 27 "DeputyTown$Trials" "failedFewest" "I" ∈ lw_tg := lw_ofs 206 (by decide +kernel) rfl
set_option maxRecDepth 100000 in
theorem k_207 : Cond.fieldLinkNest RX9 206 "DeputyTown$Trials" "failedFewest" "I" "DeputyTown" ∈ lw_nf := lw_ofn 207 (by decide +kernel) rfl
set_option maxRecDepth 100000 in
theorem k_208 : Cond.fieldLink RX8 30 "DeputyTown$Trials" "failedCommon" "I" ∈ lw_tg := lw_ofs 208 (by decide +kernel) rfl
set_option maxRecDepth 100000 in
theorem k_209 : Cond.fieldLinkNest RX9 209 "DeputyTown$Trials" "failedCommon" "I" "DeputyTown" ∈ lw_nf := lw_ofn 209 (by decide +kernel) rfl
set_option maxRecDepth 100000 in
theorem k_210 : Cond.laysFinal "DeputyTown$Trials" "DeputyTown$Trials" "folk" "LDeputyTown$Town;" ∈ lw_tg := lw_ofs 210 (by decide +kernel) rfl
set_option maxRecDepth 100000 in
theorem k_212 : Cond.laysFinal "DeputyTown$Trials" "DeputyTown$Trials" "service" "LDeputyTown$Service;" ∈ lw_tg := lw_ofs 212 (by decide +kernel) rfl
set_option maxRecDepth 100000 in
theorem k_214 : Cond.lays "DeputyTown$Trials" "DeputyTown$Trials" "frailSet" "I" ∈ lw_tg := lw_ofs 214 (by decide +kernel) rfl
set_option maxRecDepth 100000 in
theorem k_216 : Cond.lays "DeputyTown$Trials" "DeputyTown$Trials" "frailUndone" "I" ∈ lw_tg := lw_ofs 216 (by decide +kernel) rfl
set_option maxRecDepth 100000 in
theorem k_218 : Cond.lays "DeputyTown$Trials" "DeputyTown$Trials" "mendChange" "I" ∈ lw_tg := lw_ofs 218 (by decide +kernel) rfl
set_option maxRecDepth 100000 in
theorem k_220 : Cond.lays "DeputyTown$Trials" "DeputyTown$Trials" "mendUndone" "I" ∈ lw_tg := lw_ofs 220 (by decide +kernel) rfl
set_option maxRecDepth 100000 in
theorem k_222 : Cond.lays "DeputyTown$Trials" "DeputyTown$Trials" "failedCount" "I" ∈ lw_tg := lw_ofs 222 (by decide +kernel) rfl
set_option maxRecDepth 100000 in
theorem k_224 : Cond.lays "DeputyTown$Trials" "DeputyTown$Trials" "failedFewest" "I" ∈ lw_tg := lw_ofs 224 (by decide +kernel) rfl
set_option maxRecDepth 100000 in
theorem k_226 : Cond.lays "DeputyTown$Trials" "DeputyTown$Trials" "failedCommon" "I" ∈ lw_tg := lw_ofs 226 (by decide +kernel) rfl
set_option maxRecDepth 100000 in
theorem k_229 : Cond.classLink RX9 56 RX0 ∈ lw_tg := lw_ofs 229 (by decide +kernel) rfl
set_option maxRecDepth 100000 in
theorem k_230 : Cond.instantiable RX0 1 ∈ lw_tg := lw_ofs 230 (by decide +kernel) rfl
set_option maxRecDepth 100000 in
theorem k_231 : Cond.methodLinkNest RX9 58 yX0_init "DeputyTown" ∈ lw_nf := lw_ofn 231 (by decide +kernel) rfl
set_option maxRecDepth 100000 in
theorem k_232 : Cond.instanceMethod yX0_init ∈ lw_tg := lw_ofs 232 (by decide +kernel) rfl
set_option maxRecDepth 100000 in
theorem k_233 : Cond.code yX0_init cX0_init 1 none ∈ lw_tg := lw_ofs 233 rfl rfl
set_option maxRecDepth 100000 in
theorem k_234 : Cond.methodLink RX0 3 Lib.objectInit ∈ lw_tg := lw_ofs 234 (by decide +kernel) rfl
set_option maxRecDepth 100000 in
theorem k_235 : Cond.fieldLink RX0 9 "DeputyTown$Bodies" "left" "I" ∈ lw_tg := lw_ofs 235 (by decide +kernel) rfl
set_option maxRecDepth 100000 in
theorem k_236 : Cond.fieldLinkNest RX9 260 "DeputyTown$Bodies" "left" "I" "DeputyTown" ∈ lw_nf := lw_ofn 236 (by decide +kernel) rfl
set_option maxRecDepth 100000 in
theorem k_237 : Cond.lays "DeputyTown$Bodies" "DeputyTown$Bodies" "left" "I" ∈ lw_tg := lw_ofs 237 (by decide +kernel) rfl
set_option maxRecDepth 100000 in
theorem k_240 : Cond.instantiable RX4 4 ∈ lw_tg := lw_ofs 240 (by decide +kernel) rfl
set_option maxRecDepth 100000 in
theorem k_241 : Cond.methodLinkNest RX9 67 yX4_init "DeputyTown" ∈ lw_nf := lw_ofn 241 (by decide +kernel) rfl
set_option maxRecDepth 100000 in
theorem k_242 : Cond.instanceMethod yX4_init ∈ lw_tg := lw_ofs 242 (by decide +kernel) rfl
set_option maxRecDepth 100000 in
theorem k_243 : Cond.code yX4_init cX4_init 1 none ∈ lw_tg := lw_ofs 243 rfl rfl
set_option maxRecDepth 100000 in
theorem k_244 : Cond.methodLink RX4 3 Lib.objectInit ∈ lw_tg := lw_ofs 244 (by decide +kernel) rfl
set_option maxRecDepth 100000 in
theorem k_245 : Cond.fieldLink RX4 9 "DeputyTown$Sheet" "cells" "[I" ∈ lw_tg := lw_ofs 245 (by decide +kernel) rfl
set_option maxRecDepth 100000 in
theorem k_246 : Cond.fieldLinkNest RX9 243 "DeputyTown$Sheet" "cells" "[I" "DeputyTown" ∈ lw_nf := lw_ofn 246 (by decide +kernel) rfl
set_option maxRecDepth 100000 in
theorem k_247 : Cond.fieldLink RX4 15 "DeputyTown$Sheet" "has" "Z" ∈ lw_tg := lw_ofs 247 (by decide +kernel) rfl
set_option maxRecDepth 100000 in
theorem k_248 : Cond.fieldLinkNest RX9 227 "DeputyTown$Sheet" "has" "Z" "DeputyTown" ∈ lw_nf := lw_ofn 248 (by decide +kernel) rfl
set_option maxRecDepth 100000 in
theorem k_249 : Cond.fieldLink RX4 19 "DeputyTown$Sheet" "lane" "I" ∈ lw_tg := lw_ofs 249 (by decide +kernel) rfl
set_option maxRecDepth 100000 in
theorem k_250 : Cond.fieldLinkNest RX9 231 "DeputyTown$Sheet" "lane" "I" "DeputyTown" ∈ lw_nf := lw_ofn 250 (by decide +kernel) rfl
set_option maxRecDepth 100000 in
theorem k_251 : Cond.fieldLink RX4 23 "DeputyTown$Sheet" "length" "I" ∈ lw_tg := lw_ofs 251 (by decide +kernel) rfl
set_option maxRecDepth 100000 in
theorem k_252 : Cond.laysFinal "DeputyTown$Sheet" "DeputyTown$Sheet" "cells" "[I" ∈ lw_tg := lw_ofs 252 (by decide +kernel) rfl
set_option maxRecDepth 100000 in
theorem k_254 : Cond.lays "DeputyTown$Sheet" "DeputyTown$Sheet" "has" "Z" ∈ lw_tg := lw_ofs 254 (by decide +kernel) rfl
set_option maxRecDepth 100000 in
theorem k_256 : Cond.lays "DeputyTown$Sheet" "DeputyTown$Sheet" "lane" "I" ∈ lw_tg := lw_ofs 256 (by decide +kernel) rfl
set_option maxRecDepth 100000 in
theorem k_258 : Cond.lays "DeputyTown$Sheet" "DeputyTown$Sheet" "length" "I" ∈ lw_tg := lw_ofs 258 (by decide +kernel) rfl
set_option maxRecDepth 100000 in
theorem k_261 : Cond.fieldLink RX9 13 "DeputyTown" "sheets" "[LDeputyTown$Sheet;" ∈ lw_tg := lw_ofs 261 (by decide +kernel) rfl
set_option maxRecDepth 100000 in
theorem k_262 : Cond.fieldLink RX9 20 "DeputyTown" "folk" "LDeputyTown$Town;" ∈ lw_tg := lw_ofs 262 (by decide +kernel) rfl
set_option maxRecDepth 100000 in
theorem k_263 : Cond.fieldLink RX9 27 "DeputyTown" "breaks" "LDeputyTown$Breaks;" ∈ lw_tg := lw_ofs 263 (by decide +kernel) rfl
set_option maxRecDepth 100000 in
theorem k_264 : Cond.fieldLink RX9 34 "DeputyTown" "readings" "LDeputyTown$Readings;" ∈ lw_tg := lw_ofs 264 (by decide +kernel) rfl
set_option maxRecDepth 100000 in
theorem k_265 : Cond.fieldLink RX9 43 "DeputyTown" "service" "LDeputyTown$Service;" ∈ lw_tg := lw_ofs 265 (by decide +kernel) rfl
set_option maxRecDepth 100000 in
theorem k_266 : Cond.fieldLink RX9 52 "DeputyTown" "trials" "LDeputyTown$Trials;" ∈ lw_tg := lw_ofs 266 (by decide +kernel) rfl
set_option maxRecDepth 100000 in
theorem k_267 : Cond.fieldLink RX9 59 "DeputyTown" "bodies" "LDeputyTown$Bodies;" ∈ lw_tg := lw_ofs 267 (by decide +kernel) rfl
set_option maxRecDepth 100000 in
theorem k_268 : Cond.fieldLink RX9 63 "DeputyTown" "latestFault" "I" ∈ lw_tg := lw_ofs 268 (by decide +kernel) rfl
set_option maxRecDepth 100000 in
theorem k_269 : Cond.laysFinal "DeputyTown" "DeputyTown" "sheets" "[LDeputyTown$Sheet;" ∈ lw_tg := lw_ofs 269 (by decide +kernel) rfl
set_option maxRecDepth 100000 in
theorem k_271 : Cond.laysFinal "DeputyTown" "DeputyTown" "folk" "LDeputyTown$Town;" ∈ lw_tg := lw_ofs 271 (by decide +kernel) rfl
set_option maxRecDepth 100000 in
theorem k_273 : Cond.laysFinal "DeputyTown" "DeputyTown" "breaks" "LDeputyTown$Breaks;" ∈ lw_tg := lw_ofs 273 (by decide +kernel) rfl
set_option maxRecDepth 100000 in
theorem k_275 : Cond.laysFinal "DeputyTown" "DeputyTown" "readings" "LDeputyTown$Readings;" ∈ lw_tg := lw_ofs 275 (by decide +kernel) rfl
set_option maxRecDepth 100000 in
theorem k_277 : Cond.laysFinal "DeputyTown" "DeputyTown" "service" "LDeputyTown$Service;" ∈ lw_tg := lw_ofs 277 (by decide +kernel) rfl
set_option maxRecDepth 100000 in
theorem k_279 : Cond.laysFinal "DeputyTown" "DeputyTown" "trials" "LDeputyTown$Trials;" ∈ lw_tg := lw_ofs 279 (by decide +kernel) rfl
set_option maxRecDepth 100000 in
theorem k_281 : Cond.laysFinal "DeputyTown" "DeputyTown" "bodies" "LDeputyTown$Bodies;" ∈ lw_tg := lw_ofs 281 (by decide +kernel) rfl
set_option maxRecDepth 100000 in
theorem k_283 : Cond.lays "DeputyTown" "DeputyTown" "latestFault" "I" ∈ lw_tg := lw_ofs 283 (by decide +kernel) rfl
set_option maxRecDepth 100000 in
theorem k_286 : Cond.methodLink RL 13 yX9_town ∈ lw_tg := lw_ofs 286 (by decide +kernel) rfl
set_option maxRecDepth 100000 in
theorem k_287 : Cond.instanceMethod yX9_town ∈ lw_tg := lw_ofs 287 (by decide +kernel) rfl
set_option maxRecDepth 100000 in
theorem k_288 : Cond.selects RX9 yX9_town yX9_town ∈ lw_tg := lw_ofs 288 (by decide +kernel) rfl
set_option maxRecDepth 100000 in
theorem k_289 : Cond.code yX9_town cX9_town 8 (some .int) ∈ lw_tg := lw_ofs 289 rfl rfl
set_option maxRecDepth 100000 in
theorem k_290 : Cond.methodLink RX9 68 yX9_sheetAt ∈ lw_tg := lw_ofs 290 (by decide +kernel) rfl
set_option maxRecDepth 100000 in
theorem k_292 : Cond.instanceMethod yX9_sheetAt ∈ lw_tg := lw_ofs 292 (by decide +kernel) rfl
set_option maxRecDepth 100000 in
theorem k_293 : Cond.code yX9_sheetAt cX9_sheetAt 2 (some (.object "DeputyTown$Sheet")) ∈ lw_tg := lw_ofs 293 rfl rfl
set_option maxRecDepth 100000 in
theorem k_294 : Cond.methodLink RX9 72 yX9_isBeyond ∈ lw_tg := lw_ofs 294 (by decide +kernel) rfl
set_option maxRecDepth 100000 in
theorem k_295 : Cond.static yX9_isBeyond ∈ lw_tg := lw_ofs 295 (by decide +kernel) rfl
set_option maxRecDepth 100000 in
theorem k_296 : Cond.code yX9_isBeyond cX9_isBeyond 2 (some .boolean) ∈ lw_tg := lw_ofs 296 rfl rfl
set_option maxRecDepth 100000 in
theorem k_297 : Cond.methodLink RX9 76 yX4_rangeFault ∈ lw_tg := lw_ofs 297 (by decide +kernel) rfl
set_option maxRecDepth 100000 in
theorem k_298 : Cond.instanceMethod yX4_rangeFault ∈ lw_tg := lw_ofs 298 (by decide +kernel) rfl
set_option maxRecDepth 100000 in
theorem k_299 : Cond.selects RX4 yX4_rangeFault yX4_rangeFault ∈ lw_tg := lw_ofs 299 (by decide +kernel) rfl
set_option maxRecDepth 100000 in
theorem k_300 : Cond.code yX4_rangeFault cX4_rangeFault 4 (some .int) ∈ lw_tg := lw_ofs 300 rfl rfl
set_option maxRecDepth 100000 in
theorem k_301 : Cond.methodLink RX4 38 yX4_isOver ∈ lw_tg := lw_ofs 301 (by decide +kernel) rfl
set_option maxRecDepth 100000 in
theorem k_302 : Cond.instanceMethod yX4_isOver ∈ lw_tg := lw_ofs 302 (by decide +kernel) rfl
set_option maxRecDepth 100000 in
theorem k_303 : Cond.selects RX4 yX4_isOver yX4_isOver ∈ lw_tg := lw_ofs 303 (by decide +kernel) rfl
set_option maxRecDepth 100000 in
theorem k_304 : Cond.code yX4_isOver cX4_isOver 3 (some .boolean) ∈ lw_tg := lw_ofs 304 rfl rfl
set_option maxRecDepth 100000 in
theorem k_305 : Cond.methodLink RX9 80 yX9_cameTo ∈ lw_tg := lw_ofs 305 (by decide +kernel) rfl
set_option maxRecDepth 100000 in
theorem k_307 : Cond.instanceMethod yX9_cameTo ∈ lw_tg := lw_ofs 307 (by decide +kernel) rfl
set_option maxRecDepth 100000 in
theorem k_308 : Cond.code yX9_cameTo cX9_cameTo 2 (some .int) ∈ lw_tg := lw_ofs 308 rfl rfl
set_option maxRecDepth 100000 in
theorem k_309 : Cond.methodLink RX9 84 yX5_firstFault ∈ lw_tg := lw_ofs 309 (by decide +kernel) rfl
set_option maxRecDepth 100000 in
theorem k_310 : Cond.static yX5_firstFault ∈ lw_tg := lw_ofs 310 (by decide +kernel) rfl
set_option maxRecDepth 100000 in
theorem k_311 : Cond.code yX5_firstFault cX5_firstFault 4 (some .int) ∈ lw_tg := lw_ofs 311 rfl rfl
set_option maxRecDepth 100000 in
theorem k_312 : Cond.methodLink RX5 11 yX4_cellAt ∈ lw_tg := lw_ofs 312 (by decide +kernel) rfl
set_option maxRecDepth 100000 in
theorem k_313 : Cond.instanceMethod yX4_cellAt ∈ lw_tg := lw_ofs 313 (by decide +kernel) rfl
set_option maxRecDepth 100000 in
theorem k_314 : Cond.selects RX4 yX4_cellAt yX4_cellAt ∈ lw_tg := lw_ofs 314 (by decide +kernel) rfl
set_option maxRecDepth 100000 in
theorem k_315 : Cond.code yX4_cellAt cX4_cellAt 2 (some .int) ∈ lw_tg := lw_ofs 315 rfl rfl
set_option maxRecDepth 100000 in
theorem k_316 : Cond.methodLink RX5 17 yX5_goesOn ∈ lw_tg := lw_ofs 316 (by decide +kernel) rfl
set_option maxRecDepth 100000 in
theorem k_317 : Cond.static yX5_goesOn ∈ lw_tg := lw_ofs 317 (by decide +kernel) rfl
set_option maxRecDepth 100000 in
theorem k_318 : Cond.code yX5_goesOn cX5_goesOn 3 (some .boolean) ∈ lw_tg := lw_ofs 318 rfl rfl
set_option maxRecDepth 100000 in
theorem k_319 : Cond.methodLink RX5 32 yX5_kindBy ∈ lw_tg := lw_ofs 319 (by decide +kernel) rfl
set_option maxRecDepth 100000 in
theorem k_320 : Cond.static yX5_kindBy ∈ lw_tg := lw_ofs 320 (by decide +kernel) rfl
set_option maxRecDepth 100000 in
theorem k_321 : Cond.code yX5_kindBy cX5_kindBy 1 (some .int) ∈ lw_tg := lw_ofs 321 rfl rfl
set_option maxRecDepth 100000 in
theorem k_322 : Cond.methodLink RX5 21 yX5_thingsIn ∈ lw_tg := lw_ofs 322 (by decide +kernel) rfl
set_option maxRecDepth 100000 in
theorem k_323 : Cond.static yX5_thingsIn ∈ lw_tg := lw_ofs 323 (by decide +kernel) rfl
set_option maxRecDepth 100000 in
theorem k_324 : Cond.code yX5_thingsIn cX5_thingsIn 1 (some .int) ∈ lw_tg := lw_ofs 324 rfl rfl
set_option maxRecDepth 100000 in
theorem k_325 : Cond.methodLink RX5 24 yX5_placeOf ∈ lw_tg := lw_ofs 325 (by decide +kernel) rfl
set_option maxRecDepth 100000 in
theorem k_326 : Cond.static yX5_placeOf ∈ lw_tg := lw_ofs 326 (by decide +kernel) rfl
set_option maxRecDepth 100000 in
theorem k_327 : Cond.code yX5_placeOf cX5_placeOf 2 (some .int) ∈ lw_tg := lw_ofs 327 rfl rfl
set_option maxRecDepth 100000 in
theorem k_328 : Cond.methodLink RX5 28 yX5_firstStranger ∈ lw_tg := lw_ofs 328 (by decide +kernel) rfl
set_option maxRecDepth 100000 in
theorem k_329 : Cond.static yX5_firstStranger ∈ lw_tg := lw_ofs 329 (by decide +kernel) rfl
set_option maxRecDepth 100000 in
theorem k_330 : Cond.code yX5_firstStranger cX5_firstStranger 5 (some .int) ∈ lw_tg := lw_ofs 330 rfl rfl
set_option maxRecDepth 100000 in
theorem k_331 : Cond.methodLink RX9 90 yX5_thingsIn ∈ lw_tg := lw_ofs 331 (by decide +kernel) rfl
set_option maxRecDepth 100000 in
theorem k_332 : Cond.methodLink RX9 93 yX7_settle ∈ lw_tg := lw_ofs 332 (by decide +kernel) rfl
set_option maxRecDepth 100000 in
theorem k_333 : Cond.instanceMethod yX7_settle ∈ lw_tg := lw_ofs 333 (by decide +kernel) rfl
set_option maxRecDepth 100000 in
theorem k_334 : Cond.selects RX7 yX7_settle yX7_settle ∈ lw_tg := lw_ofs 334 (by decide +kernel) rfl
set_option maxRecDepth 100000 in
theorem k_335 : Cond.code yX7_settle cX7_settle 10 none ∈ lw_tg := lw_ofs 335 rfl rfl
set_option maxRecDepth 100000 in
theorem k_336 : Cond.methodLink RX7 27 Lib.Math.min.name ∈ lw_tg := lw_ofs 336 (by decide +kernel) rfl
set_option maxRecDepth 100000 in
theorem k_337 : Cond.static Lib.Math.min.name ∈ lw_tg := lw_ofs 337 (by decide +kernel) rfl
set_option maxRecDepth 100000 in
theorem k_338 : Cond.code Lib.Math.min.name Lib.Math.min.code 2 (some .int) ∈ lw_tg := lw_ofs 338 rfl rfl
set_option maxRecDepth 100000 in
theorem k_339 : Cond.methodLink RX7 33 yX7_thingAt ∈ lw_tg := lw_ofs 339 (by decide +kernel) rfl
set_option maxRecDepth 100000 in
theorem k_340 : Cond.instanceMethod yX7_thingAt ∈ lw_tg := lw_ofs 340 (by decide +kernel) rfl
set_option maxRecDepth 100000 in
theorem k_341 : Cond.selects RX7 yX7_thingAt yX7_thingAt ∈ lw_tg := lw_ofs 341 (by decide +kernel) rfl
set_option maxRecDepth 100000 in
theorem k_342 : Cond.code yX7_thingAt cX7_thingAt 2 (some (.object "DeputyTown$Thing")) ∈ lw_tg := lw_ofs 342 rfl rfl
set_option maxRecDepth 100000 in
theorem k_343 : Cond.methodLink RX7 39 yX5_placeOf ∈ lw_tg := lw_ofs 343 (by decide +kernel) rfl
set_option maxRecDepth 100000 in
theorem k_344 : Cond.methodLink RX7 42 yX4_cellAt ∈ lw_tg := lw_ofs 344 (by decide +kernel) rfl
set_option maxRecDepth 100000 in
theorem k_345 : Cond.methodLink RX7 48 yX5_kindBy ∈ lw_tg := lw_ofs 345 (by decide +kernel) rfl
set_option maxRecDepth 100000 in
theorem k_346 : Cond.methodLink RX7 51 yX6_become ∈ lw_tg := lw_ofs 346 (by decide +kernel) rfl
set_option maxRecDepth 100000 in
theorem k_347 : Cond.instanceMethod yX6_become ∈ lw_tg := lw_ofs 347 (by decide +kernel) rfl
set_option maxRecDepth 100000 in
theorem k_348 : Cond.selects RX6 yX6_become yX6_become ∈ lw_tg := lw_ofs 348 (by decide +kernel) rfl
set_option maxRecDepth 100000 in
theorem k_349 : Cond.code yX6_become cX6_become 5 none ∈ lw_tg := lw_ofs 349 rfl rfl
set_option maxRecDepth 100000 in
theorem k_350 : Cond.methodLink RX6 30 yX6_goodOf ∈ lw_tg := lw_ofs 350 (by decide +kernel) rfl
set_option maxRecDepth 100000 in
theorem k_351 : Cond.static yX6_goodOf ∈ lw_tg := lw_ofs 351 (by decide +kernel) rfl
set_option maxRecDepth 100000 in
theorem k_352 : Cond.code yX6_goodOf cX6_goodOf 2 (some .int) ∈ lw_tg := lw_ofs 352 rfl rfl
set_option maxRecDepth 100000 in
theorem k_353 : Cond.methodLink RL 18 yX9_ofThing ∈ lw_tg := lw_ofs 353 (by decide +kernel) rfl
set_option maxRecDepth 100000 in
theorem k_354 : Cond.instanceMethod yX9_ofThing ∈ lw_tg := lw_ofs 354 (by decide +kernel) rfl
set_option maxRecDepth 100000 in
theorem k_355 : Cond.selects RX9 yX9_ofThing yX9_ofThing ∈ lw_tg := lw_ofs 355 (by decide +kernel) rfl
set_option maxRecDepth 100000 in
theorem k_356 : Cond.code yX9_ofThing cX9_ofThing 4 (some .int) ∈ lw_tg := lw_ofs 356 rfl rfl
set_option maxRecDepth 100000 in
theorem k_357 : Cond.methodLink RX9 102 yX7_thingAt ∈ lw_tg := lw_ofs 357 (by decide +kernel) rfl
set_option maxRecDepth 100000 in
theorem k_358 : Cond.methodLink RL 23 yX9_law ∈ lw_tg := lw_ofs 358 (by decide +kernel) rfl
set_option maxRecDepth 100000 in
theorem k_359 : Cond.instanceMethod yX9_law ∈ lw_tg := lw_ofs 359 (by decide +kernel) rfl
set_option maxRecDepth 100000 in
theorem k_360 : Cond.selects RX9 yX9_law yX9_law ∈ lw_tg := lw_ofs 360 (by decide +kernel) rfl
set_option maxRecDepth 100000 in
theorem k_361 : Cond.code yX9_law cX9_law 3 (some .int) ∈ lw_tg := lw_ofs 361 rfl rfl
set_option maxRecDepth 100000 in
theorem k_362 : Cond.methodLink RL 28 yX9_depute ∈ lw_tg := lw_ofs 362 (by decide +kernel) rfl
set_option maxRecDepth 100000 in
theorem k_363 : Cond.instanceMethod yX9_depute ∈ lw_tg := lw_ofs 363 (by decide +kernel) rfl
set_option maxRecDepth 100000 in
theorem k_364 : Cond.selects RX9 yX9_depute yX9_depute ∈ lw_tg := lw_ofs 364 (by decide +kernel) rfl
set_option maxRecDepth 100000 in
theorem k_365 : Cond.code yX9_depute cX9_depute 5 (some .int) ∈ lw_tg := lw_ofs 365 rfl rfl
set_option maxRecDepth 100000 in
theorem k_366 : Cond.methodLink RL 32 yX9_smash ∈ lw_tg := lw_ofs 366 (by decide +kernel) rfl
set_option maxRecDepth 100000 in
theorem k_367 : Cond.instanceMethod yX9_smash ∈ lw_tg := lw_ofs 367 (by decide +kernel) rfl
set_option maxRecDepth 100000 in
theorem k_368 : Cond.selects RX9 yX9_smash yX9_smash ∈ lw_tg := lw_ofs 368 (by decide +kernel) rfl
set_option maxRecDepth 100000 in
theorem k_369 : Cond.code yX9_smash cX9_smash 4 (some .int) ∈ lw_tg := lw_ofs 369 rfl rfl
set_option maxRecDepth 100000 in
theorem k_370 : Cond.methodLink RX9 126 yX1_add ∈ lw_tg := lw_ofs 370 (by decide +kernel) rfl
set_option maxRecDepth 100000 in
theorem k_371 : Cond.instanceMethod yX1_add ∈ lw_tg := lw_ofs 371 (by decide +kernel) rfl
set_option maxRecDepth 100000 in
theorem k_372 : Cond.selects RX1 yX1_add yX1_add ∈ lw_tg := lw_ofs 372 (by decide +kernel) rfl
set_option maxRecDepth 100000 in
theorem k_373 : Cond.code yX1_add cX1_add 4 (some .int) ∈ lw_tg := lw_ofs 373 rfl rfl
set_option maxRecDepth 100000 in
theorem k_374 : Cond.methodLink RL 37 yX9_glue ∈ lw_tg := lw_ofs 374 (by decide +kernel) rfl
set_option maxRecDepth 100000 in
theorem k_375 : Cond.instanceMethod yX9_glue ∈ lw_tg := lw_ofs 375 (by decide +kernel) rfl
set_option maxRecDepth 100000 in
theorem k_376 : Cond.selects RX9 yX9_glue yX9_glue ∈ lw_tg := lw_ofs 376 (by decide +kernel) rfl
set_option maxRecDepth 100000 in
theorem k_377 : Cond.code yX9_glue cX9_glue 2 (some .int) ∈ lw_tg := lw_ofs 377 rfl rfl
set_option maxRecDepth 100000 in
theorem k_378 : Cond.methodLink RL 41 yX9_by ∈ lw_tg := lw_ofs 378 (by decide +kernel) rfl
set_option maxRecDepth 100000 in
theorem k_379 : Cond.instanceMethod yX9_by ∈ lw_tg := lw_ofs 379 (by decide +kernel) rfl
set_option maxRecDepth 100000 in
theorem k_380 : Cond.selects RX9 yX9_by yX9_by ∈ lw_tg := lw_ofs 380 (by decide +kernel) rfl
set_option maxRecDepth 100000 in
theorem k_381 : Cond.code yX9_by cX9_by 3 (some .int) ∈ lw_tg := lw_ofs 381 rfl rfl
set_option maxRecDepth 100000 in
theorem k_382 : Cond.methodLink RX9 129 yX3_workUpTo ∈ lw_tg := lw_ofs 382 (by decide +kernel) rfl
set_option maxRecDepth 100000 in
theorem k_383 : Cond.instanceMethod yX3_workUpTo ∈ lw_tg := lw_ofs 383 (by decide +kernel) rfl
set_option maxRecDepth 100000 in
theorem k_384 : Cond.selects RX3 yX3_workUpTo yX3_workUpTo ∈ lw_tg := lw_ofs 384 (by decide +kernel) rfl
set_option maxRecDepth 100000 in
theorem k_385 : Cond.code yX3_workUpTo cX3_workUpTo 4 none ∈ lw_tg := lw_ofs 385 rfl rfl
set_option maxRecDepth 100000 in
theorem k_386 : Cond.methodLink RX3 26 yX3_forget ∈ lw_tg := lw_ofs 386 (by decide +kernel) rfl
set_option maxRecDepth 100000 in
theorem k_387 : Cond.instanceMethod yX3_forget ∈ lw_tg := lw_ofs 387 (by decide +kernel) rfl
set_option maxRecDepth 100000 in
theorem k_388 : Cond.selects RX3 yX3_forget yX3_forget ∈ lw_tg := lw_ofs 388 (by decide +kernel) rfl
set_option maxRecDepth 100000 in
theorem k_389 : Cond.code yX3_forget cX3_forget 1 none ∈ lw_tg := lw_ofs 389 rfl rfl
set_option maxRecDepth 100000 in
theorem k_390 : Cond.methodLink RX3 44 yJ7_fill_53178 ∈ lw_tg := lw_ofs 390 (by decide +kernel) rfl
set_option maxRecDepth 100000 in
theorem k_391 : Cond.static yJ7_fill_53178 ∈ lw_tg := lw_ofs 391 (by decide +kernel) rfl
set_option maxRecDepth 100000 in
theorem k_392 : Cond.code yJ7_fill_53178 cJ7_fill_53178 4 none ∈ lw_tg := lw_ofs 392 rfl rfl
set_option maxRecDepth 100000 in
theorem k_393 : Cond.methodLink RX3 34 yX1_brokenIn ∈ lw_tg := lw_ofs 393 (by decide +kernel) rfl
set_option maxRecDepth 100000 in
theorem k_394 : Cond.instanceMethod yX1_brokenIn ∈ lw_tg := lw_ofs 394 (by decide +kernel) rfl
set_option maxRecDepth 100000 in
theorem k_395 : Cond.selects RX1 yX1_brokenIn yX1_brokenIn ∈ lw_tg := lw_ofs 395 (by decide +kernel) rfl
set_option maxRecDepth 100000 in
theorem k_396 : Cond.code yX1_brokenIn cX1_brokenIn 4 (some .int) ∈ lw_tg := lw_ofs 396 rfl rfl
set_option maxRecDepth 100000 in
theorem k_397 : Cond.methodLink RX3 40 yX3_workHour ∈ lw_tg := lw_ofs 397 (by decide +kernel) rfl
set_option maxRecDepth 100000 in
theorem k_398 : Cond.instanceMethod yX3_workHour ∈ lw_tg := lw_ofs 398 (by decide +kernel) rfl
set_option maxRecDepth 100000 in
theorem k_399 : Cond.selects RX3 yX3_workHour yX3_workHour ∈ lw_tg := lw_ofs 399 (by decide +kernel) rfl
set_option maxRecDepth 100000 in
theorem k_400 : Cond.code yX3_workHour cX3_workHour 6 none ∈ lw_tg := lw_ofs 400 rfl rfl
set_option maxRecDepth 100000 in
theorem k_401 : Cond.methodLink RX3 53 yX3_standInFor ∈ lw_tg := lw_ofs 401 (by decide +kernel) rfl
set_option maxRecDepth 100000 in
theorem k_403 : Cond.instanceMethod yX3_standInFor ∈ lw_tg := lw_ofs 403 (by decide +kernel) rfl
set_option maxRecDepth 100000 in
theorem k_404 : Cond.code yX3_standInFor cX3_standInFor 9 (some .int) ∈ lw_tg := lw_ofs 404 rfl rfl
set_option maxRecDepth 100000 in
theorem k_405 : Cond.methodLink RX3 57 yX7_thingAt ∈ lw_tg := lw_ofs 405 (by decide +kernel) rfl
set_option maxRecDepth 100000 in
theorem k_406 : Cond.methodLink RX3 69 yX3_may ∈ lw_tg := lw_ofs 406 (by decide +kernel) rfl
set_option maxRecDepth 100000 in
theorem k_408 : Cond.instanceMethod yX3_may ∈ lw_tg := lw_ofs 408 (by decide +kernel) rfl
set_option maxRecDepth 100000 in
theorem k_409 : Cond.code yX3_may cX3_may 5 (some .boolean) ∈ lw_tg := lw_ofs 409 rfl rfl
set_option maxRecDepth 100000 in
theorem k_410 : Cond.methodLink RX3 73 yX3_isPreferred ∈ lw_tg := lw_ofs 410 (by decide +kernel) rfl
set_option maxRecDepth 100000 in
theorem k_412 : Cond.instanceMethod yX3_isPreferred ∈ lw_tg := lw_ofs 412 (by decide +kernel) rfl
set_option maxRecDepth 100000 in
theorem k_413 : Cond.code yX3_isPreferred cX3_isPreferred 4 (some .boolean) ∈ lw_tg := lw_ofs 413 rfl rfl
set_option maxRecDepth 100000 in
theorem k_414 : Cond.methodLink RX9 133 yX3_serverOf ∈ lw_tg := lw_ofs 414 (by decide +kernel) rfl
set_option maxRecDepth 100000 in
theorem k_415 : Cond.instanceMethod yX3_serverOf ∈ lw_tg := lw_ofs 415 (by decide +kernel) rfl
set_option maxRecDepth 100000 in
theorem k_416 : Cond.selects RX3 yX3_serverOf yX3_serverOf ∈ lw_tg := lw_ofs 416 (by decide +kernel) rfl
set_option maxRecDepth 100000 in
theorem k_417 : Cond.code yX3_serverOf cX3_serverOf 2 (some .int) ∈ lw_tg := lw_ofs 417 rfl rfl
set_option maxRecDepth 100000 in
theorem k_418 : Cond.methodLink RL 45 yX9_undone ∈ lw_tg := lw_ofs 418 (by decide +kernel) rfl
set_option maxRecDepth 100000 in
theorem k_419 : Cond.instanceMethod yX9_undone ∈ lw_tg := lw_ofs 419 (by decide +kernel) rfl
set_option maxRecDepth 100000 in
theorem k_420 : Cond.selects RX9 yX9_undone yX9_undone ∈ lw_tg := lw_ofs 420 (by decide +kernel) rfl
set_option maxRecDepth 100000 in
theorem k_421 : Cond.code yX9_undone cX9_undone 3 (some .int) ∈ lw_tg := lw_ofs 421 rfl rfl
set_option maxRecDepth 100000 in
theorem k_422 : Cond.methodLink RX9 136 yX9_refusalOf ∈ lw_tg := lw_ofs 422 (by decide +kernel) rfl
set_option maxRecDepth 100000 in
theorem k_424 : Cond.instanceMethod yX9_refusalOf ∈ lw_tg := lw_ofs 424 (by decide +kernel) rfl
set_option maxRecDepth 100000 in
theorem k_425 : Cond.code yX9_refusalOf cX9_refusalOf 3 (some .int) ∈ lw_tg := lw_ofs 425 rfl rfl
set_option maxRecDepth 100000 in
theorem k_426 : Cond.methodLink RX9 140 yX3_undoneUses ∈ lw_tg := lw_ofs 426 (by decide +kernel) rfl
set_option maxRecDepth 100000 in
theorem k_427 : Cond.instanceMethod yX3_undoneUses ∈ lw_tg := lw_ofs 427 (by decide +kernel) rfl
set_option maxRecDepth 100000 in
theorem k_428 : Cond.selects RX3 yX3_undoneUses yX3_undoneUses ∈ lw_tg := lw_ofs 428 (by decide +kernel) rfl
set_option maxRecDepth 100000 in
theorem k_429 : Cond.code yX3_undoneUses cX3_undoneUses 3 (some .int) ∈ lw_tg := lw_ofs 429 rfl rfl
set_option maxRecDepth 100000 in
theorem k_430 : Cond.methodLink RL 49 yX9_serves ∈ lw_tg := lw_ofs 430 (by decide +kernel) rfl
set_option maxRecDepth 100000 in
theorem k_431 : Cond.instanceMethod yX9_serves ∈ lw_tg := lw_ofs 431 (by decide +kernel) rfl
set_option maxRecDepth 100000 in
theorem k_432 : Cond.selects RX9 yX9_serves yX9_serves ∈ lw_tg := lw_ofs 432 (by decide +kernel) rfl
set_option maxRecDepth 100000 in
theorem k_433 : Cond.code yX9_serves cX9_serves 3 (some .int) ∈ lw_tg := lw_ofs 433 rfl rfl
set_option maxRecDepth 100000 in
theorem k_434 : Cond.methodLink RX9 144 yX3_points ∈ lw_tg := lw_ofs 434 (by decide +kernel) rfl
set_option maxRecDepth 100000 in
theorem k_435 : Cond.instanceMethod yX3_points ∈ lw_tg := lw_ofs 435 (by decide +kernel) rfl
set_option maxRecDepth 100000 in
theorem k_436 : Cond.selects RX3 yX3_points yX3_points ∈ lw_tg := lw_ofs 436 (by decide +kernel) rfl
set_option maxRecDepth 100000 in
theorem k_437 : Cond.code yX3_points cX3_points 4 (some .int) ∈ lw_tg := lw_ofs 437 rfl rfl
set_option maxRecDepth 100000 in
theorem k_438 : Cond.methodLink RX3 83 Lib.Math.min.name ∈ lw_tg := lw_ofs 438 (by decide +kernel) rfl
set_option maxRecDepth 100000 in
theorem k_439 : Cond.methodLink RL 53 yX9_ring ∈ lw_tg := lw_ofs 439 (by decide +kernel) rfl
set_option maxRecDepth 100000 in
theorem k_440 : Cond.instanceMethod yX9_ring ∈ lw_tg := lw_ofs 440 (by decide +kernel) rfl
set_option maxRecDepth 100000 in
theorem k_441 : Cond.selects RX9 yX9_ring yX9_ring ∈ lw_tg := lw_ofs 441 (by decide +kernel) rfl
set_option maxRecDepth 100000 in
theorem k_442 : Cond.code yX9_ring cX9_ring 3 (some .int) ∈ lw_tg := lw_ofs 442 rfl rfl
set_option maxRecDepth 100000 in
theorem k_443 : Cond.methodLink RX9 147 yX7_comesToItself ∈ lw_tg := lw_ofs 443 (by decide +kernel) rfl
set_option maxRecDepth 100000 in
theorem k_444 : Cond.instanceMethod yX7_comesToItself ∈ lw_tg := lw_ofs 444 (by decide +kernel) rfl
set_option maxRecDepth 100000 in
theorem k_445 : Cond.selects RX7 yX7_comesToItself yX7_comesToItself ∈ lw_tg := lw_ofs 445 (by decide +kernel) rfl
set_option maxRecDepth 100000 in
theorem k_446 : Cond.code yX7_comesToItself cX7_comesToItself 4 (some .boolean) ∈ lw_tg := lw_ofs 446 rfl rfl
set_option maxRecDepth 100000 in
theorem k_447 : Cond.methodLink RL 58 yX9_first ∈ lw_tg := lw_ofs 447 (by decide +kernel) rfl
set_option maxRecDepth 100000 in
theorem k_448 : Cond.instanceMethod yX9_first ∈ lw_tg := lw_ofs 448 (by decide +kernel) rfl
set_option maxRecDepth 100000 in
theorem k_449 : Cond.selects RX9 yX9_first yX9_first ∈ lw_tg := lw_ofs 449 (by decide +kernel) rfl
set_option maxRecDepth 100000 in
theorem k_450 : Cond.code yX9_first cX9_first 5 (some .int) ∈ lw_tg := lw_ofs 450 rfl rfl
set_option maxRecDepth 100000 in
theorem k_451 : Cond.methodLink RX9 151 yX3_forget ∈ lw_tg := lw_ofs 451 (by decide +kernel) rfl
set_option maxRecDepth 100000 in
theorem k_452 : Cond.methodLink RX9 154 yX1_brokenIn ∈ lw_tg := lw_ofs 452 (by decide +kernel) rfl
set_option maxRecDepth 100000 in
theorem k_453 : Cond.methodLink RX9 157 yX3_workHour ∈ lw_tg := lw_ofs 453 (by decide +kernel) rfl
set_option maxRecDepth 100000 in
theorem k_454 : Cond.methodLink RX9 161 yX9_leastOf ∈ lw_tg := lw_ofs 454 (by decide +kernel) rfl
set_option maxRecDepth 100000 in
theorem k_455 : Cond.static yX9_leastOf ∈ lw_tg := lw_ofs 455 (by decide +kernel) rfl
set_option maxRecDepth 100000 in
theorem k_456 : Cond.code yX9_leastOf cX9_leastOf 2 (some .int) ∈ lw_tg := lw_ofs 456 rfl rfl
set_option maxRecDepth 100000 in
theorem k_457 : Cond.methodLink RL 62 yX9_frail ∈ lw_tg := lw_ofs 457 (by decide +kernel) rfl
set_option maxRecDepth 100000 in
theorem k_458 : Cond.instanceMethod yX9_frail ∈ lw_tg := lw_ofs 458 (by decide +kernel) rfl
set_option maxRecDepth 100000 in
theorem k_459 : Cond.selects RX9 yX9_frail yX9_frail ∈ lw_tg := lw_ofs 459 (by decide +kernel) rfl
set_option maxRecDepth 100000 in
theorem k_460 : Cond.code yX9_frail cX9_frail 3 (some .int) ∈ lw_tg := lw_ofs 460 rfl rfl
set_option maxRecDepth 100000 in
theorem k_461 : Cond.methodLink RX9 164 yX8_seekFrail ∈ lw_tg := lw_ofs 461 (by decide +kernel) rfl
set_option maxRecDepth 100000 in
theorem k_462 : Cond.instanceMethod yX8_seekFrail ∈ lw_tg := lw_ofs 462 (by decide +kernel) rfl
set_option maxRecDepth 100000 in
theorem k_463 : Cond.selects RX8 yX8_seekFrail yX8_seekFrail ∈ lw_tg := lw_ofs 463 (by decide +kernel) rfl
set_option maxRecDepth 100000 in
theorem k_464 : Cond.code yX8_seekFrail cX8_seekFrail 4 none ∈ lw_tg := lw_ofs 464 rfl rfl
set_option maxRecDepth 100000 in
theorem k_465 : Cond.methodLink RX8 41 yX7_sets ∈ lw_tg := lw_ofs 465 (by decide +kernel) rfl
set_option maxRecDepth 100000 in
theorem k_466 : Cond.instanceMethod yX7_sets ∈ lw_tg := lw_ofs 466 (by decide +kernel) rfl
set_option maxRecDepth 100000 in
theorem k_467 : Cond.selects RX7 yX7_sets yX7_sets ∈ lw_tg := lw_ofs 467 (by decide +kernel) rfl
set_option maxRecDepth 100000 in
theorem k_468 : Cond.code yX7_sets cX7_sets 1 (some .int) ∈ lw_tg := lw_ofs 468 rfl rfl
set_option maxRecDepth 100000 in
theorem k_469 : Cond.methodLink RX8 47 yJ6_bitCount_0f7a4 ∈ lw_tg := lw_ofs 469 (by decide +kernel) rfl
set_option maxRecDepth 100000 in
theorem k_470 : Cond.static yJ6_bitCount_0f7a4 ∈ lw_tg := lw_ofs 470 (by decide +kernel) rfl
set_option maxRecDepth 100000 in
theorem k_471 : Cond.code yJ6_bitCount_0f7a4 cJ6_bitCount_0f7a4 1 (some .int) ∈ lw_tg := lw_ofs 471 rfl rfl
set_option maxRecDepth 100000 in
theorem k_472 : Cond.constant RJ6 265 (1431655765) ∈ lw_tg := lw_ofs 472 (by decide +kernel) rfl
set_option maxRecDepth 100000 in
theorem k_473 : Cond.constant RJ6 266 (858993459) ∈ lw_tg := lw_ofs 473 (by decide +kernel) rfl
set_option maxRecDepth 100000 in
theorem k_474 : Cond.constant RJ6 267 (252645135) ∈ lw_tg := lw_ofs 474 (by decide +kernel) rfl
set_option maxRecDepth 100000 in
theorem k_475 : Cond.methodLink RX8 56 yX3_workHourZero ∈ lw_tg := lw_ofs 475 (by decide +kernel) rfl
set_option maxRecDepth 100000 in
theorem k_476 : Cond.instanceMethod yX3_workHourZero ∈ lw_tg := lw_ofs 476 (by decide +kernel) rfl
set_option maxRecDepth 100000 in
theorem k_477 : Cond.selects RX3 yX3_workHourZero yX3_workHourZero ∈ lw_tg := lw_ofs 477 (by decide +kernel) rfl
set_option maxRecDepth 100000 in
theorem k_478 : Cond.code yX3_workHourZero cX3_workHourZero 3 none ∈ lw_tg := lw_ofs 478 rfl rfl
set_option maxRecDepth 100000 in
theorem k_479 : Cond.methodLink RX8 62 yX3_undoneUses ∈ lw_tg := lw_ofs 479 (by decide +kernel) rfl
set_option maxRecDepth 100000 in
theorem k_480 : Cond.methodLink RL 66 yX9_plot ∈ lw_tg := lw_ofs 480 (by decide +kernel) rfl
set_option maxRecDepth 100000 in
theorem k_481 : Cond.instanceMethod yX9_plot ∈ lw_tg := lw_ofs 481 (by decide +kernel) rfl
set_option maxRecDepth 100000 in
theorem k_482 : Cond.selects RX9 yX9_plot yX9_plot ∈ lw_tg := lw_ofs 482 (by decide +kernel) rfl
set_option maxRecDepth 100000 in
theorem k_483 : Cond.code yX9_plot cX9_plot 2 (some .int) ∈ lw_tg := lw_ofs 483 rfl rfl
set_option maxRecDepth 100000 in
theorem k_484 : Cond.methodLink RX9 174 yX8_plotOn ∈ lw_tg := lw_ofs 484 (by decide +kernel) rfl
set_option maxRecDepth 100000 in
theorem k_485 : Cond.instanceMethod yX8_plotOn ∈ lw_tg := lw_ofs 485 (by decide +kernel) rfl
set_option maxRecDepth 100000 in
theorem k_486 : Cond.selects RX8 yX8_plotOn yX8_plotOn ∈ lw_tg := lw_ofs 486 (by decide +kernel) rfl
set_option maxRecDepth 100000 in
theorem k_487 : Cond.code yX8_plotOn cX8_plotOn 4 (some .int) ∈ lw_tg := lw_ofs 487 rfl rfl
set_option maxRecDepth 100000 in
theorem k_488 : Cond.methodLink RX8 65 yX3_serverOf ∈ lw_tg := lw_ofs 488 (by decide +kernel) rfl
set_option maxRecDepth 100000 in
theorem k_489 : Cond.methodLink RX8 68 yX8_isFewer ∈ lw_tg := lw_ofs 489 (by decide +kernel) rfl
set_option maxRecDepth 100000 in
theorem k_490 : Cond.static yX8_isFewer ∈ lw_tg := lw_ofs 490 (by decide +kernel) rfl
set_option maxRecDepth 100000 in
theorem k_491 : Cond.code yX8_isFewer cX8_isFewer 2 (some .boolean) ∈ lw_tg := lw_ofs 491 rfl rfl
set_option maxRecDepth 100000 in
theorem k_492 : Cond.methodLink RL 70 yX9_mend ∈ lw_tg := lw_ofs 492 (by decide +kernel) rfl
set_option maxRecDepth 100000 in
theorem k_493 : Cond.instanceMethod yX9_mend ∈ lw_tg := lw_ofs 493 (by decide +kernel) rfl
set_option maxRecDepth 100000 in
theorem k_494 : Cond.selects RX9 yX9_mend yX9_mend ∈ lw_tg := lw_ofs 494 (by decide +kernel) rfl
set_option maxRecDepth 100000 in
theorem k_495 : Cond.code yX9_mend cX9_mend 3 (some .int) ∈ lw_tg := lw_ofs 495 rfl rfl
set_option maxRecDepth 100000 in
theorem k_496 : Cond.methodLink RX9 177 yX8_seekMend ∈ lw_tg := lw_ofs 496 (by decide +kernel) rfl
set_option maxRecDepth 100000 in
theorem k_497 : Cond.instanceMethod yX8_seekMend ∈ lw_tg := lw_ofs 497 (by decide +kernel) rfl
set_option maxRecDepth 100000 in
theorem k_498 : Cond.selects RX8 yX8_seekMend yX8_seekMend ∈ lw_tg := lw_ofs 498 (by decide +kernel) rfl
set_option maxRecDepth 100000 in
theorem k_499 : Cond.code yX8_seekMend cX8_seekMend 5 none ∈ lw_tg := lw_ofs 499 rfl rfl
set_option maxRecDepth 100000 in
theorem k_500 : Cond.methodLink RX8 72 yX8_seekFrail ∈ lw_tg := lw_ofs 500 (by decide +kernel) rfl
set_option maxRecDepth 100000 in
theorem k_501 : Cond.methodLink RX8 79 yX7_thingAt ∈ lw_tg := lw_ofs 501 (by decide +kernel) rfl
set_option maxRecDepth 100000 in
theorem k_502 : Cond.methodLink RX8 88 yX8_keepMend ∈ lw_tg := lw_ofs 502 (by decide +kernel) rfl
set_option maxRecDepth 100000 in
theorem k_504 : Cond.instanceMethod yX8_keepMend ∈ lw_tg := lw_ofs 504 (by decide +kernel) rfl
set_option maxRecDepth 100000 in
theorem k_505 : Cond.code yX8_keepMend cX8_keepMend 2 none ∈ lw_tg := lw_ofs 505 rfl rfl
set_option maxRecDepth 100000 in
theorem k_506 : Cond.methodLink RL 74 yX9_wave ∈ lw_tg := lw_ofs 506 (by decide +kernel) rfl
set_option maxRecDepth 100000 in
theorem k_507 : Cond.instanceMethod yX9_wave ∈ lw_tg := lw_ofs 507 (by decide +kernel) rfl
set_option maxRecDepth 100000 in
theorem k_508 : Cond.selects RX9 yX9_wave yX9_wave ∈ lw_tg := lw_ofs 508 (by decide +kernel) rfl
set_option maxRecDepth 100000 in
theorem k_509 : Cond.code yX9_wave cX9_wave 4 (some .int) ∈ lw_tg := lw_ofs 509 rfl rfl
set_option maxRecDepth 100000 in
theorem k_510 : Cond.methodLink RX9 186 yX3_workHourZero ∈ lw_tg := lw_ofs 510 (by decide +kernel) rfl
set_option maxRecDepth 100000 in
theorem k_511 : Cond.methodLink RL 78 yX9_roster ∈ lw_tg := lw_ofs 511 (by decide +kernel) rfl
set_option maxRecDepth 100000 in
theorem k_512 : Cond.instanceMethod yX9_roster ∈ lw_tg := lw_ofs 512 (by decide +kernel) rfl
set_option maxRecDepth 100000 in
theorem k_513 : Cond.selects RX9 yX9_roster yX9_roster ∈ lw_tg := lw_ofs 513 (by decide +kernel) rfl
set_option maxRecDepth 100000 in
theorem k_514 : Cond.code yX9_roster cX9_roster 7 (some .int) ∈ lw_tg := lw_ofs 514 rfl rfl
set_option maxRecDepth 100000 in
theorem k_515 : Cond.methodLink RX9 189 yX9_namesThings ∈ lw_tg := lw_ofs 515 (by decide +kernel) rfl
set_option maxRecDepth 100000 in
theorem k_517 : Cond.instanceMethod yX9_namesThings ∈ lw_tg := lw_ofs 517 (by decide +kernel) rfl
set_option maxRecDepth 100000 in
theorem k_518 : Cond.code yX9_namesThings cX9_namesThings 5 (some .boolean) ∈ lw_tg := lw_ofs 518 rfl rfl
set_option maxRecDepth 100000 in
theorem k_519 : Cond.methodLink RX9 237 yX4_cellAt ∈ lw_tg := lw_ofs 519 (by decide +kernel) rfl
set_option maxRecDepth 100000 in
theorem k_520 : Cond.methodLink RX9 193 yX9_firstUnlike ∈ lw_tg := lw_ofs 520 (by decide +kernel) rfl
set_option maxRecDepth 100000 in
theorem k_522 : Cond.instanceMethod yX9_firstUnlike ∈ lw_tg := lw_ofs 522 (by decide +kernel) rfl
set_option maxRecDepth 100000 in
theorem k_523 : Cond.code yX9_firstUnlike cX9_firstUnlike 4 (some .int) ∈ lw_tg := lw_ofs 523 rfl rfl
set_option maxRecDepth 100000 in
theorem k_524 : Cond.methodLink RL 82 yX9_reading ∈ lw_tg := lw_ofs 524 (by decide +kernel) rfl
set_option maxRecDepth 100000 in
theorem k_525 : Cond.instanceMethod yX9_reading ∈ lw_tg := lw_ofs 525 (by decide +kernel) rfl
set_option maxRecDepth 100000 in
theorem k_526 : Cond.selects RX9 yX9_reading yX9_reading ∈ lw_tg := lw_ofs 526 (by decide +kernel) rfl
set_option maxRecDepth 100000 in
theorem k_527 : Cond.code yX9_reading cX9_reading 3 (some .int) ∈ lw_tg := lw_ofs 527 rfl rfl
set_option maxRecDepth 100000 in
theorem k_528 : Cond.methodLink RX9 197 yX2_add ∈ lw_tg := lw_ofs 528 (by decide +kernel) rfl
set_option maxRecDepth 100000 in
theorem k_529 : Cond.instanceMethod yX2_add ∈ lw_tg := lw_ofs 529 (by decide +kernel) rfl
set_option maxRecDepth 100000 in
theorem k_530 : Cond.selects RX2 yX2_add yX2_add ∈ lw_tg := lw_ofs 530 (by decide +kernel) rfl
set_option maxRecDepth 100000 in
theorem k_531 : Cond.code yX2_add cX2_add 3 (some .int) ∈ lw_tg := lw_ofs 531 rfl rfl
set_option maxRecDepth 100000 in
theorem k_532 : Cond.methodLink RL 86 yX9_back ∈ lw_tg := lw_ofs 532 (by decide +kernel) rfl
set_option maxRecDepth 100000 in
theorem k_533 : Cond.instanceMethod yX9_back ∈ lw_tg := lw_ofs 533 (by decide +kernel) rfl
set_option maxRecDepth 100000 in
theorem k_534 : Cond.selects RX9 yX9_back yX9_back ∈ lw_tg := lw_ofs 534 (by decide +kernel) rfl
set_option maxRecDepth 100000 in
theorem k_535 : Cond.code yX9_back cX9_back 2 (some .int) ∈ lw_tg := lw_ofs 535 rfl rfl
set_option maxRecDepth 100000 in
theorem k_536 : Cond.methodLink RL 90 yX9_failed ∈ lw_tg := lw_ofs 536 (by decide +kernel) rfl
set_option maxRecDepth 100000 in
theorem k_537 : Cond.instanceMethod yX9_failed ∈ lw_tg := lw_ofs 537 (by decide +kernel) rfl
set_option maxRecDepth 100000 in
theorem k_538 : Cond.selects RX9 yX9_failed yX9_failed ∈ lw_tg := lw_ofs 538 (by decide +kernel) rfl
set_option maxRecDepth 100000 in
theorem k_539 : Cond.code yX9_failed cX9_failed 3 (some .int) ∈ lw_tg := lw_ofs 539 rfl rfl
set_option maxRecDepth 100000 in
theorem k_540 : Cond.methodLink RX9 199 yX8_seekFailed ∈ lw_tg := lw_ofs 540 (by decide +kernel) rfl
set_option maxRecDepth 100000 in
theorem k_541 : Cond.instanceMethod yX8_seekFailed ∈ lw_tg := lw_ofs 541 (by decide +kernel) rfl
set_option maxRecDepth 100000 in
theorem k_542 : Cond.selects RX8 yX8_seekFailed yX8_seekFailed ∈ lw_tg := lw_ofs 542 (by decide +kernel) rfl
set_option maxRecDepth 100000 in
theorem k_543 : Cond.code yX8_seekFailed cX8_seekFailed 3 none ∈ lw_tg := lw_ofs 543 rfl rfl
set_option maxRecDepth 100000 in
theorem k_544 : Cond.methodLink RX8 91 yX2_areSo ∈ lw_tg := lw_ofs 544 (by decide +kernel) rfl
set_option maxRecDepth 100000 in
theorem k_545 : Cond.instanceMethod yX2_areSo ∈ lw_tg := lw_ofs 545 (by decide +kernel) rfl
set_option maxRecDepth 100000 in
theorem k_546 : Cond.selects RX2 yX2_areSo yX2_areSo ∈ lw_tg := lw_ofs 546 (by decide +kernel) rfl
set_option maxRecDepth 100000 in
theorem k_547 : Cond.code yX2_areSo cX2_areSo 3 (some .boolean) ∈ lw_tg := lw_ofs 547 rfl rfl
set_option maxRecDepth 100000 in
theorem k_548 : Cond.methodLink RX2 22 yX3_serverOf ∈ lw_tg := lw_ofs 548 (by decide +kernel) rfl
set_option maxRecDepth 100000 in
theorem k_549 : Cond.methodLink RL 94 yX9_laws ∈ lw_tg := lw_ofs 549 (by decide +kernel) rfl
set_option maxRecDepth 100000 in
theorem k_550 : Cond.instanceMethod yX9_laws ∈ lw_tg := lw_ofs 550 (by decide +kernel) rfl
set_option maxRecDepth 100000 in
theorem k_551 : Cond.selects RX9 yX9_laws yX9_laws ∈ lw_tg := lw_ofs 551 (by decide +kernel) rfl
set_option maxRecDepth 100000 in
theorem k_552 : Cond.code yX9_laws cX9_laws 3 (some .int) ∈ lw_tg := lw_ofs 552 rfl rfl
set_option maxRecDepth 100000 in
theorem k_553 : Cond.methodLink RX9 212 yX2_areSo ∈ lw_tg := lw_ofs 553 (by decide +kernel) rfl
set_option maxRecDepth 100000 in
theorem k_554 : Cond.methodLink RL 98 yX9_odds ∈ lw_tg := lw_ofs 554 (by decide +kernel) rfl
set_option maxRecDepth 100000 in
theorem k_555 : Cond.instanceMethod yX9_odds ∈ lw_tg := lw_ofs 555 (by decide +kernel) rfl
set_option maxRecDepth 100000 in
theorem k_556 : Cond.selects RX9 yX9_odds yX9_odds ∈ lw_tg := lw_ofs 556 (by decide +kernel) rfl
set_option maxRecDepth 100000 in
theorem k_557 : Cond.code yX9_odds cX9_odds 5 (some .long) ∈ lw_tg := lw_ofs 557 rfl rfl
set_option maxRecDepth 100000 in
theorem k_558 : Cond.constantLong RX9 216 (-9223372036854775808) ∈ lw_tg := lw_ofs 558 (by decide +kernel) rfl
set_option maxRecDepth 100000 in
theorem k_559 : Cond.methodLink RX9 218 yX8_setsThatServe ∈ lw_tg := lw_ofs 559 (by decide +kernel) rfl
set_option maxRecDepth 100000 in
theorem k_560 : Cond.instanceMethod yX8_setsThatServe ∈ lw_tg := lw_ofs 560 (by decide +kernel) rfl
set_option maxRecDepth 100000 in
theorem k_561 : Cond.selects RX8 yX8_setsThatServe yX8_setsThatServe ∈ lw_tg := lw_ofs 561 (by decide +kernel) rfl
set_option maxRecDepth 100000 in
theorem k_562 : Cond.code yX8_setsThatServe cX8_setsThatServe 4 (some .int) ∈ lw_tg := lw_ofs 562 rfl rfl
set_option maxRecDepth 100000 in
theorem k_563 : Cond.methodLink RX9 221 yX7_sets ∈ lw_tg := lw_ofs 563 (by decide +kernel) rfl
set_option maxRecDepth 100000 in
theorem k_564 : Cond.methodLink RL 103 yX9_sheet ∈ lw_tg := lw_ofs 564 (by decide +kernel) rfl
set_option maxRecDepth 100000 in
theorem k_565 : Cond.instanceMethod yX9_sheet ∈ lw_tg := lw_ofs 565 (by decide +kernel) rfl
set_option maxRecDepth 100000 in
theorem k_566 : Cond.selects RX9 yX9_sheet yX9_sheet ∈ lw_tg := lw_ofs 566 (by decide +kernel) rfl
set_option maxRecDepth 100000 in
theorem k_567 : Cond.code yX9_sheet cX9_sheet 5 (some .int) ∈ lw_tg := lw_ofs 567 rfl rfl
set_option maxRecDepth 100000 in
theorem k_568 : Cond.methodLink RX9 224 yX4_renew ∈ lw_tg := lw_ofs 568 (by decide +kernel) rfl
set_option maxRecDepth 100000 in
theorem k_569 : Cond.instanceMethod yX4_renew ∈ lw_tg := lw_ofs 569 (by decide +kernel) rfl
set_option maxRecDepth 100000 in
theorem k_570 : Cond.selects RX4 yX4_renew yX4_renew ∈ lw_tg := lw_ofs 570 (by decide +kernel) rfl
set_option maxRecDepth 100000 in
theorem k_571 : Cond.code yX4_renew cX4_renew 3 none ∈ lw_tg := lw_ofs 571 rfl rfl
set_option maxRecDepth 100000 in
theorem k_572 : Cond.methodLink RX4 26 Lib.Math.min.name ∈ lw_tg := lw_ofs 572 (by decide +kernel) rfl
set_option maxRecDepth 100000 in
theorem k_573 : Cond.methodLink RX4 32 yJ7_fill_53178 ∈ lw_tg := lw_ofs 573 (by decide +kernel) rfl
set_option maxRecDepth 100000 in
theorem k_574 : Cond.methodLink RL 107 yX9_lose ∈ lw_tg := lw_ofs 574 (by decide +kernel) rfl
set_option maxRecDepth 100000 in
theorem k_575 : Cond.instanceMethod yX9_lose ∈ lw_tg := lw_ofs 575 (by decide +kernel) rfl
set_option maxRecDepth 100000 in
theorem k_576 : Cond.selects RX9 yX9_lose yX9_lose ∈ lw_tg := lw_ofs 576 (by decide +kernel) rfl
set_option maxRecDepth 100000 in
theorem k_577 : Cond.code yX9_lose cX9_lose 4 (some .int) ∈ lw_tg := lw_ofs 577 rfl rfl
set_option maxRecDepth 100000 in
theorem k_578 : Cond.methodLink RL 111 yX9_put ∈ lw_tg := lw_ofs 578 (by decide +kernel) rfl
set_option maxRecDepth 100000 in
theorem k_579 : Cond.instanceMethod yX9_put ∈ lw_tg := lw_ofs 579 (by decide +kernel) rfl
set_option maxRecDepth 100000 in
theorem k_580 : Cond.selects RX9 yX9_put yX9_put ∈ lw_tg := lw_ofs 580 (by decide +kernel) rfl
set_option maxRecDepth 100000 in
theorem k_581 : Cond.code yX9_put cX9_put 6 (some .int) ∈ lw_tg := lw_ofs 581 rfl rfl
set_option maxRecDepth 100000 in
theorem k_582 : Cond.methodLink RX9 234 yX4_setCell ∈ lw_tg := lw_ofs 582 (by decide +kernel) rfl
set_option maxRecDepth 100000 in
theorem k_583 : Cond.instanceMethod yX4_setCell ∈ lw_tg := lw_ofs 583 (by decide +kernel) rfl
set_option maxRecDepth 100000 in
theorem k_584 : Cond.selects RX4 yX4_setCell yX4_setCell ∈ lw_tg := lw_ofs 584 (by decide +kernel) rfl
set_option maxRecDepth 100000 in
theorem k_585 : Cond.code yX4_setCell cX4_setCell 3 none ∈ lw_tg := lw_ofs 585 rfl rfl
set_option maxRecDepth 100000 in
theorem k_586 : Cond.methodLink RX4 42 yX4_cutToLane ∈ lw_tg := lw_ofs 586 (by decide +kernel) rfl
set_option maxRecDepth 100000 in
theorem k_588 : Cond.instanceMethod yX4_cutToLane ∈ lw_tg := lw_ofs 588 (by decide +kernel) rfl
set_option maxRecDepth 100000 in
theorem k_589 : Cond.code yX4_cutToLane cX4_cutToLane 2 (some .int) ∈ lw_tg := lw_ofs 589 rfl rfl
set_option maxRecDepth 100000 in
theorem k_590 : Cond.methodLink RL 115 yX9_cell ∈ lw_tg := lw_ofs 590 (by decide +kernel) rfl
set_option maxRecDepth 100000 in
theorem k_591 : Cond.instanceMethod yX9_cell ∈ lw_tg := lw_ofs 591 (by decide +kernel) rfl
set_option maxRecDepth 100000 in
theorem k_592 : Cond.selects RX9 yX9_cell yX9_cell ∈ lw_tg := lw_ofs 592 (by decide +kernel) rfl
set_option maxRecDepth 100000 in
theorem k_593 : Cond.code yX9_cell cX9_cell 5 (some .long) ∈ lw_tg := lw_ofs 593 rfl rfl
set_option maxRecDepth 100000 in
theorem k_594 : Cond.methodLink RL 120 yX9_copy ∈ lw_tg := lw_ofs 594 (by decide +kernel) rfl
set_option maxRecDepth 100000 in
theorem k_595 : Cond.instanceMethod yX9_copy ∈ lw_tg := lw_ofs 595 (by decide +kernel) rfl
set_option maxRecDepth 100000 in
theorem k_596 : Cond.selects RX9 yX9_copy yX9_copy ∈ lw_tg := lw_ofs 596 (by decide +kernel) rfl
set_option maxRecDepth 100000 in
theorem k_597 : Cond.code yX9_copy cX9_copy 8 (some .int) ∈ lw_tg := lw_ofs 597 rfl rfl
set_option maxRecDepth 100000 in
theorem k_598 : Cond.methodLink RX9 240 yX4_isOver ∈ lw_tg := lw_ofs 598 (by decide +kernel) rfl
set_option maxRecDepth 100000 in
theorem k_599 : Cond.methodLink RX9 247 arraycopyName ∈ lw_tg := lw_ofs 599 (by decide +kernel) rfl
set_option maxRecDepth 100000 in
theorem k_600 : Cond.static arraycopyName ∈ lw_tg := lw_ofs 600 (by decide +kernel) rfl
set_option maxRecDepth 100000 in
theorem k_601 : Cond.native arraycopyName ∈ lw_tg := lw_ofs 601 (by decide +kernel) rfl
set_option maxRecDepth 100000 in
theorem k_602 : Cond.methodLink RL 125 yX9_tell ∈ lw_tg := lw_ofs 602 (by decide +kernel) rfl
set_option maxRecDepth 100000 in
theorem k_603 : Cond.instanceMethod yX9_tell ∈ lw_tg := lw_ofs 603 (by decide +kernel) rfl
set_option maxRecDepth 100000 in
theorem k_604 : Cond.selects RX9 yX9_tell yX9_tell ∈ lw_tg := lw_ofs 604 (by decide +kernel) rfl
set_option maxRecDepth 100000 in
theorem k_605 : Cond.code yX9_tell cX9_tell 3 (some .int) ∈ lw_tg := lw_ofs 605 rfl rfl
set_option maxRecDepth 100000 in
theorem k_606 : Cond.methodLink RX9 253 yX0_telling ∈ lw_tg := lw_ofs 606 (by decide +kernel) rfl
set_option maxRecDepth 100000 in
theorem k_607 : Cond.instanceMethod yX0_telling ∈ lw_tg := lw_ofs 607 (by decide +kernel) rfl
set_option maxRecDepth 100000 in
theorem k_608 : Cond.selects RX0 yX0_telling yX0_telling ∈ lw_tg := lw_ofs 608 (by decide +kernel) rfl
set_option maxRecDepth 100000 in
theorem k_609 : Cond.code yX0_telling cX0_telling 2 (some .int) ∈ lw_tg := lw_ofs 609 rfl rfl
set_option maxRecDepth 100000 in
theorem k_610 : Cond.methodLink RX0 20 yX0_mayorTells ∈ lw_tg := lw_ofs 610 (by decide +kernel) rfl
set_option maxRecDepth 100000 in
theorem k_612 : Cond.instanceMethod yX0_mayorTells ∈ lw_tg := lw_ofs 612 (by decide +kernel) rfl
set_option maxRecDepth 100000 in
theorem k_613 : Cond.code yX0_mayorTells cX0_mayorTells 3 (some .int) ∈ lw_tg := lw_ofs 613 rfl rfl
set_option maxRecDepth 100000 in
theorem k_614 : Cond.methodLink RX0 37 yX0_leave ∈ lw_tg := lw_ofs 614 (by decide +kernel) rfl
set_option maxRecDepth 100000 in
theorem k_616 : Cond.instanceMethod yX0_leave ∈ lw_tg := lw_ofs 616 (by decide +kernel) rfl
set_option maxRecDepth 100000 in
theorem k_617 : Cond.code yX0_leave cX0_leave 2 none ∈ lw_tg := lw_ofs 617 rfl rfl
set_option maxRecDepth 100000 in
theorem k_618 : Cond.methodLink RX0 24 yX0_swornTells ∈ lw_tg := lw_ofs 618 (by decide +kernel) rfl
set_option maxRecDepth 100000 in
theorem k_620 : Cond.instanceMethod yX0_swornTells ∈ lw_tg := lw_ofs 620 (by decide +kernel) rfl
set_option maxRecDepth 100000 in
theorem k_621 : Cond.code yX0_swornTells cX0_swornTells 2 (some .int) ∈ lw_tg := lw_ofs 621 rfl rfl
set_option maxRecDepth 100000 in
theorem k_622 : Cond.methodLink RX0 27 yX0_thingTells ∈ lw_tg := lw_ofs 622 (by decide +kernel) rfl
set_option maxRecDepth 100000 in
theorem k_624 : Cond.instanceMethod yX0_thingTells ∈ lw_tg := lw_ofs 624 (by decide +kernel) rfl
set_option maxRecDepth 100000 in
theorem k_625 : Cond.code yX0_thingTells cX0_thingTells 2 (some .int) ∈ lw_tg := lw_ofs 625 rfl rfl
set_option maxRecDepth 100000 in
theorem k_626 : Cond.methodLink RL 129 yX9_call ∈ lw_tg := lw_ofs 626 (by decide +kernel) rfl
set_option maxRecDepth 100000 in
theorem k_627 : Cond.instanceMethod yX9_call ∈ lw_tg := lw_ofs 627 (by decide +kernel) rfl
set_option maxRecDepth 100000 in
theorem k_628 : Cond.selects RX9 yX9_call yX9_call ∈ lw_tg := lw_ofs 628 (by decide +kernel) rfl
set_option maxRecDepth 100000 in
theorem k_629 : Cond.code yX9_call cX9_call 3 (some .int) ∈ lw_tg := lw_ofs 629 rfl rfl
set_option maxRecDepth 100000 in
theorem k_630 : Cond.methodLink RX9 257 yX0_ringing ∈ lw_tg := lw_ofs 630 (by decide +kernel) rfl
set_option maxRecDepth 100000 in
theorem k_631 : Cond.instanceMethod yX0_ringing ∈ lw_tg := lw_ofs 631 (by decide +kernel) rfl
set_option maxRecDepth 100000 in
theorem k_632 : Cond.selects RX0 yX0_ringing yX0_ringing ∈ lw_tg := lw_ofs 632 (by decide +kernel) rfl
set_option maxRecDepth 100000 in
theorem k_633 : Cond.code yX0_ringing cX0_ringing 2 (some .int) ∈ lw_tg := lw_ofs 633 rfl rfl
set_option maxRecDepth 100000 in
theorem k_634 : Cond.methodLink RX0 30 yX0_mayorRings ∈ lw_tg := lw_ofs 634 (by decide +kernel) rfl
set_option maxRecDepth 100000 in
theorem k_636 : Cond.instanceMethod yX0_mayorRings ∈ lw_tg := lw_ofs 636 (by decide +kernel) rfl
set_option maxRecDepth 100000 in
theorem k_637 : Cond.code yX0_mayorRings cX0_mayorRings 1 (some .int) ∈ lw_tg := lw_ofs 637 rfl rfl
set_option maxRecDepth 100000 in
theorem k_638 : Cond.methodLink RX0 34 yX0_lentRings ∈ lw_tg := lw_ofs 638 (by decide +kernel) rfl
set_option maxRecDepth 100000 in
theorem k_640 : Cond.instanceMethod yX0_lentRings ∈ lw_tg := lw_ofs 640 (by decide +kernel) rfl
set_option maxRecDepth 100000 in
theorem k_641 : Cond.code yX0_lentRings cX0_lentRings 2 (some .int) ∈ lw_tg := lw_ofs 641 rfl rfl
set_option maxRecDepth 100000 in
theorem k_642 : Cond.methodLink RL 133 yX9_as ∈ lw_tg := lw_ofs 642 (by decide +kernel) rfl
set_option maxRecDepth 100000 in
theorem k_643 : Cond.instanceMethod yX9_as ∈ lw_tg := lw_ofs 643 (by decide +kernel) rfl
set_option maxRecDepth 100000 in
theorem k_644 : Cond.selects RX9 yX9_as yX9_as ∈ lw_tg := lw_ofs 644 (by decide +kernel) rfl
set_option maxRecDepth 100000 in
theorem k_645 : Cond.code yX9_as cX9_as 4 (some .int) ∈ lw_tg := lw_ofs 645 rfl rfl
set_option maxRecDepth 100000 in
theorem k_646 : Cond.methodLink RL 137 yX9_trace ∈ lw_tg := lw_ofs 646 (by decide +kernel) rfl
set_option maxRecDepth 100000 in
theorem k_647 : Cond.instanceMethod yX9_trace ∈ lw_tg := lw_ofs 647 (by decide +kernel) rfl
set_option maxRecDepth 100000 in
theorem k_648 : Cond.selects RX9 yX9_trace yX9_trace ∈ lw_tg := lw_ofs 648 (by decide +kernel) rfl
set_option maxRecDepth 100000 in
theorem k_649 : Cond.code yX9_trace cX9_trace 1 (some .int) ∈ lw_tg := lw_ofs 649 rfl rfl
set_option maxRecDepth 100000 in
theorem k_650 : Cond.methodLink RL 141 yX9_fault ∈ lw_tg := lw_ofs 650 (by decide +kernel) rfl
set_option maxRecDepth 100000 in
theorem k_651 : Cond.instanceMethod yX9_fault ∈ lw_tg := lw_ofs 651 (by decide +kernel) rfl
set_option maxRecDepth 100000 in
theorem k_652 : Cond.selects RX9 yX9_fault yX9_fault ∈ lw_tg := lw_ofs 652 (by decide +kernel) rfl
set_option maxRecDepth 100000 in
theorem k_653 : Cond.code yX9_fault cX9_fault 1 (some .int) ∈ lw_tg := lw_ofs 653 rfl rfl
set_option maxRecDepth 100000 in
theorem k_654 : Cond.methodLink RL 145 yX9_many ∈ lw_tg := lw_ofs 654 (by decide +kernel) rfl
set_option maxRecDepth 100000 in
theorem k_655 : Cond.instanceMethod yX9_many ∈ lw_tg := lw_ofs 655 (by decide +kernel) rfl
set_option maxRecDepth 100000 in
theorem k_656 : Cond.selects RX9 yX9_many yX9_many ∈ lw_tg := lw_ofs 656 (by decide +kernel) rfl
set_option maxRecDepth 100000 in
theorem k_657 : Cond.code yX9_many cX9_many 2 (some .int) ∈ lw_tg := lw_ofs 657 rfl rfl
set_option maxRecDepth 100000 in
theorem k_658 : Cond.classLink RL 10 RX10 ∈ lw_tg := lw_ofs 658 (by decide +kernel) rfl
set_option maxRecDepth 100000 in
theorem k_659 : Cond.instantiable RX10 29 ∈ lw_tg := lw_ofs 659 (by decide +kernel) rfl
set_option maxRecDepth 100000 in
theorem k_660 : Cond.methodLink RL 12 yX10_init ∈ lw_tg := lw_ofs 660 (by decide +kernel) rfl
set_option maxRecDepth 100000 in
theorem k_661 : Cond.instanceMethod yX10_init ∈ lw_tg := lw_ofs 661 (by decide +kernel) rfl
set_option maxRecDepth 100000 in
theorem k_662 : Cond.code yX10_init cX10_init 2 none ∈ lw_tg := lw_ofs 662 rfl rfl
set_option maxRecDepth 100000 in
theorem k_663 : Cond.methodLink RX10 1 Lib.objectInit ∈ lw_tg := lw_ofs 663 (by decide +kernel) rfl
set_option maxRecDepth 100000 in
theorem k_664 : Cond.fieldLink RX10 72 "DeputyTownModel" "fault" "I" ∈ lw_tg := lw_ofs 664 (by decide +kernel) rfl
set_option maxRecDepth 100000 in
theorem k_665 : Cond.fieldLink RX10 80 "DeputyTownModel" "things" "I" ∈ lw_tg := lw_ofs 665 (by decide +kernel) rfl
set_option maxRecDepth 100000 in
theorem k_666 : Cond.fieldLink RX10 7 "DeputyTownModel" "kindOf" "[I" ∈ lw_tg := lw_ofs 666 (by decide +kernel) rfl
set_option maxRecDepth 100000 in
theorem k_667 : Cond.fieldLink RX10 13 "DeputyTownModel" "deputyOf" "[I" ∈ lw_tg := lw_ofs 667 (by decide +kernel) rfl
set_option maxRecDepth 100000 in
theorem k_668 : Cond.fieldLink RX10 16 "DeputyTownModel" "fitOf" "[I" ∈ lw_tg := lw_ofs 668 (by decide +kernel) rfl
set_option maxRecDepth 100000 in
theorem k_669 : Cond.fieldLink RX10 19 "DeputyTownModel" "lastsOf" "[I" ∈ lw_tg := lw_ofs 669 (by decide +kernel) rfl
set_option maxRecDepth 100000 in
theorem k_670 : Cond.fieldLink RX10 131 "DeputyTownModel" "lawNow" "I" ∈ lw_tg := lw_ofs 670 (by decide +kernel) rfl
set_option maxRecDepth 100000 in
theorem k_671 : Cond.fieldLink RX10 89 "DeputyTownModel" "readAt" "I" ∈ lw_tg := lw_ofs 671 (by decide +kernel) rfl
set_option maxRecDepth 100000 in
theorem k_672 : Cond.fieldLink RX10 96 "DeputyTownModel" "readThings" "I" ∈ lw_tg := lw_ofs 672 (by decide +kernel) rfl
set_option maxRecDepth 100000 in
theorem k_673 : Cond.fieldLink RX10 22 "DeputyTownModel" "readKind" "[I" ∈ lw_tg := lw_ofs 673 (by decide +kernel) rfl
set_option maxRecDepth 100000 in
theorem k_674 : Cond.fieldLink RX10 25 "DeputyTownModel" "readDeputy" "[I" ∈ lw_tg := lw_ofs 674 (by decide +kernel) rfl
set_option maxRecDepth 100000 in
theorem k_675 : Cond.fieldLink RX10 28 "DeputyTownModel" "readFit" "[I" ∈ lw_tg := lw_ofs 675 (by decide +kernel) rfl
set_option maxRecDepth 100000 in
theorem k_676 : Cond.fieldLink RX10 31 "DeputyTownModel" "readLasts" "[I" ∈ lw_tg := lw_ofs 676 (by decide +kernel) rfl
set_option maxRecDepth 100000 in
theorem k_677 : Cond.fieldLink RX10 134 "DeputyTownModel" "breaks" "I" ∈ lw_tg := lw_ofs 677 (by decide +kernel) rfl
set_option maxRecDepth 100000 in
theorem k_678 : Cond.fieldLink RX10 34 "DeputyTownModel" "breakOf" "[I" ∈ lw_tg := lw_ofs 678 (by decide +kernel) rfl
set_option maxRecDepth 100000 in
theorem k_679 : Cond.fieldLink RX10 37 "DeputyTownModel" "breakFrom" "[I" ∈ lw_tg := lw_ofs 679 (by decide +kernel) rfl
set_option maxRecDepth 100000 in
theorem k_680 : Cond.fieldLink RX10 40 "DeputyTownModel" "breakTo" "[I" ∈ lw_tg := lw_ofs 680 (by decide +kernel) rfl
set_option maxRecDepth 100000 in
theorem k_681 : Cond.fieldLink RX10 43 "DeputyTownModel" "servedBy" "[I" ∈ lw_tg := lw_ofs 681 (by decide +kernel) rfl
set_option maxRecDepth 100000 in
theorem k_682 : Cond.fieldLink RX10 46 "DeputyTownModel" "stoodIn" "[I" ∈ lw_tg := lw_ofs 682 (by decide +kernel) rfl
set_option maxRecDepth 100000 in
theorem k_683 : Cond.fieldLink RX10 49 "DeputyTownModel" "stoodFor" "[I" ∈ lw_tg := lw_ofs 683 (by decide +kernel) rfl
set_option maxRecDepth 100000 in
theorem k_684 : Cond.fieldLink RX10 190 "DeputyTownModel" "frailMany" "I" ∈ lw_tg := lw_ofs 684 (by decide +kernel) rfl
set_option maxRecDepth 100000 in
theorem k_685 : Cond.fieldLink RX10 137 "DeputyTownModel" "readings" "I" ∈ lw_tg := lw_ofs 685 (by decide +kernel) rfl
set_option maxRecDepth 100000 in
theorem k_686 : Cond.fieldLink RX10 52 "DeputyTownModel" "readingOf" "[I" ∈ lw_tg := lw_ofs 686 (by decide +kernel) rfl
set_option maxRecDepth 100000 in
theorem k_687 : Cond.fieldLink RX10 55 "DeputyTownModel" "readingBy" "[I" ∈ lw_tg := lw_ofs 687 (by decide +kernel) rfl
set_option maxRecDepth 100000 in
theorem k_688 : Cond.fieldLink RX10 58 "DeputyTownModel" "sheetSize" "[I" ∈ lw_tg := lw_ofs 688 (by decide +kernel) rfl
set_option maxRecDepth 100000 in
theorem k_689 : Cond.fieldLink RX10 61 "DeputyTownModel" "sheetLane" "[I" ∈ lw_tg := lw_ofs 689 (by decide +kernel) rfl
set_option maxRecDepth 100000 in
theorem k_690 : Cond.fieldLink RX10 64 "DeputyTownModel" "sheet" "[I" ∈ lw_tg := lw_ofs 690 (by decide +kernel) rfl
set_option maxRecDepth 100000 in
theorem k_691 : Cond.fieldLink RX10 67 "DeputyTownModel" "hands" "[I" ∈ lw_tg := lw_ofs 691 (by decide +kernel) rfl
set_option maxRecDepth 100000 in
theorem k_692 : Cond.fieldLink RX10 218 "DeputyTownModel" "traceNow" "I" ∈ lw_tg := lw_ofs 692 (by decide +kernel) rfl
set_option maxRecDepth 100000 in
theorem k_693 : Cond.lays "DeputyTownModel" "DeputyTownModel" "fault" "I" ∈ lw_tg := lw_ofs 693 (by decide +kernel) rfl
set_option maxRecDepth 100000 in
theorem k_695 : Cond.lays "DeputyTownModel" "DeputyTownModel" "things" "I" ∈ lw_tg := lw_ofs 695 (by decide +kernel) rfl
set_option maxRecDepth 100000 in
theorem k_697 : Cond.laysFinal "DeputyTownModel" "DeputyTownModel" "kindOf" "[I" ∈ lw_tg := lw_ofs 697 (by decide +kernel) rfl
set_option maxRecDepth 100000 in
theorem k_699 : Cond.laysFinal "DeputyTownModel" "DeputyTownModel" "deputyOf" "[I" ∈ lw_tg := lw_ofs 699 (by decide +kernel) rfl
set_option maxRecDepth 100000 in
theorem k_701 : Cond.laysFinal "DeputyTownModel" "DeputyTownModel" "fitOf" "[I" ∈ lw_tg := lw_ofs 701 (by decide +kernel) rfl
set_option maxRecDepth 100000 in
theorem k_703 : Cond.laysFinal "DeputyTownModel" "DeputyTownModel" "lastsOf" "[I" ∈ lw_tg := lw_ofs 703 (by decide +kernel) rfl
set_option maxRecDepth 100000 in
theorem k_705 : Cond.lays "DeputyTownModel" "DeputyTownModel" "lawNow" "I" ∈ lw_tg := lw_ofs 705 (by decide +kernel) rfl
set_option maxRecDepth 100000 in
theorem k_707 : Cond.lays "DeputyTownModel" "DeputyTownModel" "readAt" "I" ∈ lw_tg := lw_ofs 707 (by decide +kernel) rfl
set_option maxRecDepth 100000 in
theorem k_709 : Cond.lays "DeputyTownModel" "DeputyTownModel" "readThings" "I" ∈ lw_tg := lw_ofs 709 (by decide +kernel) rfl
set_option maxRecDepth 100000 in
theorem k_711 : Cond.laysFinal "DeputyTownModel" "DeputyTownModel" "readKind" "[I" ∈ lw_tg := lw_ofs 711 (by decide +kernel) rfl
set_option maxRecDepth 100000 in
theorem k_713 : Cond.laysFinal "DeputyTownModel" "DeputyTownModel" "readDeputy" "[I" ∈ lw_tg := lw_ofs 713 (by decide +kernel) rfl
set_option maxRecDepth 100000 in
theorem k_715 : Cond.laysFinal "DeputyTownModel" "DeputyTownModel" "readFit" "[I" ∈ lw_tg := lw_ofs 715 (by decide +kernel) rfl
set_option maxRecDepth 100000 in
theorem k_717 : Cond.laysFinal "DeputyTownModel" "DeputyTownModel" "readLasts" "[I" ∈ lw_tg := lw_ofs 717 (by decide +kernel) rfl
set_option maxRecDepth 100000 in
theorem k_719 : Cond.lays "DeputyTownModel" "DeputyTownModel" "breaks" "I" ∈ lw_tg := lw_ofs 719 (by decide +kernel) rfl
set_option maxRecDepth 100000 in
theorem k_721 : Cond.laysFinal "DeputyTownModel" "DeputyTownModel" "breakOf" "[I" ∈ lw_tg := lw_ofs 721 (by decide +kernel) rfl
set_option maxRecDepth 100000 in
theorem k_723 : Cond.laysFinal "DeputyTownModel" "DeputyTownModel" "breakFrom" "[I" ∈ lw_tg := lw_ofs 723 (by decide +kernel) rfl
set_option maxRecDepth 100000 in
theorem k_725 : Cond.laysFinal "DeputyTownModel" "DeputyTownModel" "breakTo" "[I" ∈ lw_tg := lw_ofs 725 (by decide +kernel) rfl
set_option maxRecDepth 100000 in
theorem k_727 : Cond.laysFinal "DeputyTownModel" "DeputyTownModel" "servedBy" "[I" ∈ lw_tg := lw_ofs 727 (by decide +kernel) rfl
set_option maxRecDepth 100000 in
theorem k_729 : Cond.laysFinal "DeputyTownModel" "DeputyTownModel" "stoodIn" "[I" ∈ lw_tg := lw_ofs 729 (by decide +kernel) rfl
set_option maxRecDepth 100000 in
theorem k_731 : Cond.laysFinal "DeputyTownModel" "DeputyTownModel" "stoodFor" "[I" ∈ lw_tg := lw_ofs 731 (by decide +kernel) rfl
set_option maxRecDepth 100000 in
theorem k_733 : Cond.lays "DeputyTownModel" "DeputyTownModel" "frailMany" "I" ∈ lw_tg := lw_ofs 733 (by decide +kernel) rfl
set_option maxRecDepth 100000 in
theorem k_735 : Cond.lays "DeputyTownModel" "DeputyTownModel" "readings" "I" ∈ lw_tg := lw_ofs 735 (by decide +kernel) rfl
set_option maxRecDepth 100000 in
theorem k_737 : Cond.laysFinal "DeputyTownModel" "DeputyTownModel" "readingOf" "[I" ∈ lw_tg := lw_ofs 737 (by decide +kernel) rfl
set_option maxRecDepth 100000 in
theorem k_739 : Cond.laysFinal "DeputyTownModel" "DeputyTownModel" "readingBy" "[I" ∈ lw_tg := lw_ofs 739 (by decide +kernel) rfl
set_option maxRecDepth 100000 in
theorem k_741 : Cond.laysFinal "DeputyTownModel" "DeputyTownModel" "sheetSize" "[I" ∈ lw_tg := lw_ofs 741 (by decide +kernel) rfl
set_option maxRecDepth 100000 in
theorem k_743 : Cond.laysFinal "DeputyTownModel" "DeputyTownModel" "sheetLane" "[I" ∈ lw_tg := lw_ofs 743 (by decide +kernel) rfl
set_option maxRecDepth 100000 in
theorem k_745 : Cond.laysFinal "DeputyTownModel" "DeputyTownModel" "sheet" "[I" ∈ lw_tg := lw_ofs 745 (by decide +kernel) rfl
set_option maxRecDepth 100000 in
theorem k_747 : Cond.laysFinal "DeputyTownModel" "DeputyTownModel" "hands" "[I" ∈ lw_tg := lw_ofs 747 (by decide +kernel) rfl
set_option maxRecDepth 100000 in
theorem k_749 : Cond.lays "DeputyTownModel" "DeputyTownModel" "traceNow" "I" ∈ lw_tg := lw_ofs 749 (by decide +kernel) rfl
set_option maxRecDepth 100000 in
theorem k_752 : Cond.methodLink RL 17 yX10_town ∈ lw_tg := lw_ofs 752 (by decide +kernel) rfl
set_option maxRecDepth 100000 in
theorem k_753 : Cond.instanceMethod yX10_town ∈ lw_tg := lw_ofs 753 (by decide +kernel) rfl
set_option maxRecDepth 100000 in
theorem k_754 : Cond.selects RX10 yX10_town yX10_town ∈ lw_tg := lw_ofs 754 (by decide +kernel) rfl
set_option maxRecDepth 100000 in
theorem k_755 : Cond.code yX10_town cX10_town 7 (some .int) ∈ lw_tg := lw_ofs 755 rfl rfl
set_option maxRecDepth 100000 in
theorem k_756 : Cond.methodLink RX10 115 yX10_noSheet ∈ lw_tg := lw_ofs 756 (by decide +kernel) rfl
set_option maxRecDepth 100000 in
theorem k_757 : Cond.static yX10_noSheet ∈ lw_tg := lw_ofs 757 (by decide +kernel) rfl
set_option maxRecDepth 100000 in
theorem k_758 : Cond.code yX10_noSheet cX10_noSheet 1 (some .boolean) ∈ lw_tg := lw_ofs 758 rfl rfl
set_option maxRecDepth 100000 in
theorem k_759 : Cond.constantLong RX10 209 (3) ∈ lw_tg := lw_ofs 759 (by decide +kernel) rfl
set_option maxRecDepth 100000 in
theorem k_760 : Cond.methodLink RX10 83 yX10_in ∈ lw_tg := lw_ofs 760 (by decide +kernel) rfl
set_option maxRecDepth 100000 in
theorem k_761 : Cond.static yX10_in ∈ lw_tg := lw_ofs 761 (by decide +kernel) rfl
set_option maxRecDepth 100000 in
theorem k_762 : Cond.code yX10_in cX10_in 6 (some .boolean) ∈ lw_tg := lw_ofs 762 rfl rfl
set_option maxRecDepth 100000 in
theorem k_763 : Cond.methodLink RX10 119 yX10_refused ∈ lw_tg := lw_ofs 763 (by decide +kernel) rfl
set_option maxRecDepth 100000 in
theorem k_765 : Cond.instanceMethod yX10_refused ∈ lw_tg := lw_ofs 765 (by decide +kernel) rfl
set_option maxRecDepth 100000 in
theorem k_766 : Cond.code yX10_refused cX10_refused 2 (some .int) ∈ lw_tg := lw_ofs 766 rfl rfl
set_option maxRecDepth 100000 in
theorem k_767 : Cond.constantLong RX10 122 (2) ∈ lw_tg := lw_ofs 767 (by decide +kernel) rfl
set_option maxRecDepth 100000 in
theorem k_768 : Cond.methodLink RX10 124 yX10_cellsBarred ∈ lw_tg := lw_ofs 768 (by decide +kernel) rfl
set_option maxRecDepth 100000 in
theorem k_770 : Cond.instanceMethod yX10_cellsBarred ∈ lw_tg := lw_ofs 770 (by decide +kernel) rfl
set_option maxRecDepth 100000 in
theorem k_771 : Cond.code yX10_cellsBarred cX10_cellsBarred 6 (some .int) ∈ lw_tg := lw_ofs 771 rfl rfl
set_option maxRecDepth 100000 in
theorem k_772 : Cond.methodLink RX10 107 yX10_faulted ∈ lw_tg := lw_ofs 772 (by decide +kernel) rfl
set_option maxRecDepth 100000 in
theorem k_774 : Cond.instanceMethod yX10_faulted ∈ lw_tg := lw_ofs 774 (by decide +kernel) rfl
set_option maxRecDepth 100000 in
theorem k_775 : Cond.code yX10_faulted cX10_faulted 2 (some .int) ∈ lw_tg := lw_ofs 775 rfl rfl
set_option maxRecDepth 100000 in
theorem k_776 : Cond.methodLink RX10 111 yX10_isBeyond ∈ lw_tg := lw_ofs 776 (by decide +kernel) rfl
set_option maxRecDepth 100000 in
theorem k_777 : Cond.static yX10_isBeyond ∈ lw_tg := lw_ofs 777 (by decide +kernel) rfl
set_option maxRecDepth 100000 in
theorem k_778 : Cond.code yX10_isBeyond cX10_isBeyond 4 (some .boolean) ∈ lw_tg := lw_ofs 778 rfl rfl
set_option maxRecDepth 100000 in
theorem k_779 : Cond.methodLink RX10 128 yX10_readsTown ∈ lw_tg := lw_ofs 779 (by decide +kernel) rfl
set_option maxRecDepth 100000 in
theorem k_781 : Cond.instanceMethod yX10_readsTown ∈ lw_tg := lw_ofs 781 (by decide +kernel) rfl
set_option maxRecDepth 100000 in
theorem k_782 : Cond.code yX10_readsTown cX10_readsTown 5 (some .boolean) ∈ lw_tg := lw_ofs 782 rfl rfl
set_option maxRecDepth 100000 in
theorem k_783 : Cond.methodLink RX10 92 yX10_codeAt ∈ lw_tg := lw_ofs 783 (by decide +kernel) rfl
set_option maxRecDepth 100000 in
theorem k_785 : Cond.instanceMethod yX10_codeAt ∈ lw_tg := lw_ofs 785 (by decide +kernel) rfl
set_option maxRecDepth 100000 in
theorem k_786 : Cond.code yX10_codeAt cX10_codeAt 3 (some .int) ∈ lw_tg := lw_ofs 786 rfl rfl
set_option maxRecDepth 100000 in
theorem k_787 : Cond.methodLink RX10 103 yX10_readsThing ∈ lw_tg := lw_ofs 787 (by decide +kernel) rfl
set_option maxRecDepth 100000 in
theorem k_789 : Cond.instanceMethod yX10_readsThing ∈ lw_tg := lw_ofs 789 (by decide +kernel) rfl
set_option maxRecDepth 100000 in
theorem k_790 : Cond.code yX10_readsThing cX10_readsThing 7 (some .boolean) ∈ lw_tg := lw_ofs 790 rfl rfl
set_option maxRecDepth 100000 in
theorem k_791 : Cond.methodLink RX10 99 yX10_figure ∈ lw_tg := lw_ofs 791 (by decide +kernel) rfl
set_option maxRecDepth 100000 in
theorem k_793 : Cond.instanceMethod yX10_figure ∈ lw_tg := lw_ofs 793 (by decide +kernel) rfl
set_option maxRecDepth 100000 in
theorem k_794 : Cond.code yX10_figure cX10_figure 8 (some .int) ∈ lw_tg := lw_ofs 794 rfl rfl
set_option maxRecDepth 100000 in
theorem k_795 : Cond.methodLink RL 22 yX10_ofThing ∈ lw_tg := lw_ofs 795 (by decide +kernel) rfl
set_option maxRecDepth 100000 in
theorem k_796 : Cond.instanceMethod yX10_ofThing ∈ lw_tg := lw_ofs 796 (by decide +kernel) rfl
set_option maxRecDepth 100000 in
theorem k_797 : Cond.selects RX10 yX10_ofThing yX10_ofThing ∈ lw_tg := lw_ofs 797 (by decide +kernel) rfl
set_option maxRecDepth 100000 in
theorem k_798 : Cond.code yX10_ofThing cX10_ofThing 3 (some .int) ∈ lw_tg := lw_ofs 798 rfl rfl
set_option maxRecDepth 100000 in
theorem k_799 : Cond.methodLink RX10 140 yX10_noThing ∈ lw_tg := lw_ofs 799 (by decide +kernel) rfl
set_option maxRecDepth 100000 in
theorem k_801 : Cond.instanceMethod yX10_noThing ∈ lw_tg := lw_ofs 801 (by decide +kernel) rfl
set_option maxRecDepth 100000 in
theorem k_802 : Cond.code yX10_noThing cX10_noThing 2 (some .boolean) ∈ lw_tg := lw_ofs 802 rfl rfl
set_option maxRecDepth 100000 in
theorem k_803 : Cond.methodLink RX10 143 yX10_goodOf ∈ lw_tg := lw_ofs 803 (by decide +kernel) rfl
set_option maxRecDepth 100000 in
theorem k_805 : Cond.instanceMethod yX10_goodOf ∈ lw_tg := lw_ofs 805 (by decide +kernel) rfl
set_option maxRecDepth 100000 in
theorem k_806 : Cond.code yX10_goodOf cX10_goodOf 3 (some .int) ∈ lw_tg := lw_ofs 806 rfl rfl
set_option maxRecDepth 100000 in
theorem k_807 : Cond.methodLink RL 27 yX10_law ∈ lw_tg := lw_ofs 807 (by decide +kernel) rfl
set_option maxRecDepth 100000 in
theorem k_808 : Cond.instanceMethod yX10_law ∈ lw_tg := lw_ofs 808 (by decide +kernel) rfl
set_option maxRecDepth 100000 in
theorem k_809 : Cond.selects RX10 yX10_law yX10_law ∈ lw_tg := lw_ofs 809 (by decide +kernel) rfl
set_option maxRecDepth 100000 in
theorem k_810 : Cond.code yX10_law cX10_law 3 (some .int) ∈ lw_tg := lw_ofs 810 rfl rfl
set_option maxRecDepth 100000 in
theorem k_811 : Cond.methodLink RL 31 yX10_depute ∈ lw_tg := lw_ofs 811 (by decide +kernel) rfl
set_option maxRecDepth 100000 in
theorem k_812 : Cond.instanceMethod yX10_depute ∈ lw_tg := lw_ofs 812 (by decide +kernel) rfl
set_option maxRecDepth 100000 in
theorem k_813 : Cond.selects RX10 yX10_depute yX10_depute ∈ lw_tg := lw_ofs 813 (by decide +kernel) rfl
set_option maxRecDepth 100000 in
theorem k_814 : Cond.code yX10_depute cX10_depute 4 (some .int) ∈ lw_tg := lw_ofs 814 rfl rfl
set_option maxRecDepth 100000 in
theorem k_815 : Cond.methodLink RL 36 yX10_smash ∈ lw_tg := lw_ofs 815 (by decide +kernel) rfl
set_option maxRecDepth 100000 in
theorem k_816 : Cond.instanceMethod yX10_smash ∈ lw_tg := lw_ofs 816 (by decide +kernel) rfl
set_option maxRecDepth 100000 in
theorem k_817 : Cond.selects RX10 yX10_smash yX10_smash ∈ lw_tg := lw_ofs 817 (by decide +kernel) rfl
set_option maxRecDepth 100000 in
theorem k_818 : Cond.code yX10_smash cX10_smash 4 (some .int) ∈ lw_tg := lw_ofs 818 rfl rfl
set_option maxRecDepth 100000 in
theorem k_819 : Cond.methodLink RX10 146 yX10_isHour ∈ lw_tg := lw_ofs 819 (by decide +kernel) rfl
set_option maxRecDepth 100000 in
theorem k_820 : Cond.static yX10_isHour ∈ lw_tg := lw_ofs 820 (by decide +kernel) rfl
set_option maxRecDepth 100000 in
theorem k_821 : Cond.code yX10_isHour cX10_isHour 1 (some .boolean) ∈ lw_tg := lw_ofs 821 rfl rfl
set_option maxRecDepth 100000 in
theorem k_822 : Cond.constantLong RX10 87 (29) ∈ lw_tg := lw_ofs 822 (by decide +kernel) rfl
set_option maxRecDepth 100000 in
theorem k_823 : Cond.methodLink RL 40 yX10_glue ∈ lw_tg := lw_ofs 823 (by decide +kernel) rfl
set_option maxRecDepth 100000 in
theorem k_824 : Cond.instanceMethod yX10_glue ∈ lw_tg := lw_ofs 824 (by decide +kernel) rfl
set_option maxRecDepth 100000 in
theorem k_825 : Cond.selects RX10 yX10_glue yX10_glue ∈ lw_tg := lw_ofs 825 (by decide +kernel) rfl
set_option maxRecDepth 100000 in
theorem k_826 : Cond.code yX10_glue cX10_glue 2 (some .int) ∈ lw_tg := lw_ofs 826 rfl rfl
set_option maxRecDepth 100000 in
theorem k_827 : Cond.methodLink RL 44 yX10_by ∈ lw_tg := lw_ofs 827 (by decide +kernel) rfl
set_option maxRecDepth 100000 in
theorem k_828 : Cond.instanceMethod yX10_by ∈ lw_tg := lw_ofs 828 (by decide +kernel) rfl
set_option maxRecDepth 100000 in
theorem k_829 : Cond.selects RX10 yX10_by yX10_by ∈ lw_tg := lw_ofs 829 (by decide +kernel) rfl
set_option maxRecDepth 100000 in
theorem k_830 : Cond.code yX10_by cX10_by 3 (some .int) ∈ lw_tg := lw_ofs 830 rfl rfl
set_option maxRecDepth 100000 in
theorem k_831 : Cond.methodLink RX10 171 yX10_goTo ∈ lw_tg := lw_ofs 831 (by decide +kernel) rfl
set_option maxRecDepth 100000 in
theorem k_833 : Cond.instanceMethod yX10_goTo ∈ lw_tg := lw_ofs 833 (by decide +kernel) rfl
set_option maxRecDepth 100000 in
theorem k_834 : Cond.code yX10_goTo cX10_goTo 3 none ∈ lw_tg := lw_ofs 834 rfl rfl
set_option maxRecDepth 100000 in
theorem k_835 : Cond.methodLink RX10 161 yX10_beginHours ∈ lw_tg := lw_ofs 835 (by decide +kernel) rfl
set_option maxRecDepth 100000 in
theorem k_837 : Cond.instanceMethod yX10_beginHours ∈ lw_tg := lw_ofs 837 (by decide +kernel) rfl
set_option maxRecDepth 100000 in
theorem k_838 : Cond.code yX10_beginHours cX10_beginHours 2 none ∈ lw_tg := lw_ofs 838 rfl rfl
set_option maxRecDepth 100000 in
theorem k_839 : Cond.methodLink RX10 164 yX10_brokenIn ∈ lw_tg := lw_ofs 839 (by decide +kernel) rfl
set_option maxRecDepth 100000 in
theorem k_841 : Cond.instanceMethod yX10_brokenIn ∈ lw_tg := lw_ofs 841 (by decide +kernel) rfl
set_option maxRecDepth 100000 in
theorem k_842 : Cond.code yX10_brokenIn cX10_brokenIn 4 (some .int) ∈ lw_tg := lw_ofs 842 rfl rfl
set_option maxRecDepth 100000 in
theorem k_843 : Cond.methodLink RX10 167 yX10_goHour ∈ lw_tg := lw_ofs 843 (by decide +kernel) rfl
set_option maxRecDepth 100000 in
theorem k_845 : Cond.instanceMethod yX10_goHour ∈ lw_tg := lw_ofs 845 (by decide +kernel) rfl
set_option maxRecDepth 100000 in
theorem k_846 : Cond.code yX10_goHour cX10_goHour 4 none ∈ lw_tg := lw_ofs 846 rfl rfl
set_option maxRecDepth 100000 in
theorem k_847 : Cond.methodLink RX10 149 yX10_isIn ∈ lw_tg := lw_ofs 847 (by decide +kernel) rfl
set_option maxRecDepth 100000 in
theorem k_848 : Cond.static yX10_isIn ∈ lw_tg := lw_ofs 848 (by decide +kernel) rfl
set_option maxRecDepth 100000 in
theorem k_849 : Cond.code yX10_isIn cX10_isIn 2 (some .boolean) ∈ lw_tg := lw_ofs 849 rfl rfl
set_option maxRecDepth 100000 in
theorem k_850 : Cond.methodLink RX10 158 yX10_standsFor ∈ lw_tg := lw_ofs 850 (by decide +kernel) rfl
set_option maxRecDepth 100000 in
theorem k_852 : Cond.instanceMethod yX10_standsFor ∈ lw_tg := lw_ofs 852 (by decide +kernel) rfl
set_option maxRecDepth 100000 in
theorem k_853 : Cond.code yX10_standsFor cX10_standsFor 8 (some .int) ∈ lw_tg := lw_ofs 853 rfl rfl
set_option maxRecDepth 100000 in
theorem k_854 : Cond.methodLink RX10 152 yX10_isTired ∈ lw_tg := lw_ofs 854 (by decide +kernel) rfl
set_option maxRecDepth 100000 in
theorem k_856 : Cond.instanceMethod yX10_isTired ∈ lw_tg := lw_ofs 856 (by decide +kernel) rfl
set_option maxRecDepth 100000 in
theorem k_857 : Cond.code yX10_isTired cX10_isTired 3 (some .boolean) ∈ lw_tg := lw_ofs 857 rfl rfl
set_option maxRecDepth 100000 in
theorem k_858 : Cond.methodLink RX10 155 yX10_standsAhead ∈ lw_tg := lw_ofs 858 (by decide +kernel) rfl
set_option maxRecDepth 100000 in
theorem k_860 : Cond.instanceMethod yX10_standsAhead ∈ lw_tg := lw_ofs 860 (by decide +kernel) rfl
set_option maxRecDepth 100000 in
theorem k_861 : Cond.code yX10_standsAhead cX10_standsAhead 5 (some .boolean) ∈ lw_tg := lw_ofs 861 rfl rfl
set_option maxRecDepth 100000 in
theorem k_862 : Cond.methodLink RL 48 yX10_undone ∈ lw_tg := lw_ofs 862 (by decide +kernel) rfl
set_option maxRecDepth 100000 in
theorem k_863 : Cond.instanceMethod yX10_undone ∈ lw_tg := lw_ofs 863 (by decide +kernel) rfl
set_option maxRecDepth 100000 in
theorem k_864 : Cond.selects RX10 yX10_undone yX10_undone ∈ lw_tg := lw_ofs 864 (by decide +kernel) rfl
set_option maxRecDepth 100000 in
theorem k_865 : Cond.code yX10_undone cX10_undone 3 (some .int) ∈ lw_tg := lw_ofs 865 rfl rfl
set_option maxRecDepth 100000 in
theorem k_866 : Cond.methodLink RX10 174 yX10_refusedFor ∈ lw_tg := lw_ofs 866 (by decide +kernel) rfl
set_option maxRecDepth 100000 in
theorem k_868 : Cond.instanceMethod yX10_refusedFor ∈ lw_tg := lw_ofs 868 (by decide +kernel) rfl
set_option maxRecDepth 100000 in
theorem k_869 : Cond.code yX10_refusedFor cX10_refusedFor 2 (some .int) ∈ lw_tg := lw_ofs 869 rfl rfl
set_option maxRecDepth 100000 in
theorem k_870 : Cond.methodLink RX10 177 yX10_undoneNow ∈ lw_tg := lw_ofs 870 (by decide +kernel) rfl
set_option maxRecDepth 100000 in
theorem k_872 : Cond.instanceMethod yX10_undoneNow ∈ lw_tg := lw_ofs 872 (by decide +kernel) rfl
set_option maxRecDepth 100000 in
theorem k_873 : Cond.code yX10_undoneNow cX10_undoneNow 3 (some .int) ∈ lw_tg := lw_ofs 873 rfl rfl
set_option maxRecDepth 100000 in
theorem k_874 : Cond.methodLink RL 52 yX10_serves ∈ lw_tg := lw_ofs 874 (by decide +kernel) rfl
set_option maxRecDepth 100000 in
theorem k_875 : Cond.instanceMethod yX10_serves ∈ lw_tg := lw_ofs 875 (by decide +kernel) rfl
set_option maxRecDepth 100000 in
theorem k_876 : Cond.selects RX10 yX10_serves yX10_serves ∈ lw_tg := lw_ofs 876 (by decide +kernel) rfl
set_option maxRecDepth 100000 in
theorem k_877 : Cond.code yX10_serves cX10_serves 3 (some .int) ∈ lw_tg := lw_ofs 877 rfl rfl
set_option maxRecDepth 100000 in
theorem k_878 : Cond.methodLink RX10 181 yX10_servesNow ∈ lw_tg := lw_ofs 878 (by decide +kernel) rfl
set_option maxRecDepth 100000 in
theorem k_880 : Cond.instanceMethod yX10_servesNow ∈ lw_tg := lw_ofs 880 (by decide +kernel) rfl
set_option maxRecDepth 100000 in
theorem k_881 : Cond.code yX10_servesNow cX10_servesNow 5 (some .int) ∈ lw_tg := lw_ofs 881 rfl rfl
set_option maxRecDepth 100000 in
theorem k_882 : Cond.methodLink RL 57 yX10_ring ∈ lw_tg := lw_ofs 882 (by decide +kernel) rfl
set_option maxRecDepth 100000 in
theorem k_883 : Cond.instanceMethod yX10_ring ∈ lw_tg := lw_ofs 883 (by decide +kernel) rfl
set_option maxRecDepth 100000 in
theorem k_884 : Cond.selects RX10 yX10_ring yX10_ring ∈ lw_tg := lw_ofs 884 (by decide +kernel) rfl
set_option maxRecDepth 100000 in
theorem k_885 : Cond.code yX10_ring cX10_ring 5 (some .int) ∈ lw_tg := lw_ofs 885 rfl rfl
set_option maxRecDepth 100000 in
theorem k_886 : Cond.methodLink RL 61 yX10_first ∈ lw_tg := lw_ofs 886 (by decide +kernel) rfl
set_option maxRecDepth 100000 in
theorem k_887 : Cond.instanceMethod yX10_first ∈ lw_tg := lw_ofs 887 (by decide +kernel) rfl
set_option maxRecDepth 100000 in
theorem k_888 : Cond.selects RX10 yX10_first yX10_first ∈ lw_tg := lw_ofs 888 (by decide +kernel) rfl
set_option maxRecDepth 100000 in
theorem k_889 : Cond.code yX10_first cX10_first 5 (some .int) ∈ lw_tg := lw_ofs 889 rfl rfl
set_option maxRecDepth 100000 in
theorem k_890 : Cond.methodLink RL 65 yX10_frail ∈ lw_tg := lw_ofs 890 (by decide +kernel) rfl
set_option maxRecDepth 100000 in
theorem k_891 : Cond.instanceMethod yX10_frail ∈ lw_tg := lw_ofs 891 (by decide +kernel) rfl
set_option maxRecDepth 100000 in
theorem k_892 : Cond.selects RX10 yX10_frail yX10_frail ∈ lw_tg := lw_ofs 892 (by decide +kernel) rfl
set_option maxRecDepth 100000 in
theorem k_893 : Cond.code yX10_frail cX10_frail 4 (some .int) ∈ lw_tg := lw_ofs 893 rfl rfl
set_option maxRecDepth 100000 in
theorem k_894 : Cond.methodLink RX10 199 yX10_frailest ∈ lw_tg := lw_ofs 894 (by decide +kernel) rfl
set_option maxRecDepth 100000 in
theorem k_896 : Cond.instanceMethod yX10_frailest ∈ lw_tg := lw_ofs 896 (by decide +kernel) rfl
set_option maxRecDepth 100000 in
theorem k_897 : Cond.code yX10_frailest cX10_frailest 5 (some .int) ∈ lw_tg := lw_ofs 897 rfl rfl
set_option maxRecDepth 100000 in
theorem k_898 : Cond.methodLink RX10 193 yX10_all ∈ lw_tg := lw_ofs 898 (by decide +kernel) rfl
set_option maxRecDepth 100000 in
theorem k_900 : Cond.instanceMethod yX10_all ∈ lw_tg := lw_ofs 900 (by decide +kernel) rfl
set_option maxRecDepth 100000 in
theorem k_901 : Cond.code yX10_all cX10_all 1 (some .int) ∈ lw_tg := lw_ofs 901 rfl rfl
set_option maxRecDepth 100000 in
theorem k_902 : Cond.methodLink RX10 187 yX10_bits ∈ lw_tg := lw_ofs 902 (by decide +kernel) rfl
set_option maxRecDepth 100000 in
theorem k_903 : Cond.static yX10_bits ∈ lw_tg := lw_ofs 903 (by decide +kernel) rfl
set_option maxRecDepth 100000 in
theorem k_904 : Cond.code yX10_bits cX10_bits 3 (some .int) ∈ lw_tg := lw_ofs 904 rfl rfl
set_option maxRecDepth 100000 in
theorem k_905 : Cond.methodLink RX10 196 yX10_undoneBy ∈ lw_tg := lw_ofs 905 (by decide +kernel) rfl
set_option maxRecDepth 100000 in
theorem k_907 : Cond.instanceMethod yX10_undoneBy ∈ lw_tg := lw_ofs 907 (by decide +kernel) rfl
set_option maxRecDepth 100000 in
theorem k_908 : Cond.code yX10_undoneBy cX10_undoneBy 2 (some .int) ∈ lw_tg := lw_ofs 908 rfl rfl
set_option maxRecDepth 100000 in
theorem k_909 : Cond.methodLink RX10 184 yX10_goFirst ∈ lw_tg := lw_ofs 909 (by decide +kernel) rfl
set_option maxRecDepth 100000 in
theorem k_911 : Cond.instanceMethod yX10_goFirst ∈ lw_tg := lw_ofs 911 (by decide +kernel) rfl
set_option maxRecDepth 100000 in
theorem k_912 : Cond.code yX10_goFirst cX10_goFirst 2 none ∈ lw_tg := lw_ofs 912 rfl rfl
set_option maxRecDepth 100000 in
theorem k_913 : Cond.methodLink RL 69 yX10_plot ∈ lw_tg := lw_ofs 913 (by decide +kernel) rfl
set_option maxRecDepth 100000 in
theorem k_914 : Cond.instanceMethod yX10_plot ∈ lw_tg := lw_ofs 914 (by decide +kernel) rfl
set_option maxRecDepth 100000 in
theorem k_915 : Cond.selects RX10 yX10_plot yX10_plot ∈ lw_tg := lw_ofs 915 (by decide +kernel) rfl
set_option maxRecDepth 100000 in
theorem k_916 : Cond.code yX10_plot cX10_plot 4 (some .int) ∈ lw_tg := lw_ofs 916 rfl rfl
set_option maxRecDepth 100000 in
theorem k_917 : Cond.methodLink RL 73 yX10_mend ∈ lw_tg := lw_ofs 917 (by decide +kernel) rfl
set_option maxRecDepth 100000 in
theorem k_918 : Cond.instanceMethod yX10_mend ∈ lw_tg := lw_ofs 918 (by decide +kernel) rfl
set_option maxRecDepth 100000 in
theorem k_919 : Cond.selects RX10 yX10_mend yX10_mend ∈ lw_tg := lw_ofs 919 (by decide +kernel) rfl
set_option maxRecDepth 100000 in
theorem k_920 : Cond.code yX10_mend cX10_mend 7 (some .int) ∈ lw_tg := lw_ofs 920 rfl rfl
set_option maxRecDepth 100000 in
theorem k_921 : Cond.methodLink RL 77 yX10_wave ∈ lw_tg := lw_ofs 921 (by decide +kernel) rfl
set_option maxRecDepth 100000 in
theorem k_922 : Cond.instanceMethod yX10_wave ∈ lw_tg := lw_ofs 922 (by decide +kernel) rfl
set_option maxRecDepth 100000 in
theorem k_923 : Cond.selects RX10 yX10_wave yX10_wave ∈ lw_tg := lw_ofs 923 (by decide +kernel) rfl
set_option maxRecDepth 100000 in
theorem k_924 : Cond.code yX10_wave cX10_wave 4 (some .int) ∈ lw_tg := lw_ofs 924 rfl rfl
set_option maxRecDepth 100000 in
theorem k_925 : Cond.methodLink RL 81 yX10_roster ∈ lw_tg := lw_ofs 925 (by decide +kernel) rfl
set_option maxRecDepth 100000 in
theorem k_926 : Cond.instanceMethod yX10_roster ∈ lw_tg := lw_ofs 926 (by decide +kernel) rfl
set_option maxRecDepth 100000 in
theorem k_927 : Cond.selects RX10 yX10_roster yX10_roster ∈ lw_tg := lw_ofs 927 (by decide +kernel) rfl
set_option maxRecDepth 100000 in
theorem k_928 : Cond.code yX10_roster cX10_roster 8 (some .int) ∈ lw_tg := lw_ofs 928 rfl rfl
set_option maxRecDepth 100000 in
theorem k_929 : Cond.methodLink RL 85 yX10_reading ∈ lw_tg := lw_ofs 929 (by decide +kernel) rfl
set_option maxRecDepth 100000 in
theorem k_930 : Cond.instanceMethod yX10_reading ∈ lw_tg := lw_ofs 930 (by decide +kernel) rfl
set_option maxRecDepth 100000 in
theorem k_931 : Cond.selects RX10 yX10_reading yX10_reading ∈ lw_tg := lw_ofs 931 (by decide +kernel) rfl
set_option maxRecDepth 100000 in
theorem k_932 : Cond.code yX10_reading cX10_reading 3 (some .int) ∈ lw_tg := lw_ofs 932 rfl rfl
set_option maxRecDepth 100000 in
theorem k_933 : Cond.methodLink RL 89 yX10_back ∈ lw_tg := lw_ofs 933 (by decide +kernel) rfl
set_option maxRecDepth 100000 in
theorem k_934 : Cond.instanceMethod yX10_back ∈ lw_tg := lw_ofs 934 (by decide +kernel) rfl
set_option maxRecDepth 100000 in
theorem k_935 : Cond.selects RX10 yX10_back yX10_back ∈ lw_tg := lw_ofs 935 (by decide +kernel) rfl
set_option maxRecDepth 100000 in
theorem k_936 : Cond.code yX10_back cX10_back 2 (some .int) ∈ lw_tg := lw_ofs 936 rfl rfl
set_option maxRecDepth 100000 in
theorem k_937 : Cond.methodLink RL 93 yX10_failed ∈ lw_tg := lw_ofs 937 (by decide +kernel) rfl
set_option maxRecDepth 100000 in
theorem k_938 : Cond.instanceMethod yX10_failed ∈ lw_tg := lw_ofs 938 (by decide +kernel) rfl
set_option maxRecDepth 100000 in
theorem k_939 : Cond.selects RX10 yX10_failed yX10_failed ∈ lw_tg := lw_ofs 939 (by decide +kernel) rfl
set_option maxRecDepth 100000 in
theorem k_940 : Cond.code yX10_failed cX10_failed 6 (some .int) ∈ lw_tg := lw_ofs 940 rfl rfl
set_option maxRecDepth 100000 in
theorem k_941 : Cond.methodLink RX10 202 yX10_areSo ∈ lw_tg := lw_ofs 941 (by decide +kernel) rfl
set_option maxRecDepth 100000 in
theorem k_943 : Cond.instanceMethod yX10_areSo ∈ lw_tg := lw_ofs 943 (by decide +kernel) rfl
set_option maxRecDepth 100000 in
theorem k_944 : Cond.code yX10_areSo cX10_areSo 4 (some .boolean) ∈ lw_tg := lw_ofs 944 rfl rfl
set_option maxRecDepth 100000 in
theorem k_945 : Cond.methodLink RL 97 yX10_laws ∈ lw_tg := lw_ofs 945 (by decide +kernel) rfl
set_option maxRecDepth 100000 in
theorem k_946 : Cond.instanceMethod yX10_laws ∈ lw_tg := lw_ofs 946 (by decide +kernel) rfl
set_option maxRecDepth 100000 in
theorem k_947 : Cond.selects RX10 yX10_laws yX10_laws ∈ lw_tg := lw_ofs 947 (by decide +kernel) rfl
set_option maxRecDepth 100000 in
theorem k_948 : Cond.code yX10_laws cX10_laws 4 (some .int) ∈ lw_tg := lw_ofs 948 rfl rfl
set_option maxRecDepth 100000 in
theorem k_949 : Cond.methodLink RL 102 yX10_odds ∈ lw_tg := lw_ofs 949 (by decide +kernel) rfl
set_option maxRecDepth 100000 in
theorem k_950 : Cond.instanceMethod yX10_odds ∈ lw_tg := lw_ofs 950 (by decide +kernel) rfl
set_option maxRecDepth 100000 in
theorem k_951 : Cond.selects RX10 yX10_odds yX10_odds ∈ lw_tg := lw_ofs 951 (by decide +kernel) rfl
set_option maxRecDepth 100000 in
theorem k_952 : Cond.code yX10_odds cX10_odds 6 (some .long) ∈ lw_tg := lw_ofs 952 rfl rfl
set_option maxRecDepth 100000 in
theorem k_953 : Cond.methodLink RX10 76 yX10_lost ∈ lw_tg := lw_ofs 953 (by decide +kernel) rfl
set_option maxRecDepth 100000 in
theorem k_954 : Cond.static yX10_lost ∈ lw_tg := lw_ofs 954 (by decide +kernel) rfl
set_option maxRecDepth 100000 in
theorem k_955 : Cond.code yX10_lost cX10_lost 0 (some .long) ∈ lw_tg := lw_ofs 955 rfl rfl
set_option maxRecDepth 100000 in
theorem k_956 : Cond.constantLong RX10 70 (-9223372036854775808) ∈ lw_tg := lw_ofs 956 (by decide +kernel) rfl
set_option maxRecDepth 100000 in
theorem k_957 : Cond.methodLink RX10 205 yX10_told ∈ lw_tg := lw_ofs 957 (by decide +kernel) rfl
set_option maxRecDepth 100000 in
theorem k_958 : Cond.static yX10_told ∈ lw_tg := lw_ofs 958 (by decide +kernel) rfl
set_option maxRecDepth 100000 in
theorem k_959 : Cond.code yX10_told cX10_told 11 (some .long) ∈ lw_tg := lw_ofs 959 rfl rfl
set_option maxRecDepth 100000 in
theorem k_960 : Cond.methodLink RL 106 yX10_sheet ∈ lw_tg := lw_ofs 960 (by decide +kernel) rfl
set_option maxRecDepth 100000 in
theorem k_961 : Cond.instanceMethod yX10_sheet ∈ lw_tg := lw_ofs 961 (by decide +kernel) rfl
set_option maxRecDepth 100000 in
theorem k_962 : Cond.selects RX10 yX10_sheet yX10_sheet ∈ lw_tg := lw_ofs 962 (by decide +kernel) rfl
set_option maxRecDepth 100000 in
theorem k_963 : Cond.code yX10_sheet cX10_sheet 5 (some .int) ∈ lw_tg := lw_ofs 963 rfl rfl
set_option maxRecDepth 100000 in
theorem k_964 : Cond.methodLink RL 110 yX10_lose ∈ lw_tg := lw_ofs 964 (by decide +kernel) rfl
set_option maxRecDepth 100000 in
theorem k_965 : Cond.instanceMethod yX10_lose ∈ lw_tg := lw_ofs 965 (by decide +kernel) rfl
set_option maxRecDepth 100000 in
theorem k_966 : Cond.selects RX10 yX10_lose yX10_lose ∈ lw_tg := lw_ofs 966 (by decide +kernel) rfl
set_option maxRecDepth 100000 in
theorem k_967 : Cond.code yX10_lose cX10_lose 3 (some .int) ∈ lw_tg := lw_ofs 967 rfl rfl
set_option maxRecDepth 100000 in
theorem k_968 : Cond.methodLink RL 114 yX10_put ∈ lw_tg := lw_ofs 968 (by decide +kernel) rfl
set_option maxRecDepth 100000 in
theorem k_969 : Cond.instanceMethod yX10_put ∈ lw_tg := lw_ofs 969 (by decide +kernel) rfl
set_option maxRecDepth 100000 in
theorem k_970 : Cond.selects RX10 yX10_put yX10_put ∈ lw_tg := lw_ofs 970 (by decide +kernel) rfl
set_option maxRecDepth 100000 in
theorem k_971 : Cond.code yX10_put cX10_put 4 (some .int) ∈ lw_tg := lw_ofs 971 rfl rfl
set_option maxRecDepth 100000 in
theorem k_972 : Cond.methodLink RX10 211 yX10_noCell ∈ lw_tg := lw_ofs 972 (by decide +kernel) rfl
set_option maxRecDepth 100000 in
theorem k_974 : Cond.instanceMethod yX10_noCell ∈ lw_tg := lw_ofs 974 (by decide +kernel) rfl
set_option maxRecDepth 100000 in
theorem k_975 : Cond.code yX10_noCell cX10_noCell 3 (some .int) ∈ lw_tg := lw_ofs 975 rfl rfl
set_option maxRecDepth 100000 in
theorem k_976 : Cond.methodLink RL 119 yX10_cell ∈ lw_tg := lw_ofs 976 (by decide +kernel) rfl
set_option maxRecDepth 100000 in
theorem k_977 : Cond.instanceMethod yX10_cell ∈ lw_tg := lw_ofs 977 (by decide +kernel) rfl
set_option maxRecDepth 100000 in
theorem k_978 : Cond.selects RX10 yX10_cell yX10_cell ∈ lw_tg := lw_ofs 978 (by decide +kernel) rfl
set_option maxRecDepth 100000 in
theorem k_979 : Cond.code yX10_cell cX10_cell 4 (some .long) ∈ lw_tg := lw_ofs 979 rfl rfl
set_option maxRecDepth 100000 in
theorem k_980 : Cond.methodLink RX10 214 yX10_faultedLong ∈ lw_tg := lw_ofs 980 (by decide +kernel) rfl
set_option maxRecDepth 100000 in
theorem k_982 : Cond.instanceMethod yX10_faultedLong ∈ lw_tg := lw_ofs 982 (by decide +kernel) rfl
set_option maxRecDepth 100000 in
theorem k_983 : Cond.code yX10_faultedLong cX10_faultedLong 2 (some .long) ∈ lw_tg := lw_ofs 983 rfl rfl
set_option maxRecDepth 100000 in
theorem k_984 : Cond.methodLink RL 124 yX10_copy ∈ lw_tg := lw_ofs 984 (by decide +kernel) rfl
set_option maxRecDepth 100000 in
theorem k_985 : Cond.instanceMethod yX10_copy ∈ lw_tg := lw_ofs 985 (by decide +kernel) rfl
set_option maxRecDepth 100000 in
theorem k_986 : Cond.selects RX10 yX10_copy yX10_copy ∈ lw_tg := lw_ofs 986 (by decide +kernel) rfl
set_option maxRecDepth 100000 in
theorem k_987 : Cond.code yX10_copy cX10_copy 7 (some .int) ∈ lw_tg := lw_ofs 987 rfl rfl
set_option maxRecDepth 100000 in
theorem k_988 : Cond.methodLink RL 128 yX10_tell ∈ lw_tg := lw_ofs 988 (by decide +kernel) rfl
set_option maxRecDepth 100000 in
theorem k_989 : Cond.instanceMethod yX10_tell ∈ lw_tg := lw_ofs 989 (by decide +kernel) rfl
set_option maxRecDepth 100000 in
theorem k_990 : Cond.selects RX10 yX10_tell yX10_tell ∈ lw_tg := lw_ofs 990 (by decide +kernel) rfl
set_option maxRecDepth 100000 in
theorem k_991 : Cond.code yX10_tell cX10_tell 4 (some .int) ∈ lw_tg := lw_ofs 991 rfl rfl
set_option maxRecDepth 100000 in
theorem k_992 : Cond.methodLink RX10 221 yX10_traced ∈ lw_tg := lw_ofs 992 (by decide +kernel) rfl
set_option maxRecDepth 100000 in
theorem k_994 : Cond.instanceMethod yX10_traced ∈ lw_tg := lw_ofs 994 (by decide +kernel) rfl
set_option maxRecDepth 100000 in
theorem k_995 : Cond.code yX10_traced cX10_traced 2 none ∈ lw_tg := lw_ofs 995 rfl rfl
set_option maxRecDepth 100000 in
theorem k_996 : Cond.methodLink RL 132 yX10_call ∈ lw_tg := lw_ofs 996 (by decide +kernel) rfl
set_option maxRecDepth 100000 in
theorem k_997 : Cond.instanceMethod yX10_call ∈ lw_tg := lw_ofs 997 (by decide +kernel) rfl
set_option maxRecDepth 100000 in
theorem k_998 : Cond.selects RX10 yX10_call yX10_call ∈ lw_tg := lw_ofs 998 (by decide +kernel) rfl
set_option maxRecDepth 100000 in
theorem k_999 : Cond.code yX10_call cX10_call 2 (some .int) ∈ lw_tg := lw_ofs 999 rfl rfl
set_option maxRecDepth 100000 in
theorem k_1000 : Cond.methodLink RL 136 yX10_as ∈ lw_tg := lw_ofs 1000 (by decide +kernel) rfl
set_option maxRecDepth 100000 in
theorem k_1001 : Cond.instanceMethod yX10_as ∈ lw_tg := lw_ofs 1001 (by decide +kernel) rfl
set_option maxRecDepth 100000 in
theorem k_1002 : Cond.selects RX10 yX10_as yX10_as ∈ lw_tg := lw_ofs 1002 (by decide +kernel) rfl
set_option maxRecDepth 100000 in
theorem k_1003 : Cond.code yX10_as cX10_as 3 (some .int) ∈ lw_tg := lw_ofs 1003 rfl rfl
set_option maxRecDepth 100000 in
theorem k_1004 : Cond.methodLink RL 140 yX10_trace ∈ lw_tg := lw_ofs 1004 (by decide +kernel) rfl
set_option maxRecDepth 100000 in
theorem k_1005 : Cond.instanceMethod yX10_trace ∈ lw_tg := lw_ofs 1005 (by decide +kernel) rfl
set_option maxRecDepth 100000 in
theorem k_1006 : Cond.selects RX10 yX10_trace yX10_trace ∈ lw_tg := lw_ofs 1006 (by decide +kernel) rfl
set_option maxRecDepth 100000 in
theorem k_1007 : Cond.code yX10_trace cX10_trace 1 (some .int) ∈ lw_tg := lw_ofs 1007 rfl rfl
set_option maxRecDepth 100000 in
theorem k_1008 : Cond.methodLink RL 144 yX10_fault ∈ lw_tg := lw_ofs 1008 (by decide +kernel) rfl
set_option maxRecDepth 100000 in
theorem k_1009 : Cond.instanceMethod yX10_fault ∈ lw_tg := lw_ofs 1009 (by decide +kernel) rfl
set_option maxRecDepth 100000 in
theorem k_1010 : Cond.selects RX10 yX10_fault yX10_fault ∈ lw_tg := lw_ofs 1010 (by decide +kernel) rfl
set_option maxRecDepth 100000 in
theorem k_1011 : Cond.code yX10_fault cX10_fault 1 (some .int) ∈ lw_tg := lw_ofs 1011 rfl rfl
set_option maxRecDepth 100000 in
theorem k_1012 : Cond.methodLink RL 148 yX10_many ∈ lw_tg := lw_ofs 1012 (by decide +kernel) rfl
set_option maxRecDepth 100000 in
theorem k_1013 : Cond.instanceMethod yX10_many ∈ lw_tg := lw_ofs 1013 (by decide +kernel) rfl
set_option maxRecDepth 100000 in
theorem k_1014 : Cond.selects RX10 yX10_many yX10_many ∈ lw_tg := lw_ofs 1014 (by decide +kernel) rfl
set_option maxRecDepth 100000 in
theorem k_1015 : Cond.code yX10_many cX10_many 2 (some .int) ∈ lw_tg := lw_ofs 1015 rfl rfl
set_option maxRecDepth 100000 in
theorem k_0 : Cond.selects RX9 yX9_sheetAt yX9_sheetAt ∈ lw_tg := lw_ofs 0 (by decide +kernel) rfl
set_option maxRecDepth 100000 in
theorem k_1 : Cond.selects RX9 yX9_cameTo yX9_cameTo ∈ lw_tg := lw_ofs 1 (by decide +kernel) rfl
set_option maxRecDepth 100000 in
theorem k_2 : Cond.selects RX3 yX3_standInFor yX3_standInFor ∈ lw_tg := lw_ofs 2 (by decide +kernel) rfl
set_option maxRecDepth 100000 in
theorem k_3 : Cond.selects RX3 yX3_may yX3_may ∈ lw_tg := lw_ofs 3 (by decide +kernel) rfl
set_option maxRecDepth 100000 in
theorem k_4 : Cond.selects RX3 yX3_isPreferred yX3_isPreferred ∈ lw_tg := lw_ofs 4 (by decide +kernel) rfl
set_option maxRecDepth 100000 in
theorem k_5 : Cond.selects RX9 yX9_refusalOf yX9_refusalOf ∈ lw_tg := lw_ofs 5 (by decide +kernel) rfl
set_option maxRecDepth 100000 in
theorem k_6 : Cond.selects RX8 yX8_keepMend yX8_keepMend ∈ lw_tg := lw_ofs 6 (by decide +kernel) rfl
set_option maxRecDepth 100000 in
theorem k_7 : Cond.selects RX9 yX9_namesThings yX9_namesThings ∈ lw_tg := lw_ofs 7 (by decide +kernel) rfl
set_option maxRecDepth 100000 in
theorem k_8 : Cond.selects RX9 yX9_firstUnlike yX9_firstUnlike ∈ lw_tg := lw_ofs 8 (by decide +kernel) rfl
set_option maxRecDepth 100000 in
theorem k_9 : Cond.selects RX4 yX4_cutToLane yX4_cutToLane ∈ lw_tg := lw_ofs 9 (by decide +kernel) rfl
set_option maxRecDepth 100000 in
theorem k_10 : Cond.selects RX0 yX0_mayorTells yX0_mayorTells ∈ lw_tg := lw_ofs 10 (by decide +kernel) rfl
set_option maxRecDepth 100000 in
theorem k_11 : Cond.selects RX0 yX0_leave yX0_leave ∈ lw_tg := lw_ofs 11 (by decide +kernel) rfl
set_option maxRecDepth 100000 in
theorem k_12 : Cond.selects RX0 yX0_swornTells yX0_swornTells ∈ lw_tg := lw_ofs 12 (by decide +kernel) rfl
set_option maxRecDepth 100000 in
theorem k_13 : Cond.selects RX0 yX0_thingTells yX0_thingTells ∈ lw_tg := lw_ofs 13 (by decide +kernel) rfl
set_option maxRecDepth 100000 in
theorem k_14 : Cond.selects RX0 yX0_mayorRings yX0_mayorRings ∈ lw_tg := lw_ofs 14 (by decide +kernel) rfl
set_option maxRecDepth 100000 in
theorem k_15 : Cond.selects RX0 yX0_lentRings yX0_lentRings ∈ lw_tg := lw_ofs 15 (by decide +kernel) rfl
set_option maxRecDepth 100000 in
theorem k_16 : Cond.selects RX10 yX10_refused yX10_refused ∈ lw_tg := lw_ofs 16 (by decide +kernel) rfl
set_option maxRecDepth 100000 in
theorem k_17 : Cond.selects RX10 yX10_cellsBarred yX10_cellsBarred ∈ lw_tg := lw_ofs 17 (by decide +kernel) rfl
set_option maxRecDepth 100000 in
theorem k_18 : Cond.selects RX10 yX10_faulted yX10_faulted ∈ lw_tg := lw_ofs 18 (by decide +kernel) rfl
set_option maxRecDepth 100000 in
theorem k_19 : Cond.selects RX10 yX10_readsTown yX10_readsTown ∈ lw_tg := lw_ofs 19 (by decide +kernel) rfl
set_option maxRecDepth 100000 in
theorem k_20 : Cond.selects RX10 yX10_codeAt yX10_codeAt ∈ lw_tg := lw_ofs 20 (by decide +kernel) rfl
set_option maxRecDepth 100000 in
theorem k_21 : Cond.selects RX10 yX10_readsThing yX10_readsThing ∈ lw_tg := lw_ofs 21 (by decide +kernel) rfl
set_option maxRecDepth 100000 in
theorem k_22 : Cond.selects RX10 yX10_figure yX10_figure ∈ lw_tg := lw_ofs 22 (by decide +kernel) rfl
set_option maxRecDepth 100000 in
theorem k_23 : Cond.selects RX10 yX10_noThing yX10_noThing ∈ lw_tg := lw_ofs 23 (by decide +kernel) rfl
set_option maxRecDepth 100000 in
theorem k_24 : Cond.selects RX10 yX10_goodOf yX10_goodOf ∈ lw_tg := lw_ofs 24 (by decide +kernel) rfl
set_option maxRecDepth 100000 in
theorem k_25 : Cond.selects RX10 yX10_goTo yX10_goTo ∈ lw_tg := lw_ofs 25 (by decide +kernel) rfl
set_option maxRecDepth 100000 in
theorem k_26 : Cond.selects RX10 yX10_beginHours yX10_beginHours ∈ lw_tg := lw_ofs 26 (by decide +kernel) rfl
set_option maxRecDepth 100000 in
theorem k_27 : Cond.selects RX10 yX10_brokenIn yX10_brokenIn ∈ lw_tg := lw_ofs 27 (by decide +kernel) rfl
set_option maxRecDepth 100000 in
theorem k_28 : Cond.selects RX10 yX10_goHour yX10_goHour ∈ lw_tg := lw_ofs 28 (by decide +kernel) rfl
set_option maxRecDepth 100000 in
theorem k_29 : Cond.selects RX10 yX10_standsFor yX10_standsFor ∈ lw_tg := lw_ofs 29 (by decide +kernel) rfl
set_option maxRecDepth 100000 in
theorem k_30 : Cond.selects RX10 yX10_isTired yX10_isTired ∈ lw_tg := lw_ofs 30 (by decide +kernel) rfl
set_option maxRecDepth 100000 in
theorem k_31 : Cond.selects RX10 yX10_standsAhead yX10_standsAhead ∈ lw_tg := lw_ofs 31 (by decide +kernel) rfl
set_option maxRecDepth 100000 in
theorem k_32 : Cond.selects RX10 yX10_refusedFor yX10_refusedFor ∈ lw_tg := lw_ofs 32 (by decide +kernel) rfl
set_option maxRecDepth 100000 in
theorem k_33 : Cond.selects RX10 yX10_undoneNow yX10_undoneNow ∈ lw_tg := lw_ofs 33 (by decide +kernel) rfl
set_option maxRecDepth 100000 in
theorem k_34 : Cond.selects RX10 yX10_servesNow yX10_servesNow ∈ lw_tg := lw_ofs 34 (by decide +kernel) rfl
set_option maxRecDepth 100000 in
theorem k_35 : Cond.selects RX10 yX10_frailest yX10_frailest ∈ lw_tg := lw_ofs 35 (by decide +kernel) rfl
set_option maxRecDepth 100000 in
theorem k_36 : Cond.selects RX10 yX10_all yX10_all ∈ lw_tg := lw_ofs 36 (by decide +kernel) rfl
set_option maxRecDepth 100000 in
theorem k_37 : Cond.selects RX10 yX10_undoneBy yX10_undoneBy ∈ lw_tg := lw_ofs 37 (by decide +kernel) rfl
set_option maxRecDepth 100000 in
theorem k_38 : Cond.selects RX10 yX10_goFirst yX10_goFirst ∈ lw_tg := lw_ofs 38 (by decide +kernel) rfl
set_option maxRecDepth 100000 in
theorem k_39 : Cond.selects RX10 yX10_areSo yX10_areSo ∈ lw_tg := lw_ofs 39 (by decide +kernel) rfl
set_option maxRecDepth 100000 in
theorem k_40 : Cond.selects RX10 yX10_noCell yX10_noCell ∈ lw_tg := lw_ofs 40 (by decide +kernel) rfl
set_option maxRecDepth 100000 in
theorem k_41 : Cond.selects RX10 yX10_faultedLong yX10_faultedLong ∈ lw_tg := lw_ofs 41 (by decide +kernel) rfl
set_option maxRecDepth 100000 in
theorem k_42 : Cond.selects RX10 yX10_traced yX10_traced ∈ lw_tg := lw_ofs 42 (by decide +kernel) rfl
end
section
theorem inX0 : ∀ w ∈ u_ws RX0 TX0 1, w ∈ lw_tg := List.forall_mem_cons.mpr ⟨k_237, fun _ h => absurd h List.not_mem_nil⟩
theorem inX1 : ∀ w ∈ u_ws RX1 TX1 4, w ∈ lw_tg := List.forall_mem_cons.mpr ⟨k_142, List.forall_mem_cons.mpr ⟨k_144, List.forall_mem_cons.mpr ⟨k_146, List.forall_mem_cons.mpr ⟨k_148, fun _ h => absurd h List.not_mem_nil⟩⟩⟩⟩
theorem inX2 : ∀ w ∈ u_ws RX2 TX2 3, w ∈ lw_tg := List.forall_mem_cons.mpr ⟨k_162, List.forall_mem_cons.mpr ⟨k_164, List.forall_mem_cons.mpr ⟨k_166, fun _ h => absurd h List.not_mem_nil⟩⟩⟩
theorem inX3 : ∀ w ∈ u_ws RX3 TX3 4, w ∈ lw_tg := List.forall_mem_cons.mpr ⟨k_179, List.forall_mem_cons.mpr ⟨k_181, List.forall_mem_cons.mpr ⟨k_183, List.forall_mem_cons.mpr ⟨k_185, fun _ h => absurd h List.not_mem_nil⟩⟩⟩⟩
theorem inX4 : ∀ w ∈ u_ws RX4 TX4 4, w ∈ lw_tg := List.forall_mem_cons.mpr ⟨k_252, List.forall_mem_cons.mpr ⟨k_254, List.forall_mem_cons.mpr ⟨k_256, List.forall_mem_cons.mpr ⟨k_258, fun _ h => absurd h List.not_mem_nil⟩⟩⟩⟩
theorem inX6 : ∀ w ∈ u_ws RX6 TX6 6, w ∈ lw_tg := List.forall_mem_cons.mpr ⟨k_102, List.forall_mem_cons.mpr ⟨k_104, List.forall_mem_cons.mpr ⟨k_106, List.forall_mem_cons.mpr ⟨k_108, List.forall_mem_cons.mpr ⟨k_110, List.forall_mem_cons.mpr ⟨k_112, fun _ h => absurd h List.not_mem_nil⟩⟩⟩⟩⟩⟩
theorem inX7 : ∀ w ∈ u_ws RX7 TX7 3, w ∈ lw_tg := List.forall_mem_cons.mpr ⟨k_124, List.forall_mem_cons.mpr ⟨k_126, List.forall_mem_cons.mpr ⟨k_128, fun _ h => absurd h List.not_mem_nil⟩⟩⟩
theorem inX8 : ∀ w ∈ u_ws RX8 TX8 9, w ∈ lw_tg := List.forall_mem_cons.mpr ⟨k_210, List.forall_mem_cons.mpr ⟨k_212, List.forall_mem_cons.mpr ⟨k_214, List.forall_mem_cons.mpr ⟨k_216, List.forall_mem_cons.mpr ⟨k_218, List.forall_mem_cons.mpr ⟨k_220, List.forall_mem_cons.mpr ⟨k_222, List.forall_mem_cons.mpr ⟨k_224, List.forall_mem_cons.mpr ⟨k_226, fun _ h => absurd h List.not_mem_nil⟩⟩⟩⟩⟩⟩⟩⟩⟩
theorem inX9 : ∀ w ∈ u_ws RX9 TX9 8, w ∈ lw_tg := List.forall_mem_cons.mpr ⟨k_269, List.forall_mem_cons.mpr ⟨k_271, List.forall_mem_cons.mpr ⟨k_273, List.forall_mem_cons.mpr ⟨k_275, List.forall_mem_cons.mpr ⟨k_277, List.forall_mem_cons.mpr ⟨k_279, List.forall_mem_cons.mpr ⟨k_281, List.forall_mem_cons.mpr ⟨k_283, fun _ h => absurd h List.not_mem_nil⟩⟩⟩⟩⟩⟩⟩⟩
theorem inX10 : ∀ w ∈ u_ws RX10 TX10 29, w ∈ lw_tg := List.forall_mem_cons.mpr ⟨k_693, List.forall_mem_cons.mpr ⟨k_695, List.forall_mem_cons.mpr ⟨k_697, List.forall_mem_cons.mpr ⟨k_699, List.forall_mem_cons.mpr ⟨k_701, List.forall_mem_cons.mpr ⟨k_703, List.forall_mem_cons.mpr ⟨k_705, List.forall_mem_cons.mpr ⟨k_707, List.forall_mem_cons.mpr ⟨k_709, List.forall_mem_cons.mpr ⟨k_711, List.forall_mem_cons.mpr ⟨k_713, List.forall_mem_cons.mpr ⟨k_715, List.forall_mem_cons.mpr ⟨k_717, List.forall_mem_cons.mpr ⟨k_719, List.forall_mem_cons.mpr ⟨k_721, List.forall_mem_cons.mpr ⟨k_723, List.forall_mem_cons.mpr ⟨k_725, List.forall_mem_cons.mpr ⟨k_727, List.forall_mem_cons.mpr ⟨k_729, List.forall_mem_cons.mpr ⟨k_731, List.forall_mem_cons.mpr ⟨k_733, List.forall_mem_cons.mpr ⟨k_735, List.forall_mem_cons.mpr ⟨k_737, List.forall_mem_cons.mpr ⟨k_739, List.forall_mem_cons.mpr ⟨k_741, List.forall_mem_cons.mpr ⟨k_743, List.forall_mem_cons.mpr ⟨k_745, List.forall_mem_cons.mpr ⟨k_747, List.forall_mem_cons.mpr ⟨k_749, fun _ h => absurd h List.not_mem_nil⟩⟩⟩⟩⟩⟩⟩⟩⟩⟩⟩⟩⟩⟩⟩⟩⟩⟩⟩⟩⟩⟩⟩⟩⟩⟩⟩⟩⟩
def WX (ad : Nat → Nat) (cs : Nat → ClassId) (σ : Sg) : va_W := [(ad 0, .inr (8, [.ref (ad 1), .ref (ad 2), .ref (ad 12), .ref (ad 16), .ref (ad 19), .ref (ad 22), .ref (ad 23), .int (σ 0 7)])), (ad 1, .inl (cs 1, 4, .inr (.inr (.inr (.inr (fun j => some (ad (24 + j)))))))), (ad 2, .inr (6, [.ref (ad 3), .int (σ 2 1), .int (σ 2 2)])), (ad 3, .inl (cs 2, 8, .inr (.inr (.inr (.inr (fun j => some (ad (4 + j)))))))), (ad 4, .inr (5, [.int (nI 0), .int (σ 4 1), .int (σ 4 2), .int (σ 4 3), .int (σ 4 4), .int (σ 4 5)])), (ad 5, .inr (5, [.int (nI 1), .int (σ 5 1), .int (σ 5 2), .int (σ 5 3), .int (σ 5 4), .int (σ 5 5)])), (ad 6, .inr (5, [.int (nI 2), .int (σ 6 1), .int (σ 6 2), .int (σ 6 3), .int (σ 6 4), .int (σ 6 5)])), (ad 7, .inr (5, [.int (nI 3), .int (σ 7 1), .int (σ 7 2), .int (σ 7 3), .int (σ 7 4), .int (σ 7 5)])), (ad 8, .inr (5, [.int (nI 4), .int (σ 8 1), .int (σ 8 2), .int (σ 8 3), .int (σ 8 4), .int (σ 8 5)])), (ad 9, .inr (5, [.int (nI 5), .int (σ 9 1), .int (σ 9 2), .int (σ 9 3), .int (σ 9 4), .int (σ 9 5)])), (ad 10, .inr (5, [.int (nI 6), .int (σ 10 1), .int (σ 10 2), .int (σ 10 3), .int (σ 10 4), .int (σ 10 5)])), (ad 11, .inr (5, [.int (nI 7), .int (σ 11 1), .int (σ 11 2), .int (σ 11 3), .int (σ 11 4), .int (σ 11 5)])), (ad 12, .inr (1, [.ref (ad 13), .ref (ad 14), .ref (ad 15), .int (σ 12 3)])), (ad 13, .inl (cs 0, 8, .inl (σ 13))), (ad 14, .inl (cs 0, 8, .inl (σ 14))), (ad 15, .inl (cs 0, 8, .inl (σ 15))), (ad 16, .inr (2, [.ref (ad 17), .ref (ad 18), .int (σ 16 2)])), (ad 17, .inl (cs 0, 8, .inl (σ 17))), (ad 18, .inl (cs 0, 8, .inl (σ 18))), (ad 19, .inr (3, [.ref (ad 2), .ref (ad 20), .ref (ad 21), .int (σ 19 3)])), (ad 20, .inl (cs 0, 8, .inl (σ 20))), (ad 21, .inl (cs 0, 8, .inl (σ 21))), (ad 22, .inr (7, [.ref (ad 2), .ref (ad 19), .int (σ 22 2), .int (σ 22 3), .int (σ 22 4), .int (σ 22 5), .int (σ 22 6), .int (σ 22 7), .int (σ 22 8)])), (ad 23, .inr (0, [.int (σ 23 0)])), (ad 24, .inr (4, [.ref (ad 28), .int (σ 24 1), .int (σ 24 2), .int (σ 24 3)])), (ad 25, .inr (4, [.ref (ad 29), .int (σ 25 1), .int (σ 25 2), .int (σ 25 3)])), (ad 26, .inr (4, [.ref (ad 30), .int (σ 26 1), .int (σ 26 2), .int (σ 26 3)])), (ad 27, .inr (4, [.ref (ad 31), .int (σ 27 1), .int (σ 27 2), .int (σ 27 3)])), (ad 28, .inl (cs 0, 60, .inl (σ 28))), (ad 29, .inl (cs 0, 60, .inl (σ 29))), (ad 30, .inl (cs 0, 60, .inl (σ 30))), (ad 31, .inl (cs 0, 60, .inl (σ 31)))]
def TYX (cs : Nat → ClassId) : List (ClassId × FieldType) := [(cs 0, .int), (cs 1, .object "DeputyTown$Sheet"), (cs 2, .object "DeputyTown$Thing")]
def AX (ad : Nat → Nat) : Nat → Prop := fun q => ∃ o, o < 32 ∧ q = ad o
theorem wX_fst (ad : Nat → Nat) (cs : Nat → ClassId) (σ : Sg) : (WX ad cs σ).map (fun q => q.1) = (List.range 32).map ad := rfl
theorem wX_at {ad : Nat → Nat} {cs : Nat → ClassId} {σ : Sg} {k : Nat} {q : Nat × va_E} (h : (WX ad cs σ)[k]? = some q) : k < 32 ∧ q.1 = ad k := by
  have h1 : ((WX ad cs σ).map (fun q => q.1))[k]? = some q.1 := by rw [List.getElem?_map, h]; rfl
  rw [wX_fst, List.getElem?_map] at h1
  rcases Nat.lt_or_ge k 32 with hk | hk
  · rw [List.getElem?_range hk] at h1
    exact ⟨hk, (Option.some.inj h1).symm⟩
  · rw [List.getElem?_eq_none (by simpa using hk)] at h1
    cases h1
theorem dX {ad : Nat → Nat} {cs : Nat → ClassId} (hI : ∀ i j, i < 32 → j < 32 → ad i = ad j → i = j) : ∀ σ, va_D (AX ad) (WX ad cs σ) := fun σ => ⟨fun i j p q hp hq e => by
  obtain ⟨h1, e1⟩ := wX_at hp
  obtain ⟨h2, e2⟩ := wX_at hq
  exact hI i j h1 h2 (by rw [← e1, ← e2, e]), fun k q h => by
  obtain ⟨h1, e1⟩ := wX_at h
  exact ⟨k, h1, e1⟩⟩
def alX : Nat → Option Nat
  | 13 => some 8
  | 14 => some 8
  | 15 => some 8
  | 17 => some 8
  | 18 => some 8
  | 20 => some 8
  | 21 => some 8
  | 28 => some 60
  | 29 => some 60
  | 30 => some 60
  | 31 => some 60
  | _ => none
theorem arX {ad : Nat → Nat} {cs : Nat → ClassId} {σ : Sg} {o n : Nat} (h : alX o = some n) : (WX ad cs σ)[o]? = some (ad o, .inl (cs 0, n, .inl (σ o))) := by
  unfold alX at h
  split at h <;> cases h <;> rfl
theorem asX {ad : Nat → Nat} {cs : Nat → ClassId} {σ : Sg} {o n : Nat} (h : alX o = some n) (k : Nat) (v : Int32) : (WX ad cs σ).set o (ad o, .inl (cs 0, n, .inl (upd (σ o) k v))) = WX ad cs (st σ o k v) := by
  unfold alX at h
  split at h <;> cases h <;> rfl
def WM (ad : Nat → Nat) (cs : Nat → ClassId) (σ : Sg) : va_W := [(ad 0, .inr (9, [.int (σ 0 0), .int (σ 0 1), .ref (ad 1), .ref (ad 2), .ref (ad 3), .ref (ad 4), .int (σ 0 6), .int (σ 0 7), .int (σ 0 8), .ref (ad 5), .ref (ad 6), .ref (ad 7), .ref (ad 8), .int (σ 0 13), .ref (ad 9), .ref (ad 10), .ref (ad 11), .ref (ad 12), .ref (ad 13), .ref (ad 14), .int (σ 0 20), .int (σ 0 21), .ref (ad 15), .ref (ad 16), .ref (ad 17), .ref (ad 18), .ref (ad 19), .ref (ad 20), .int (σ 0 28)])), (ad 1, .inl (cs 0, 8, .inl (σ 1))), (ad 2, .inl (cs 0, 8, .inl (σ 2))), (ad 3, .inl (cs 0, 8, .inl (σ 3))), (ad 4, .inl (cs 0, 8, .inl (σ 4))), (ad 5, .inl (cs 0, 8, .inl (σ 5))), (ad 6, .inl (cs 0, 8, .inl (σ 6))), (ad 7, .inl (cs 0, 8, .inl (σ 7))), (ad 8, .inl (cs 0, 8, .inl (σ 8))), (ad 9, .inl (cs 0, 8, .inl (σ 9))), (ad 10, .inl (cs 0, 8, .inl (σ 10))), (ad 11, .inl (cs 0, 8, .inl (σ 11))), (ad 12, .inl (cs 0, 8, .inl (σ 12))), (ad 13, .inl (cs 0, 8, .inl (σ 13))), (ad 14, .inl (cs 0, 8, .inl (σ 14))), (ad 15, .inl (cs 0, 8, .inl (σ 15))), (ad 16, .inl (cs 0, 8, .inl (σ 16))), (ad 17, .inl (cs 0, 4, .inl (σ 17))), (ad 18, .inl (cs 0, 4, .inl (σ 18))), (ad 19, .inl (cs 0, 240, .inl (σ 19))), (ad 20, .inl (cs 0, 60, .inl (σ 20)))]
def TYM (cs : Nat → ClassId) : List (ClassId × FieldType) := [(cs 0, .int)]
def AM (ad : Nat → Nat) : Nat → Prop := fun q => ∃ o, o < 21 ∧ q = ad o
theorem wM_fst (ad : Nat → Nat) (cs : Nat → ClassId) (σ : Sg) : (WM ad cs σ).map (fun q => q.1) = (List.range 21).map ad := rfl
theorem wM_at {ad : Nat → Nat} {cs : Nat → ClassId} {σ : Sg} {k : Nat} {q : Nat × va_E} (h : (WM ad cs σ)[k]? = some q) : k < 21 ∧ q.1 = ad k := by
  have h1 : ((WM ad cs σ).map (fun q => q.1))[k]? = some q.1 := by rw [List.getElem?_map, h]; rfl
  rw [wM_fst, List.getElem?_map] at h1
  rcases Nat.lt_or_ge k 21 with hk | hk
  · rw [List.getElem?_range hk] at h1
    exact ⟨hk, (Option.some.inj h1).symm⟩
  · rw [List.getElem?_eq_none (by simpa using hk)] at h1
    cases h1
theorem dM {ad : Nat → Nat} {cs : Nat → ClassId} (hI : ∀ i j, i < 21 → j < 21 → ad i = ad j → i = j) : ∀ σ, va_D (AM ad) (WM ad cs σ) := fun σ => ⟨fun i j p q hp hq e => by
  obtain ⟨h1, e1⟩ := wM_at hp
  obtain ⟨h2, e2⟩ := wM_at hq
  exact hI i j h1 h2 (by rw [← e1, ← e2, e]), fun k q h => by
  obtain ⟨h1, e1⟩ := wM_at h
  exact ⟨k, h1, e1⟩⟩
def alM : Nat → Option Nat
  | 1 => some 8
  | 2 => some 8
  | 3 => some 8
  | 4 => some 8
  | 5 => some 8
  | 6 => some 8
  | 7 => some 8
  | 8 => some 8
  | 9 => some 8
  | 10 => some 8
  | 11 => some 8
  | 12 => some 8
  | 13 => some 8
  | 14 => some 8
  | 15 => some 8
  | 16 => some 8
  | 17 => some 4
  | 18 => some 4
  | 19 => some 240
  | 20 => some 60
  | _ => none
theorem arM {ad : Nat → Nat} {cs : Nat → ClassId} {σ : Sg} {o n : Nat} (h : alM o = some n) : (WM ad cs σ)[o]? = some (ad o, .inl (cs 0, n, .inl (σ o))) := by
  unfold alM at h
  split at h <;> cases h <;> rfl
theorem asM {ad : Nat → Nat} {cs : Nat → ClassId} {σ : Sg} {o n : Nat} (h : alM o = some n) (k : Nat) (v : Int32) : (WM ad cs σ).set o (ad o, .inl (cs 0, n, .inl (upd (σ o) k v))) = WM ad cs (st σ o k v) := by
  unfold alM at h
  split at h <;> cases h <;> rfl
theorem alX_c {t : Nat} (h : t < 4) : alX (28 + t) = some 60 := match t, h with
  | 0, _ => rfl
  | 1, _ => rfl
  | 2, _ => rfl
  | 3, _ => rfl
  | k + 4, h => absurd h (by omega)
theorem oX_X6 {ad : Nat → Nat} {cs : Nat → ClassId} {σ : Sg} {t : Nat} (h : t < 8) : (WX ad cs σ)[4 + t]? = some (ad (4 + t), .inr (5, [.int (nI t), .int (σ (4 + t) 1), .int (σ (4 + t) 2), .int (σ (4 + t) 3), .int (σ (4 + t) 4), .int (σ (4 + t) 5)])) := match t, h with
  | 0, _ => rfl
  | 1, _ => rfl
  | 2, _ => rfl
  | 3, _ => rfl
  | 4, _ => rfl
  | 5, _ => rfl
  | 6, _ => rfl
  | 7, _ => rfl
  | k + 8, h => absurd h (by omega)
theorem oX_X4 {ad : Nat → Nat} {cs : Nat → ClassId} {σ : Sg} {t : Nat} (h : t < 4) : (WX ad cs σ)[24 + t]? = some (ad (24 + t), .inr (4, [.ref (ad (28 + t)), .int (σ (24 + t) 1), .int (σ (24 + t) 2), .int (σ (24 + t) 3)])) := match t, h with
  | 0, _ => rfl
  | 1, _ => rfl
  | 2, _ => rfl
  | 3, _ => rfl
  | k + 4, h => absurd h (by omega)
section
variable {p : Program} {l : Launch} {e : Env} {R : Room} {s : State} {m : MethodId} {args : Array Value} {below : List Frame} {meth : Method} {c : Code} {cc : ByteArray} {nL : Nat} {own host : String} {D : va_G} {A : Nat → Prop} {H : Heap} {locs : List Loc} {Q : State → Prop} {pc idx : Nat} {ls : Array Slot} {rest : List Value} {σ : Sg} {ad : Nat → Nat} {cs : Nat → ClassId}
theorem gX9_0 (C : CX p m c cc nL s args own D (TYX cs) (WX ad cs) A) (hP : va_P D vwCl (WX ad cs σ) H) (hl : Cond.fieldLink own idx "DeputyTown" "sheets" "[LDeputyTown$Sheet;" ∈ lw_tg) (hd : decode cc pc = .ok (.getfield idx, 3)) (kk : W p l e R s m args below meth c H locs 0 0 Q (F0 m (pc + 3) ls (.ref (ad 1) :: rest))) : W p l e R s m args below meth c H locs 0 0 Q (F0 m (pc) ls (.ref (ad 0) :: rest)) := q_get C hP (ci := 8) (k := 0) (T := TX9) (N := 8) (o := 0) rfl rfl inX9 (by decide) rfl hl hd kk
theorem gX9_0N (C : CX p m c cc nL s args own D (TYX cs) (WX ad cs) A) (hP : va_P D vwCl (WX ad cs σ) H) (hl : Cond.fieldLinkNest own idx "DeputyTown" "sheets" "[LDeputyTown$Sheet;" host ∈ lw_nf) (hd : decode cc pc = .ok (.getfield idx, 3)) (kk : W p l e R s m args below meth c H locs 0 0 Q (F0 m (pc + 3) ls (.ref (ad 1) :: rest))) : W p l e R s m args below meth c H locs 0 0 Q (F0 m (pc) ls (.ref (ad 0) :: rest)) := q_getN C hP (ci := 8) (k := 0) (T := TX9) (N := 8) (o := 0) rfl rfl inX9 (by decide) rfl hl hd kk
theorem gX9_1 (C : CX p m c cc nL s args own D (TYX cs) (WX ad cs) A) (hP : va_P D vwCl (WX ad cs σ) H) (hl : Cond.fieldLink own idx "DeputyTown" "folk" "LDeputyTown$Town;" ∈ lw_tg) (hd : decode cc pc = .ok (.getfield idx, 3)) (kk : W p l e R s m args below meth c H locs 0 0 Q (F0 m (pc + 3) ls (.ref (ad 2) :: rest))) : W p l e R s m args below meth c H locs 0 0 Q (F0 m (pc) ls (.ref (ad 0) :: rest)) := q_get C hP (ci := 8) (k := 1) (T := TX9) (N := 8) (o := 0) rfl rfl inX9 (by decide) rfl hl hd kk
theorem gX9_1N (C : CX p m c cc nL s args own D (TYX cs) (WX ad cs) A) (hP : va_P D vwCl (WX ad cs σ) H) (hl : Cond.fieldLinkNest own idx "DeputyTown" "folk" "LDeputyTown$Town;" host ∈ lw_nf) (hd : decode cc pc = .ok (.getfield idx, 3)) (kk : W p l e R s m args below meth c H locs 0 0 Q (F0 m (pc + 3) ls (.ref (ad 2) :: rest))) : W p l e R s m args below meth c H locs 0 0 Q (F0 m (pc) ls (.ref (ad 0) :: rest)) := q_getN C hP (ci := 8) (k := 1) (T := TX9) (N := 8) (o := 0) rfl rfl inX9 (by decide) rfl hl hd kk
theorem gX9_2 (C : CX p m c cc nL s args own D (TYX cs) (WX ad cs) A) (hP : va_P D vwCl (WX ad cs σ) H) (hl : Cond.fieldLink own idx "DeputyTown" "breaks" "LDeputyTown$Breaks;" ∈ lw_tg) (hd : decode cc pc = .ok (.getfield idx, 3)) (kk : W p l e R s m args below meth c H locs 0 0 Q (F0 m (pc + 3) ls (.ref (ad 12) :: rest))) : W p l e R s m args below meth c H locs 0 0 Q (F0 m (pc) ls (.ref (ad 0) :: rest)) := q_get C hP (ci := 8) (k := 2) (T := TX9) (N := 8) (o := 0) rfl rfl inX9 (by decide) rfl hl hd kk
theorem gX9_2N (C : CX p m c cc nL s args own D (TYX cs) (WX ad cs) A) (hP : va_P D vwCl (WX ad cs σ) H) (hl : Cond.fieldLinkNest own idx "DeputyTown" "breaks" "LDeputyTown$Breaks;" host ∈ lw_nf) (hd : decode cc pc = .ok (.getfield idx, 3)) (kk : W p l e R s m args below meth c H locs 0 0 Q (F0 m (pc + 3) ls (.ref (ad 12) :: rest))) : W p l e R s m args below meth c H locs 0 0 Q (F0 m (pc) ls (.ref (ad 0) :: rest)) := q_getN C hP (ci := 8) (k := 2) (T := TX9) (N := 8) (o := 0) rfl rfl inX9 (by decide) rfl hl hd kk
theorem gX9_3 (C : CX p m c cc nL s args own D (TYX cs) (WX ad cs) A) (hP : va_P D vwCl (WX ad cs σ) H) (hl : Cond.fieldLink own idx "DeputyTown" "readings" "LDeputyTown$Readings;" ∈ lw_tg) (hd : decode cc pc = .ok (.getfield idx, 3)) (kk : W p l e R s m args below meth c H locs 0 0 Q (F0 m (pc + 3) ls (.ref (ad 16) :: rest))) : W p l e R s m args below meth c H locs 0 0 Q (F0 m (pc) ls (.ref (ad 0) :: rest)) := q_get C hP (ci := 8) (k := 3) (T := TX9) (N := 8) (o := 0) rfl rfl inX9 (by decide) rfl hl hd kk
theorem gX9_3N (C : CX p m c cc nL s args own D (TYX cs) (WX ad cs) A) (hP : va_P D vwCl (WX ad cs σ) H) (hl : Cond.fieldLinkNest own idx "DeputyTown" "readings" "LDeputyTown$Readings;" host ∈ lw_nf) (hd : decode cc pc = .ok (.getfield idx, 3)) (kk : W p l e R s m args below meth c H locs 0 0 Q (F0 m (pc + 3) ls (.ref (ad 16) :: rest))) : W p l e R s m args below meth c H locs 0 0 Q (F0 m (pc) ls (.ref (ad 0) :: rest)) := q_getN C hP (ci := 8) (k := 3) (T := TX9) (N := 8) (o := 0) rfl rfl inX9 (by decide) rfl hl hd kk
theorem gX9_4 (C : CX p m c cc nL s args own D (TYX cs) (WX ad cs) A) (hP : va_P D vwCl (WX ad cs σ) H) (hl : Cond.fieldLink own idx "DeputyTown" "service" "LDeputyTown$Service;" ∈ lw_tg) (hd : decode cc pc = .ok (.getfield idx, 3)) (kk : W p l e R s m args below meth c H locs 0 0 Q (F0 m (pc + 3) ls (.ref (ad 19) :: rest))) : W p l e R s m args below meth c H locs 0 0 Q (F0 m (pc) ls (.ref (ad 0) :: rest)) := q_get C hP (ci := 8) (k := 4) (T := TX9) (N := 8) (o := 0) rfl rfl inX9 (by decide) rfl hl hd kk
theorem gX9_4N (C : CX p m c cc nL s args own D (TYX cs) (WX ad cs) A) (hP : va_P D vwCl (WX ad cs σ) H) (hl : Cond.fieldLinkNest own idx "DeputyTown" "service" "LDeputyTown$Service;" host ∈ lw_nf) (hd : decode cc pc = .ok (.getfield idx, 3)) (kk : W p l e R s m args below meth c H locs 0 0 Q (F0 m (pc + 3) ls (.ref (ad 19) :: rest))) : W p l e R s m args below meth c H locs 0 0 Q (F0 m (pc) ls (.ref (ad 0) :: rest)) := q_getN C hP (ci := 8) (k := 4) (T := TX9) (N := 8) (o := 0) rfl rfl inX9 (by decide) rfl hl hd kk
theorem gX9_5 (C : CX p m c cc nL s args own D (TYX cs) (WX ad cs) A) (hP : va_P D vwCl (WX ad cs σ) H) (hl : Cond.fieldLink own idx "DeputyTown" "trials" "LDeputyTown$Trials;" ∈ lw_tg) (hd : decode cc pc = .ok (.getfield idx, 3)) (kk : W p l e R s m args below meth c H locs 0 0 Q (F0 m (pc + 3) ls (.ref (ad 22) :: rest))) : W p l e R s m args below meth c H locs 0 0 Q (F0 m (pc) ls (.ref (ad 0) :: rest)) := q_get C hP (ci := 8) (k := 5) (T := TX9) (N := 8) (o := 0) rfl rfl inX9 (by decide) rfl hl hd kk
theorem gX9_5N (C : CX p m c cc nL s args own D (TYX cs) (WX ad cs) A) (hP : va_P D vwCl (WX ad cs σ) H) (hl : Cond.fieldLinkNest own idx "DeputyTown" "trials" "LDeputyTown$Trials;" host ∈ lw_nf) (hd : decode cc pc = .ok (.getfield idx, 3)) (kk : W p l e R s m args below meth c H locs 0 0 Q (F0 m (pc + 3) ls (.ref (ad 22) :: rest))) : W p l e R s m args below meth c H locs 0 0 Q (F0 m (pc) ls (.ref (ad 0) :: rest)) := q_getN C hP (ci := 8) (k := 5) (T := TX9) (N := 8) (o := 0) rfl rfl inX9 (by decide) rfl hl hd kk
theorem gX9_6 (C : CX p m c cc nL s args own D (TYX cs) (WX ad cs) A) (hP : va_P D vwCl (WX ad cs σ) H) (hl : Cond.fieldLink own idx "DeputyTown" "bodies" "LDeputyTown$Bodies;" ∈ lw_tg) (hd : decode cc pc = .ok (.getfield idx, 3)) (kk : W p l e R s m args below meth c H locs 0 0 Q (F0 m (pc + 3) ls (.ref (ad 23) :: rest))) : W p l e R s m args below meth c H locs 0 0 Q (F0 m (pc) ls (.ref (ad 0) :: rest)) := q_get C hP (ci := 8) (k := 6) (T := TX9) (N := 8) (o := 0) rfl rfl inX9 (by decide) rfl hl hd kk
theorem gX9_6N (C : CX p m c cc nL s args own D (TYX cs) (WX ad cs) A) (hP : va_P D vwCl (WX ad cs σ) H) (hl : Cond.fieldLinkNest own idx "DeputyTown" "bodies" "LDeputyTown$Bodies;" host ∈ lw_nf) (hd : decode cc pc = .ok (.getfield idx, 3)) (kk : W p l e R s m args below meth c H locs 0 0 Q (F0 m (pc + 3) ls (.ref (ad 23) :: rest))) : W p l e R s m args below meth c H locs 0 0 Q (F0 m (pc) ls (.ref (ad 0) :: rest)) := q_getN C hP (ci := 8) (k := 6) (T := TX9) (N := 8) (o := 0) rfl rfl inX9 (by decide) rfl hl hd kk
theorem gX9_7 (C : CX p m c cc nL s args own D (TYX cs) (WX ad cs) A) (hP : va_P D vwCl (WX ad cs σ) H) (hl : Cond.fieldLink own idx "DeputyTown" "latestFault" "I" ∈ lw_tg) (hd : decode cc pc = .ok (.getfield idx, 3)) (kk : W p l e R s m args below meth c H locs 0 0 Q (F0 m (pc + 3) ls (.int (σ 0 7) :: rest))) : W p l e R s m args below meth c H locs 0 0 Q (F0 m (pc) ls (.ref (ad 0) :: rest)) := q_get C hP (ci := 8) (k := 7) (T := TX9) (N := 8) (o := 0) rfl rfl inX9 (by decide) rfl hl hd kk
theorem pX9_7 (C : CX p m c cc nL s args own D (TYX cs) (WX ad cs) A) (hP : va_P D vwCl (WX ad cs σ) H) (hS : va_S A s.heap H locs) {v : Int32} (hl : Cond.fieldLink own idx "DeputyTown" "latestFault" "I" ∈ lw_tg) (hd : decode cc pc = .ok (.putfield idx, 3)) (kk : ∀ (H1 : Heap) (locs1 : List Loc), va_P D vwCl (WX ad cs (st σ 0 7 v)) H1 → va_S A s.heap H1 locs1 → W p l e R s m args below meth c H1 locs1 0 0 Q (F0 m (pc + 3) ls (rest))) : W p l e R s m args below meth c H locs 0 0 Q (F0 m (pc) ls (.int v :: .ref (ad 0) :: rest)) := q_put C hP hS (ci := 8) (k := 7) (T := TX9) (N := 8) (o := 0) rfl rfl inX9 tyX9_ok nmX9 (by decide) rfl rfl rfl (by show 7 < 8; decide) rfl hl hd kk
theorem gX9_7N (C : CX p m c cc nL s args own D (TYX cs) (WX ad cs) A) (hP : va_P D vwCl (WX ad cs σ) H) (hl : Cond.fieldLinkNest own idx "DeputyTown" "latestFault" "I" host ∈ lw_nf) (hd : decode cc pc = .ok (.getfield idx, 3)) (kk : W p l e R s m args below meth c H locs 0 0 Q (F0 m (pc + 3) ls (.int (σ 0 7) :: rest))) : W p l e R s m args below meth c H locs 0 0 Q (F0 m (pc) ls (.ref (ad 0) :: rest)) := q_getN C hP (ci := 8) (k := 7) (T := TX9) (N := 8) (o := 0) rfl rfl inX9 (by decide) rfl hl hd kk
theorem pX9_7N (C : CX p m c cc nL s args own D (TYX cs) (WX ad cs) A) (hP : va_P D vwCl (WX ad cs σ) H) (hS : va_S A s.heap H locs) {v : Int32} (hl : Cond.fieldLinkNest own idx "DeputyTown" "latestFault" "I" host ∈ lw_nf) (hd : decode cc pc = .ok (.putfield idx, 3)) (kk : ∀ (H1 : Heap) (locs1 : List Loc), va_P D vwCl (WX ad cs (st σ 0 7 v)) H1 → va_S A s.heap H1 locs1 → W p l e R s m args below meth c H1 locs1 0 0 Q (F0 m (pc + 3) ls (rest))) : W p l e R s m args below meth c H locs 0 0 Q (F0 m (pc) ls (.int v :: .ref (ad 0) :: rest)) := q_putN C hP hS (ci := 8) (k := 7) (T := TX9) (N := 8) (o := 0) rfl rfl inX9 tyX9_ok nmX9 (by decide) rfl rfl rfl (by show 7 < 8; decide) rfl hl hd kk
theorem gX7_0 (C : CX p m c cc nL s args own D (TYX cs) (WX ad cs) A) (hP : va_P D vwCl (WX ad cs σ) H) (hl : Cond.fieldLink own idx "DeputyTown$Town" "things" "[LDeputyTown$Thing;" ∈ lw_tg) (hd : decode cc pc = .ok (.getfield idx, 3)) (kk : W p l e R s m args below meth c H locs 0 0 Q (F0 m (pc + 3) ls (.ref (ad 3) :: rest))) : W p l e R s m args below meth c H locs 0 0 Q (F0 m (pc) ls (.ref (ad 2) :: rest)) := q_get C hP (ci := 6) (k := 0) (T := TX7) (N := 3) (o := 2) rfl rfl inX7 (by decide) rfl hl hd kk
theorem gX7_0N (C : CX p m c cc nL s args own D (TYX cs) (WX ad cs) A) (hP : va_P D vwCl (WX ad cs σ) H) (hl : Cond.fieldLinkNest own idx "DeputyTown$Town" "things" "[LDeputyTown$Thing;" host ∈ lw_nf) (hd : decode cc pc = .ok (.getfield idx, 3)) (kk : W p l e R s m args below meth c H locs 0 0 Q (F0 m (pc + 3) ls (.ref (ad 3) :: rest))) : W p l e R s m args below meth c H locs 0 0 Q (F0 m (pc) ls (.ref (ad 2) :: rest)) := q_getN C hP (ci := 6) (k := 0) (T := TX7) (N := 3) (o := 2) rfl rfl inX7 (by decide) rfl hl hd kk
theorem gX7_1 (C : CX p m c cc nL s args own D (TYX cs) (WX ad cs) A) (hP : va_P D vwCl (WX ad cs σ) H) (hl : Cond.fieldLink own idx "DeputyTown$Town" "count" "I" ∈ lw_tg) (hd : decode cc pc = .ok (.getfield idx, 3)) (kk : W p l e R s m args below meth c H locs 0 0 Q (F0 m (pc + 3) ls (.int (σ 2 1) :: rest))) : W p l e R s m args below meth c H locs 0 0 Q (F0 m (pc) ls (.ref (ad 2) :: rest)) := q_get C hP (ci := 6) (k := 1) (T := TX7) (N := 3) (o := 2) rfl rfl inX7 (by decide) rfl hl hd kk
theorem pX7_1 (C : CX p m c cc nL s args own D (TYX cs) (WX ad cs) A) (hP : va_P D vwCl (WX ad cs σ) H) (hS : va_S A s.heap H locs) {v : Int32} (hl : Cond.fieldLink own idx "DeputyTown$Town" "count" "I" ∈ lw_tg) (hd : decode cc pc = .ok (.putfield idx, 3)) (kk : ∀ (H1 : Heap) (locs1 : List Loc), va_P D vwCl (WX ad cs (st σ 2 1 v)) H1 → va_S A s.heap H1 locs1 → W p l e R s m args below meth c H1 locs1 0 0 Q (F0 m (pc + 3) ls (rest))) : W p l e R s m args below meth c H locs 0 0 Q (F0 m (pc) ls (.int v :: .ref (ad 2) :: rest)) := q_put C hP hS (ci := 6) (k := 1) (T := TX7) (N := 3) (o := 2) rfl rfl inX7 tyX7_ok nmX7 (by decide) rfl rfl rfl (by show 1 < 3; decide) rfl hl hd kk
theorem gX7_1N (C : CX p m c cc nL s args own D (TYX cs) (WX ad cs) A) (hP : va_P D vwCl (WX ad cs σ) H) (hl : Cond.fieldLinkNest own idx "DeputyTown$Town" "count" "I" host ∈ lw_nf) (hd : decode cc pc = .ok (.getfield idx, 3)) (kk : W p l e R s m args below meth c H locs 0 0 Q (F0 m (pc + 3) ls (.int (σ 2 1) :: rest))) : W p l e R s m args below meth c H locs 0 0 Q (F0 m (pc) ls (.ref (ad 2) :: rest)) := q_getN C hP (ci := 6) (k := 1) (T := TX7) (N := 3) (o := 2) rfl rfl inX7 (by decide) rfl hl hd kk
theorem pX7_1N (C : CX p m c cc nL s args own D (TYX cs) (WX ad cs) A) (hP : va_P D vwCl (WX ad cs σ) H) (hS : va_S A s.heap H locs) {v : Int32} (hl : Cond.fieldLinkNest own idx "DeputyTown$Town" "count" "I" host ∈ lw_nf) (hd : decode cc pc = .ok (.putfield idx, 3)) (kk : ∀ (H1 : Heap) (locs1 : List Loc), va_P D vwCl (WX ad cs (st σ 2 1 v)) H1 → va_S A s.heap H1 locs1 → W p l e R s m args below meth c H1 locs1 0 0 Q (F0 m (pc + 3) ls (rest))) : W p l e R s m args below meth c H locs 0 0 Q (F0 m (pc) ls (.int v :: .ref (ad 2) :: rest)) := q_putN C hP hS (ci := 6) (k := 1) (T := TX7) (N := 3) (o := 2) rfl rfl inX7 tyX7_ok nmX7 (by decide) rfl rfl rfl (by show 1 < 3; decide) rfl hl hd kk
theorem gX7_2 (C : CX p m c cc nL s args own D (TYX cs) (WX ad cs) A) (hP : va_P D vwCl (WX ad cs σ) H) (hl : Cond.fieldLink own idx "DeputyTown$Town" "law" "I" ∈ lw_tg) (hd : decode cc pc = .ok (.getfield idx, 3)) (kk : W p l e R s m args below meth c H locs 0 0 Q (F0 m (pc + 3) ls (.int (σ 2 2) :: rest))) : W p l e R s m args below meth c H locs 0 0 Q (F0 m (pc) ls (.ref (ad 2) :: rest)) := q_get C hP (ci := 6) (k := 2) (T := TX7) (N := 3) (o := 2) rfl rfl inX7 (by decide) rfl hl hd kk
theorem pX7_2 (C : CX p m c cc nL s args own D (TYX cs) (WX ad cs) A) (hP : va_P D vwCl (WX ad cs σ) H) (hS : va_S A s.heap H locs) {v : Int32} (hl : Cond.fieldLink own idx "DeputyTown$Town" "law" "I" ∈ lw_tg) (hd : decode cc pc = .ok (.putfield idx, 3)) (kk : ∀ (H1 : Heap) (locs1 : List Loc), va_P D vwCl (WX ad cs (st σ 2 2 v)) H1 → va_S A s.heap H1 locs1 → W p l e R s m args below meth c H1 locs1 0 0 Q (F0 m (pc + 3) ls (rest))) : W p l e R s m args below meth c H locs 0 0 Q (F0 m (pc) ls (.int v :: .ref (ad 2) :: rest)) := q_put C hP hS (ci := 6) (k := 2) (T := TX7) (N := 3) (o := 2) rfl rfl inX7 tyX7_ok nmX7 (by decide) rfl rfl rfl (by show 2 < 3; decide) rfl hl hd kk
theorem gX7_2N (C : CX p m c cc nL s args own D (TYX cs) (WX ad cs) A) (hP : va_P D vwCl (WX ad cs σ) H) (hl : Cond.fieldLinkNest own idx "DeputyTown$Town" "law" "I" host ∈ lw_nf) (hd : decode cc pc = .ok (.getfield idx, 3)) (kk : W p l e R s m args below meth c H locs 0 0 Q (F0 m (pc + 3) ls (.int (σ 2 2) :: rest))) : W p l e R s m args below meth c H locs 0 0 Q (F0 m (pc) ls (.ref (ad 2) :: rest)) := q_getN C hP (ci := 6) (k := 2) (T := TX7) (N := 3) (o := 2) rfl rfl inX7 (by decide) rfl hl hd kk
theorem pX7_2N (C : CX p m c cc nL s args own D (TYX cs) (WX ad cs) A) (hP : va_P D vwCl (WX ad cs σ) H) (hS : va_S A s.heap H locs) {v : Int32} (hl : Cond.fieldLinkNest own idx "DeputyTown$Town" "law" "I" host ∈ lw_nf) (hd : decode cc pc = .ok (.putfield idx, 3)) (kk : ∀ (H1 : Heap) (locs1 : List Loc), va_P D vwCl (WX ad cs (st σ 2 2 v)) H1 → va_S A s.heap H1 locs1 → W p l e R s m args below meth c H1 locs1 0 0 Q (F0 m (pc + 3) ls (rest))) : W p l e R s m args below meth c H locs 0 0 Q (F0 m (pc) ls (.int v :: .ref (ad 2) :: rest)) := q_putN C hP hS (ci := 6) (k := 2) (T := TX7) (N := 3) (o := 2) rfl rfl inX7 tyX7_ok nmX7 (by decide) rfl rfl rfl (by show 2 < 3; decide) rfl hl hd kk
theorem gX1_0 (C : CX p m c cc nL s args own D (TYX cs) (WX ad cs) A) (hP : va_P D vwCl (WX ad cs σ) H) (hl : Cond.fieldLink own idx "DeputyTown$Breaks" "who" "[I" ∈ lw_tg) (hd : decode cc pc = .ok (.getfield idx, 3)) (kk : W p l e R s m args below meth c H locs 0 0 Q (F0 m (pc + 3) ls (.ref (ad 13) :: rest))) : W p l e R s m args below meth c H locs 0 0 Q (F0 m (pc) ls (.ref (ad 12) :: rest)) := q_get C hP (ci := 1) (k := 0) (T := TX1) (N := 4) (o := 12) rfl rfl inX1 (by decide) rfl hl hd kk
theorem gX1_0N (C : CX p m c cc nL s args own D (TYX cs) (WX ad cs) A) (hP : va_P D vwCl (WX ad cs σ) H) (hl : Cond.fieldLinkNest own idx "DeputyTown$Breaks" "who" "[I" host ∈ lw_nf) (hd : decode cc pc = .ok (.getfield idx, 3)) (kk : W p l e R s m args below meth c H locs 0 0 Q (F0 m (pc + 3) ls (.ref (ad 13) :: rest))) : W p l e R s m args below meth c H locs 0 0 Q (F0 m (pc) ls (.ref (ad 12) :: rest)) := q_getN C hP (ci := 1) (k := 0) (T := TX1) (N := 4) (o := 12) rfl rfl inX1 (by decide) rfl hl hd kk
theorem gX1_1 (C : CX p m c cc nL s args own D (TYX cs) (WX ad cs) A) (hP : va_P D vwCl (WX ad cs σ) H) (hl : Cond.fieldLink own idx "DeputyTown$Breaks" "from" "[I" ∈ lw_tg) (hd : decode cc pc = .ok (.getfield idx, 3)) (kk : W p l e R s m args below meth c H locs 0 0 Q (F0 m (pc + 3) ls (.ref (ad 14) :: rest))) : W p l e R s m args below meth c H locs 0 0 Q (F0 m (pc) ls (.ref (ad 12) :: rest)) := q_get C hP (ci := 1) (k := 1) (T := TX1) (N := 4) (o := 12) rfl rfl inX1 (by decide) rfl hl hd kk
theorem gX1_1N (C : CX p m c cc nL s args own D (TYX cs) (WX ad cs) A) (hP : va_P D vwCl (WX ad cs σ) H) (hl : Cond.fieldLinkNest own idx "DeputyTown$Breaks" "from" "[I" host ∈ lw_nf) (hd : decode cc pc = .ok (.getfield idx, 3)) (kk : W p l e R s m args below meth c H locs 0 0 Q (F0 m (pc + 3) ls (.ref (ad 14) :: rest))) : W p l e R s m args below meth c H locs 0 0 Q (F0 m (pc) ls (.ref (ad 12) :: rest)) := q_getN C hP (ci := 1) (k := 1) (T := TX1) (N := 4) (o := 12) rfl rfl inX1 (by decide) rfl hl hd kk
theorem gX1_2 (C : CX p m c cc nL s args own D (TYX cs) (WX ad cs) A) (hP : va_P D vwCl (WX ad cs σ) H) (hl : Cond.fieldLink own idx "DeputyTown$Breaks" "to" "[I" ∈ lw_tg) (hd : decode cc pc = .ok (.getfield idx, 3)) (kk : W p l e R s m args below meth c H locs 0 0 Q (F0 m (pc + 3) ls (.ref (ad 15) :: rest))) : W p l e R s m args below meth c H locs 0 0 Q (F0 m (pc) ls (.ref (ad 12) :: rest)) := q_get C hP (ci := 1) (k := 2) (T := TX1) (N := 4) (o := 12) rfl rfl inX1 (by decide) rfl hl hd kk
theorem gX1_2N (C : CX p m c cc nL s args own D (TYX cs) (WX ad cs) A) (hP : va_P D vwCl (WX ad cs σ) H) (hl : Cond.fieldLinkNest own idx "DeputyTown$Breaks" "to" "[I" host ∈ lw_nf) (hd : decode cc pc = .ok (.getfield idx, 3)) (kk : W p l e R s m args below meth c H locs 0 0 Q (F0 m (pc + 3) ls (.ref (ad 15) :: rest))) : W p l e R s m args below meth c H locs 0 0 Q (F0 m (pc) ls (.ref (ad 12) :: rest)) := q_getN C hP (ci := 1) (k := 2) (T := TX1) (N := 4) (o := 12) rfl rfl inX1 (by decide) rfl hl hd kk
theorem gX1_3 (C : CX p m c cc nL s args own D (TYX cs) (WX ad cs) A) (hP : va_P D vwCl (WX ad cs σ) H) (hl : Cond.fieldLink own idx "DeputyTown$Breaks" "count" "I" ∈ lw_tg) (hd : decode cc pc = .ok (.getfield idx, 3)) (kk : W p l e R s m args below meth c H locs 0 0 Q (F0 m (pc + 3) ls (.int (σ 12 3) :: rest))) : W p l e R s m args below meth c H locs 0 0 Q (F0 m (pc) ls (.ref (ad 12) :: rest)) := q_get C hP (ci := 1) (k := 3) (T := TX1) (N := 4) (o := 12) rfl rfl inX1 (by decide) rfl hl hd kk
theorem pX1_3 (C : CX p m c cc nL s args own D (TYX cs) (WX ad cs) A) (hP : va_P D vwCl (WX ad cs σ) H) (hS : va_S A s.heap H locs) {v : Int32} (hl : Cond.fieldLink own idx "DeputyTown$Breaks" "count" "I" ∈ lw_tg) (hd : decode cc pc = .ok (.putfield idx, 3)) (kk : ∀ (H1 : Heap) (locs1 : List Loc), va_P D vwCl (WX ad cs (st σ 12 3 v)) H1 → va_S A s.heap H1 locs1 → W p l e R s m args below meth c H1 locs1 0 0 Q (F0 m (pc + 3) ls (rest))) : W p l e R s m args below meth c H locs 0 0 Q (F0 m (pc) ls (.int v :: .ref (ad 12) :: rest)) := q_put C hP hS (ci := 1) (k := 3) (T := TX1) (N := 4) (o := 12) rfl rfl inX1 tyX1_ok nmX1 (by decide) rfl rfl rfl (by show 3 < 4; decide) rfl hl hd kk
theorem gX1_3N (C : CX p m c cc nL s args own D (TYX cs) (WX ad cs) A) (hP : va_P D vwCl (WX ad cs σ) H) (hl : Cond.fieldLinkNest own idx "DeputyTown$Breaks" "count" "I" host ∈ lw_nf) (hd : decode cc pc = .ok (.getfield idx, 3)) (kk : W p l e R s m args below meth c H locs 0 0 Q (F0 m (pc + 3) ls (.int (σ 12 3) :: rest))) : W p l e R s m args below meth c H locs 0 0 Q (F0 m (pc) ls (.ref (ad 12) :: rest)) := q_getN C hP (ci := 1) (k := 3) (T := TX1) (N := 4) (o := 12) rfl rfl inX1 (by decide) rfl hl hd kk
theorem pX1_3N (C : CX p m c cc nL s args own D (TYX cs) (WX ad cs) A) (hP : va_P D vwCl (WX ad cs σ) H) (hS : va_S A s.heap H locs) {v : Int32} (hl : Cond.fieldLinkNest own idx "DeputyTown$Breaks" "count" "I" host ∈ lw_nf) (hd : decode cc pc = .ok (.putfield idx, 3)) (kk : ∀ (H1 : Heap) (locs1 : List Loc), va_P D vwCl (WX ad cs (st σ 12 3 v)) H1 → va_S A s.heap H1 locs1 → W p l e R s m args below meth c H1 locs1 0 0 Q (F0 m (pc + 3) ls (rest))) : W p l e R s m args below meth c H locs 0 0 Q (F0 m (pc) ls (.int v :: .ref (ad 12) :: rest)) := q_putN C hP hS (ci := 1) (k := 3) (T := TX1) (N := 4) (o := 12) rfl rfl inX1 tyX1_ok nmX1 (by decide) rfl rfl rfl (by show 3 < 4; decide) rfl hl hd kk
theorem gX2_0 (C : CX p m c cc nL s args own D (TYX cs) (WX ad cs) A) (hP : va_P D vwCl (WX ad cs σ) H) (hl : Cond.fieldLink own idx "DeputyTown$Readings" "uses" "[I" ∈ lw_tg) (hd : decode cc pc = .ok (.getfield idx, 3)) (kk : W p l e R s m args below meth c H locs 0 0 Q (F0 m (pc + 3) ls (.ref (ad 17) :: rest))) : W p l e R s m args below meth c H locs 0 0 Q (F0 m (pc) ls (.ref (ad 16) :: rest)) := q_get C hP (ci := 2) (k := 0) (T := TX2) (N := 3) (o := 16) rfl rfl inX2 (by decide) rfl hl hd kk
theorem gX2_0N (C : CX p m c cc nL s args own D (TYX cs) (WX ad cs) A) (hP : va_P D vwCl (WX ad cs σ) H) (hl : Cond.fieldLinkNest own idx "DeputyTown$Readings" "uses" "[I" host ∈ lw_nf) (hd : decode cc pc = .ok (.getfield idx, 3)) (kk : W p l e R s m args below meth c H locs 0 0 Q (F0 m (pc + 3) ls (.ref (ad 17) :: rest))) : W p l e R s m args below meth c H locs 0 0 Q (F0 m (pc) ls (.ref (ad 16) :: rest)) := q_getN C hP (ci := 2) (k := 0) (T := TX2) (N := 3) (o := 16) rfl rfl inX2 (by decide) rfl hl hd kk
theorem gX2_1 (C : CX p m c cc nL s args own D (TYX cs) (WX ad cs) A) (hP : va_P D vwCl (WX ad cs σ) H) (hl : Cond.fieldLink own idx "DeputyTown$Readings" "servers" "[I" ∈ lw_tg) (hd : decode cc pc = .ok (.getfield idx, 3)) (kk : W p l e R s m args below meth c H locs 0 0 Q (F0 m (pc + 3) ls (.ref (ad 18) :: rest))) : W p l e R s m args below meth c H locs 0 0 Q (F0 m (pc) ls (.ref (ad 16) :: rest)) := q_get C hP (ci := 2) (k := 1) (T := TX2) (N := 3) (o := 16) rfl rfl inX2 (by decide) rfl hl hd kk
theorem gX2_1N (C : CX p m c cc nL s args own D (TYX cs) (WX ad cs) A) (hP : va_P D vwCl (WX ad cs σ) H) (hl : Cond.fieldLinkNest own idx "DeputyTown$Readings" "servers" "[I" host ∈ lw_nf) (hd : decode cc pc = .ok (.getfield idx, 3)) (kk : W p l e R s m args below meth c H locs 0 0 Q (F0 m (pc + 3) ls (.ref (ad 18) :: rest))) : W p l e R s m args below meth c H locs 0 0 Q (F0 m (pc) ls (.ref (ad 16) :: rest)) := q_getN C hP (ci := 2) (k := 1) (T := TX2) (N := 3) (o := 16) rfl rfl inX2 (by decide) rfl hl hd kk
theorem gX2_2 (C : CX p m c cc nL s args own D (TYX cs) (WX ad cs) A) (hP : va_P D vwCl (WX ad cs σ) H) (hl : Cond.fieldLink own idx "DeputyTown$Readings" "count" "I" ∈ lw_tg) (hd : decode cc pc = .ok (.getfield idx, 3)) (kk : W p l e R s m args below meth c H locs 0 0 Q (F0 m (pc + 3) ls (.int (σ 16 2) :: rest))) : W p l e R s m args below meth c H locs 0 0 Q (F0 m (pc) ls (.ref (ad 16) :: rest)) := q_get C hP (ci := 2) (k := 2) (T := TX2) (N := 3) (o := 16) rfl rfl inX2 (by decide) rfl hl hd kk
theorem pX2_2 (C : CX p m c cc nL s args own D (TYX cs) (WX ad cs) A) (hP : va_P D vwCl (WX ad cs σ) H) (hS : va_S A s.heap H locs) {v : Int32} (hl : Cond.fieldLink own idx "DeputyTown$Readings" "count" "I" ∈ lw_tg) (hd : decode cc pc = .ok (.putfield idx, 3)) (kk : ∀ (H1 : Heap) (locs1 : List Loc), va_P D vwCl (WX ad cs (st σ 16 2 v)) H1 → va_S A s.heap H1 locs1 → W p l e R s m args below meth c H1 locs1 0 0 Q (F0 m (pc + 3) ls (rest))) : W p l e R s m args below meth c H locs 0 0 Q (F0 m (pc) ls (.int v :: .ref (ad 16) :: rest)) := q_put C hP hS (ci := 2) (k := 2) (T := TX2) (N := 3) (o := 16) rfl rfl inX2 tyX2_ok nmX2 (by decide) rfl rfl rfl (by show 2 < 3; decide) rfl hl hd kk
theorem gX2_2N (C : CX p m c cc nL s args own D (TYX cs) (WX ad cs) A) (hP : va_P D vwCl (WX ad cs σ) H) (hl : Cond.fieldLinkNest own idx "DeputyTown$Readings" "count" "I" host ∈ lw_nf) (hd : decode cc pc = .ok (.getfield idx, 3)) (kk : W p l e R s m args below meth c H locs 0 0 Q (F0 m (pc + 3) ls (.int (σ 16 2) :: rest))) : W p l e R s m args below meth c H locs 0 0 Q (F0 m (pc) ls (.ref (ad 16) :: rest)) := q_getN C hP (ci := 2) (k := 2) (T := TX2) (N := 3) (o := 16) rfl rfl inX2 (by decide) rfl hl hd kk
theorem pX2_2N (C : CX p m c cc nL s args own D (TYX cs) (WX ad cs) A) (hP : va_P D vwCl (WX ad cs σ) H) (hS : va_S A s.heap H locs) {v : Int32} (hl : Cond.fieldLinkNest own idx "DeputyTown$Readings" "count" "I" host ∈ lw_nf) (hd : decode cc pc = .ok (.putfield idx, 3)) (kk : ∀ (H1 : Heap) (locs1 : List Loc), va_P D vwCl (WX ad cs (st σ 16 2 v)) H1 → va_S A s.heap H1 locs1 → W p l e R s m args below meth c H1 locs1 0 0 Q (F0 m (pc + 3) ls (rest))) : W p l e R s m args below meth c H locs 0 0 Q (F0 m (pc) ls (.int v :: .ref (ad 16) :: rest)) := q_putN C hP hS (ci := 2) (k := 2) (T := TX2) (N := 3) (o := 16) rfl rfl inX2 tyX2_ok nmX2 (by decide) rfl rfl rfl (by show 2 < 3; decide) rfl hl hd kk
theorem gX3_0 (C : CX p m c cc nL s args own D (TYX cs) (WX ad cs) A) (hP : va_P D vwCl (WX ad cs σ) H) (hl : Cond.fieldLink own idx "DeputyTown$Service" "folk" "LDeputyTown$Town;" ∈ lw_tg) (hd : decode cc pc = .ok (.getfield idx, 3)) (kk : W p l e R s m args below meth c H locs 0 0 Q (F0 m (pc + 3) ls (.ref (ad 2) :: rest))) : W p l e R s m args below meth c H locs 0 0 Q (F0 m (pc) ls (.ref (ad 19) :: rest)) := q_get C hP (ci := 3) (k := 0) (T := TX3) (N := 4) (o := 19) rfl rfl inX3 (by decide) rfl hl hd kk
theorem gX3_0N (C : CX p m c cc nL s args own D (TYX cs) (WX ad cs) A) (hP : va_P D vwCl (WX ad cs σ) H) (hl : Cond.fieldLinkNest own idx "DeputyTown$Service" "folk" "LDeputyTown$Town;" host ∈ lw_nf) (hd : decode cc pc = .ok (.getfield idx, 3)) (kk : W p l e R s m args below meth c H locs 0 0 Q (F0 m (pc + 3) ls (.ref (ad 2) :: rest))) : W p l e R s m args below meth c H locs 0 0 Q (F0 m (pc) ls (.ref (ad 19) :: rest)) := q_getN C hP (ci := 3) (k := 0) (T := TX3) (N := 4) (o := 19) rfl rfl inX3 (by decide) rfl hl hd kk
theorem gX3_1 (C : CX p m c cc nL s args own D (TYX cs) (WX ad cs) A) (hP : va_P D vwCl (WX ad cs σ) H) (hl : Cond.fieldLink own idx "DeputyTown$Service" "servers" "[I" ∈ lw_tg) (hd : decode cc pc = .ok (.getfield idx, 3)) (kk : W p l e R s m args below meth c H locs 0 0 Q (F0 m (pc + 3) ls (.ref (ad 20) :: rest))) : W p l e R s m args below meth c H locs 0 0 Q (F0 m (pc) ls (.ref (ad 19) :: rest)) := q_get C hP (ci := 3) (k := 1) (T := TX3) (N := 4) (o := 19) rfl rfl inX3 (by decide) rfl hl hd kk
theorem gX3_1N (C : CX p m c cc nL s args own D (TYX cs) (WX ad cs) A) (hP : va_P D vwCl (WX ad cs σ) H) (hl : Cond.fieldLinkNest own idx "DeputyTown$Service" "servers" "[I" host ∈ lw_nf) (hd : decode cc pc = .ok (.getfield idx, 3)) (kk : W p l e R s m args below meth c H locs 0 0 Q (F0 m (pc + 3) ls (.ref (ad 20) :: rest))) : W p l e R s m args below meth c H locs 0 0 Q (F0 m (pc) ls (.ref (ad 19) :: rest)) := q_getN C hP (ci := 3) (k := 1) (T := TX3) (N := 4) (o := 19) rfl rfl inX3 (by decide) rfl hl hd kk
theorem gX3_2 (C : CX p m c cc nL s args own D (TYX cs) (WX ad cs) A) (hP : va_P D vwCl (WX ad cs σ) H) (hl : Cond.fieldLink own idx "DeputyTown$Service" "streaks" "[I" ∈ lw_tg) (hd : decode cc pc = .ok (.getfield idx, 3)) (kk : W p l e R s m args below meth c H locs 0 0 Q (F0 m (pc + 3) ls (.ref (ad 21) :: rest))) : W p l e R s m args below meth c H locs 0 0 Q (F0 m (pc) ls (.ref (ad 19) :: rest)) := q_get C hP (ci := 3) (k := 2) (T := TX3) (N := 4) (o := 19) rfl rfl inX3 (by decide) rfl hl hd kk
theorem gX3_2N (C : CX p m c cc nL s args own D (TYX cs) (WX ad cs) A) (hP : va_P D vwCl (WX ad cs σ) H) (hl : Cond.fieldLinkNest own idx "DeputyTown$Service" "streaks" "[I" host ∈ lw_nf) (hd : decode cc pc = .ok (.getfield idx, 3)) (kk : W p l e R s m args below meth c H locs 0 0 Q (F0 m (pc + 3) ls (.ref (ad 21) :: rest))) : W p l e R s m args below meth c H locs 0 0 Q (F0 m (pc) ls (.ref (ad 19) :: rest)) := q_getN C hP (ci := 3) (k := 2) (T := TX3) (N := 4) (o := 19) rfl rfl inX3 (by decide) rfl hl hd kk
theorem gX3_3 (C : CX p m c cc nL s args own D (TYX cs) (WX ad cs) A) (hP : va_P D vwCl (WX ad cs σ) H) (hl : Cond.fieldLink own idx "DeputyTown$Service" "standing" "I" ∈ lw_tg) (hd : decode cc pc = .ok (.getfield idx, 3)) (kk : W p l e R s m args below meth c H locs 0 0 Q (F0 m (pc + 3) ls (.int (σ 19 3) :: rest))) : W p l e R s m args below meth c H locs 0 0 Q (F0 m (pc) ls (.ref (ad 19) :: rest)) := q_get C hP (ci := 3) (k := 3) (T := TX3) (N := 4) (o := 19) rfl rfl inX3 (by decide) rfl hl hd kk
theorem pX3_3 (C : CX p m c cc nL s args own D (TYX cs) (WX ad cs) A) (hP : va_P D vwCl (WX ad cs σ) H) (hS : va_S A s.heap H locs) {v : Int32} (hl : Cond.fieldLink own idx "DeputyTown$Service" "standing" "I" ∈ lw_tg) (hd : decode cc pc = .ok (.putfield idx, 3)) (kk : ∀ (H1 : Heap) (locs1 : List Loc), va_P D vwCl (WX ad cs (st σ 19 3 v)) H1 → va_S A s.heap H1 locs1 → W p l e R s m args below meth c H1 locs1 0 0 Q (F0 m (pc + 3) ls (rest))) : W p l e R s m args below meth c H locs 0 0 Q (F0 m (pc) ls (.int v :: .ref (ad 19) :: rest)) := q_put C hP hS (ci := 3) (k := 3) (T := TX3) (N := 4) (o := 19) rfl rfl inX3 tyX3_ok nmX3 (by decide) rfl rfl rfl (by show 3 < 4; decide) rfl hl hd kk
theorem gX3_3N (C : CX p m c cc nL s args own D (TYX cs) (WX ad cs) A) (hP : va_P D vwCl (WX ad cs σ) H) (hl : Cond.fieldLinkNest own idx "DeputyTown$Service" "standing" "I" host ∈ lw_nf) (hd : decode cc pc = .ok (.getfield idx, 3)) (kk : W p l e R s m args below meth c H locs 0 0 Q (F0 m (pc + 3) ls (.int (σ 19 3) :: rest))) : W p l e R s m args below meth c H locs 0 0 Q (F0 m (pc) ls (.ref (ad 19) :: rest)) := q_getN C hP (ci := 3) (k := 3) (T := TX3) (N := 4) (o := 19) rfl rfl inX3 (by decide) rfl hl hd kk
theorem pX3_3N (C : CX p m c cc nL s args own D (TYX cs) (WX ad cs) A) (hP : va_P D vwCl (WX ad cs σ) H) (hS : va_S A s.heap H locs) {v : Int32} (hl : Cond.fieldLinkNest own idx "DeputyTown$Service" "standing" "I" host ∈ lw_nf) (hd : decode cc pc = .ok (.putfield idx, 3)) (kk : ∀ (H1 : Heap) (locs1 : List Loc), va_P D vwCl (WX ad cs (st σ 19 3 v)) H1 → va_S A s.heap H1 locs1 → W p l e R s m args below meth c H1 locs1 0 0 Q (F0 m (pc + 3) ls (rest))) : W p l e R s m args below meth c H locs 0 0 Q (F0 m (pc) ls (.int v :: .ref (ad 19) :: rest)) := q_putN C hP hS (ci := 3) (k := 3) (T := TX3) (N := 4) (o := 19) rfl rfl inX3 tyX3_ok nmX3 (by decide) rfl rfl rfl (by show 3 < 4; decide) rfl hl hd kk
theorem gX8_0 (C : CX p m c cc nL s args own D (TYX cs) (WX ad cs) A) (hP : va_P D vwCl (WX ad cs σ) H) (hl : Cond.fieldLink own idx "DeputyTown$Trials" "folk" "LDeputyTown$Town;" ∈ lw_tg) (hd : decode cc pc = .ok (.getfield idx, 3)) (kk : W p l e R s m args below meth c H locs 0 0 Q (F0 m (pc + 3) ls (.ref (ad 2) :: rest))) : W p l e R s m args below meth c H locs 0 0 Q (F0 m (pc) ls (.ref (ad 22) :: rest)) := q_get C hP (ci := 7) (k := 0) (T := TX8) (N := 9) (o := 22) rfl rfl inX8 (by decide) rfl hl hd kk
theorem gX8_0N (C : CX p m c cc nL s args own D (TYX cs) (WX ad cs) A) (hP : va_P D vwCl (WX ad cs σ) H) (hl : Cond.fieldLinkNest own idx "DeputyTown$Trials" "folk" "LDeputyTown$Town;" host ∈ lw_nf) (hd : decode cc pc = .ok (.getfield idx, 3)) (kk : W p l e R s m args below meth c H locs 0 0 Q (F0 m (pc + 3) ls (.ref (ad 2) :: rest))) : W p l e R s m args below meth c H locs 0 0 Q (F0 m (pc) ls (.ref (ad 22) :: rest)) := q_getN C hP (ci := 7) (k := 0) (T := TX8) (N := 9) (o := 22) rfl rfl inX8 (by decide) rfl hl hd kk
theorem gX8_1 (C : CX p m c cc nL s args own D (TYX cs) (WX ad cs) A) (hP : va_P D vwCl (WX ad cs σ) H) (hl : Cond.fieldLink own idx "DeputyTown$Trials" "service" "LDeputyTown$Service;" ∈ lw_tg) (hd : decode cc pc = .ok (.getfield idx, 3)) (kk : W p l e R s m args below meth c H locs 0 0 Q (F0 m (pc + 3) ls (.ref (ad 19) :: rest))) : W p l e R s m args below meth c H locs 0 0 Q (F0 m (pc) ls (.ref (ad 22) :: rest)) := q_get C hP (ci := 7) (k := 1) (T := TX8) (N := 9) (o := 22) rfl rfl inX8 (by decide) rfl hl hd kk
theorem gX8_1N (C : CX p m c cc nL s args own D (TYX cs) (WX ad cs) A) (hP : va_P D vwCl (WX ad cs σ) H) (hl : Cond.fieldLinkNest own idx "DeputyTown$Trials" "service" "LDeputyTown$Service;" host ∈ lw_nf) (hd : decode cc pc = .ok (.getfield idx, 3)) (kk : W p l e R s m args below meth c H locs 0 0 Q (F0 m (pc + 3) ls (.ref (ad 19) :: rest))) : W p l e R s m args below meth c H locs 0 0 Q (F0 m (pc) ls (.ref (ad 22) :: rest)) := q_getN C hP (ci := 7) (k := 1) (T := TX8) (N := 9) (o := 22) rfl rfl inX8 (by decide) rfl hl hd kk
theorem gX8_2 (C : CX p m c cc nL s args own D (TYX cs) (WX ad cs) A) (hP : va_P D vwCl (WX ad cs σ) H) (hl : Cond.fieldLink own idx "DeputyTown$Trials" "frailSet" "I" ∈ lw_tg) (hd : decode cc pc = .ok (.getfield idx, 3)) (kk : W p l e R s m args below meth c H locs 0 0 Q (F0 m (pc + 3) ls (.int (σ 22 2) :: rest))) : W p l e R s m args below meth c H locs 0 0 Q (F0 m (pc) ls (.ref (ad 22) :: rest)) := q_get C hP (ci := 7) (k := 2) (T := TX8) (N := 9) (o := 22) rfl rfl inX8 (by decide) rfl hl hd kk
theorem pX8_2 (C : CX p m c cc nL s args own D (TYX cs) (WX ad cs) A) (hP : va_P D vwCl (WX ad cs σ) H) (hS : va_S A s.heap H locs) {v : Int32} (hl : Cond.fieldLink own idx "DeputyTown$Trials" "frailSet" "I" ∈ lw_tg) (hd : decode cc pc = .ok (.putfield idx, 3)) (kk : ∀ (H1 : Heap) (locs1 : List Loc), va_P D vwCl (WX ad cs (st σ 22 2 v)) H1 → va_S A s.heap H1 locs1 → W p l e R s m args below meth c H1 locs1 0 0 Q (F0 m (pc + 3) ls (rest))) : W p l e R s m args below meth c H locs 0 0 Q (F0 m (pc) ls (.int v :: .ref (ad 22) :: rest)) := q_put C hP hS (ci := 7) (k := 2) (T := TX8) (N := 9) (o := 22) rfl rfl inX8 tyX8_ok nmX8 (by decide) rfl rfl rfl (by show 2 < 9; decide) rfl hl hd kk
theorem gX8_2N (C : CX p m c cc nL s args own D (TYX cs) (WX ad cs) A) (hP : va_P D vwCl (WX ad cs σ) H) (hl : Cond.fieldLinkNest own idx "DeputyTown$Trials" "frailSet" "I" host ∈ lw_nf) (hd : decode cc pc = .ok (.getfield idx, 3)) (kk : W p l e R s m args below meth c H locs 0 0 Q (F0 m (pc + 3) ls (.int (σ 22 2) :: rest))) : W p l e R s m args below meth c H locs 0 0 Q (F0 m (pc) ls (.ref (ad 22) :: rest)) := q_getN C hP (ci := 7) (k := 2) (T := TX8) (N := 9) (o := 22) rfl rfl inX8 (by decide) rfl hl hd kk
theorem pX8_2N (C : CX p m c cc nL s args own D (TYX cs) (WX ad cs) A) (hP : va_P D vwCl (WX ad cs σ) H) (hS : va_S A s.heap H locs) {v : Int32} (hl : Cond.fieldLinkNest own idx "DeputyTown$Trials" "frailSet" "I" host ∈ lw_nf) (hd : decode cc pc = .ok (.putfield idx, 3)) (kk : ∀ (H1 : Heap) (locs1 : List Loc), va_P D vwCl (WX ad cs (st σ 22 2 v)) H1 → va_S A s.heap H1 locs1 → W p l e R s m args below meth c H1 locs1 0 0 Q (F0 m (pc + 3) ls (rest))) : W p l e R s m args below meth c H locs 0 0 Q (F0 m (pc) ls (.int v :: .ref (ad 22) :: rest)) := q_putN C hP hS (ci := 7) (k := 2) (T := TX8) (N := 9) (o := 22) rfl rfl inX8 tyX8_ok nmX8 (by decide) rfl rfl rfl (by show 2 < 9; decide) rfl hl hd kk
theorem gX8_3 (C : CX p m c cc nL s args own D (TYX cs) (WX ad cs) A) (hP : va_P D vwCl (WX ad cs σ) H) (hl : Cond.fieldLink own idx "DeputyTown$Trials" "frailUndone" "I" ∈ lw_tg) (hd : decode cc pc = .ok (.getfield idx, 3)) (kk : W p l e R s m args below meth c H locs 0 0 Q (F0 m (pc + 3) ls (.int (σ 22 3) :: rest))) : W p l e R s m args below meth c H locs 0 0 Q (F0 m (pc) ls (.ref (ad 22) :: rest)) := q_get C hP (ci := 7) (k := 3) (T := TX8) (N := 9) (o := 22) rfl rfl inX8 (by decide) rfl hl hd kk
theorem pX8_3 (C : CX p m c cc nL s args own D (TYX cs) (WX ad cs) A) (hP : va_P D vwCl (WX ad cs σ) H) (hS : va_S A s.heap H locs) {v : Int32} (hl : Cond.fieldLink own idx "DeputyTown$Trials" "frailUndone" "I" ∈ lw_tg) (hd : decode cc pc = .ok (.putfield idx, 3)) (kk : ∀ (H1 : Heap) (locs1 : List Loc), va_P D vwCl (WX ad cs (st σ 22 3 v)) H1 → va_S A s.heap H1 locs1 → W p l e R s m args below meth c H1 locs1 0 0 Q (F0 m (pc + 3) ls (rest))) : W p l e R s m args below meth c H locs 0 0 Q (F0 m (pc) ls (.int v :: .ref (ad 22) :: rest)) := q_put C hP hS (ci := 7) (k := 3) (T := TX8) (N := 9) (o := 22) rfl rfl inX8 tyX8_ok nmX8 (by decide) rfl rfl rfl (by show 3 < 9; decide) rfl hl hd kk
theorem gX8_3N (C : CX p m c cc nL s args own D (TYX cs) (WX ad cs) A) (hP : va_P D vwCl (WX ad cs σ) H) (hl : Cond.fieldLinkNest own idx "DeputyTown$Trials" "frailUndone" "I" host ∈ lw_nf) (hd : decode cc pc = .ok (.getfield idx, 3)) (kk : W p l e R s m args below meth c H locs 0 0 Q (F0 m (pc + 3) ls (.int (σ 22 3) :: rest))) : W p l e R s m args below meth c H locs 0 0 Q (F0 m (pc) ls (.ref (ad 22) :: rest)) := q_getN C hP (ci := 7) (k := 3) (T := TX8) (N := 9) (o := 22) rfl rfl inX8 (by decide) rfl hl hd kk
theorem pX8_3N (C : CX p m c cc nL s args own D (TYX cs) (WX ad cs) A) (hP : va_P D vwCl (WX ad cs σ) H) (hS : va_S A s.heap H locs) {v : Int32} (hl : Cond.fieldLinkNest own idx "DeputyTown$Trials" "frailUndone" "I" host ∈ lw_nf) (hd : decode cc pc = .ok (.putfield idx, 3)) (kk : ∀ (H1 : Heap) (locs1 : List Loc), va_P D vwCl (WX ad cs (st σ 22 3 v)) H1 → va_S A s.heap H1 locs1 → W p l e R s m args below meth c H1 locs1 0 0 Q (F0 m (pc + 3) ls (rest))) : W p l e R s m args below meth c H locs 0 0 Q (F0 m (pc) ls (.int v :: .ref (ad 22) :: rest)) := q_putN C hP hS (ci := 7) (k := 3) (T := TX8) (N := 9) (o := 22) rfl rfl inX8 tyX8_ok nmX8 (by decide) rfl rfl rfl (by show 3 < 9; decide) rfl hl hd kk
theorem gX8_4 (C : CX p m c cc nL s args own D (TYX cs) (WX ad cs) A) (hP : va_P D vwCl (WX ad cs σ) H) (hl : Cond.fieldLink own idx "DeputyTown$Trials" "mendChange" "I" ∈ lw_tg) (hd : decode cc pc = .ok (.getfield idx, 3)) (kk : W p l e R s m args below meth c H locs 0 0 Q (F0 m (pc + 3) ls (.int (σ 22 4) :: rest))) : W p l e R s m args below meth c H locs 0 0 Q (F0 m (pc) ls (.ref (ad 22) :: rest)) := q_get C hP (ci := 7) (k := 4) (T := TX8) (N := 9) (o := 22) rfl rfl inX8 (by decide) rfl hl hd kk
theorem pX8_4 (C : CX p m c cc nL s args own D (TYX cs) (WX ad cs) A) (hP : va_P D vwCl (WX ad cs σ) H) (hS : va_S A s.heap H locs) {v : Int32} (hl : Cond.fieldLink own idx "DeputyTown$Trials" "mendChange" "I" ∈ lw_tg) (hd : decode cc pc = .ok (.putfield idx, 3)) (kk : ∀ (H1 : Heap) (locs1 : List Loc), va_P D vwCl (WX ad cs (st σ 22 4 v)) H1 → va_S A s.heap H1 locs1 → W p l e R s m args below meth c H1 locs1 0 0 Q (F0 m (pc + 3) ls (rest))) : W p l e R s m args below meth c H locs 0 0 Q (F0 m (pc) ls (.int v :: .ref (ad 22) :: rest)) := q_put C hP hS (ci := 7) (k := 4) (T := TX8) (N := 9) (o := 22) rfl rfl inX8 tyX8_ok nmX8 (by decide) rfl rfl rfl (by show 4 < 9; decide) rfl hl hd kk
theorem gX8_4N (C : CX p m c cc nL s args own D (TYX cs) (WX ad cs) A) (hP : va_P D vwCl (WX ad cs σ) H) (hl : Cond.fieldLinkNest own idx "DeputyTown$Trials" "mendChange" "I" host ∈ lw_nf) (hd : decode cc pc = .ok (.getfield idx, 3)) (kk : W p l e R s m args below meth c H locs 0 0 Q (F0 m (pc + 3) ls (.int (σ 22 4) :: rest))) : W p l e R s m args below meth c H locs 0 0 Q (F0 m (pc) ls (.ref (ad 22) :: rest)) := q_getN C hP (ci := 7) (k := 4) (T := TX8) (N := 9) (o := 22) rfl rfl inX8 (by decide) rfl hl hd kk
theorem pX8_4N (C : CX p m c cc nL s args own D (TYX cs) (WX ad cs) A) (hP : va_P D vwCl (WX ad cs σ) H) (hS : va_S A s.heap H locs) {v : Int32} (hl : Cond.fieldLinkNest own idx "DeputyTown$Trials" "mendChange" "I" host ∈ lw_nf) (hd : decode cc pc = .ok (.putfield idx, 3)) (kk : ∀ (H1 : Heap) (locs1 : List Loc), va_P D vwCl (WX ad cs (st σ 22 4 v)) H1 → va_S A s.heap H1 locs1 → W p l e R s m args below meth c H1 locs1 0 0 Q (F0 m (pc + 3) ls (rest))) : W p l e R s m args below meth c H locs 0 0 Q (F0 m (pc) ls (.int v :: .ref (ad 22) :: rest)) := q_putN C hP hS (ci := 7) (k := 4) (T := TX8) (N := 9) (o := 22) rfl rfl inX8 tyX8_ok nmX8 (by decide) rfl rfl rfl (by show 4 < 9; decide) rfl hl hd kk
theorem gX8_5 (C : CX p m c cc nL s args own D (TYX cs) (WX ad cs) A) (hP : va_P D vwCl (WX ad cs σ) H) (hl : Cond.fieldLink own idx "DeputyTown$Trials" "mendUndone" "I" ∈ lw_tg) (hd : decode cc pc = .ok (.getfield idx, 3)) (kk : W p l e R s m args below meth c H locs 0 0 Q (F0 m (pc + 3) ls (.int (σ 22 5) :: rest))) : W p l e R s m args below meth c H locs 0 0 Q (F0 m (pc) ls (.ref (ad 22) :: rest)) := q_get C hP (ci := 7) (k := 5) (T := TX8) (N := 9) (o := 22) rfl rfl inX8 (by decide) rfl hl hd kk
theorem pX8_5 (C : CX p m c cc nL s args own D (TYX cs) (WX ad cs) A) (hP : va_P D vwCl (WX ad cs σ) H) (hS : va_S A s.heap H locs) {v : Int32} (hl : Cond.fieldLink own idx "DeputyTown$Trials" "mendUndone" "I" ∈ lw_tg) (hd : decode cc pc = .ok (.putfield idx, 3)) (kk : ∀ (H1 : Heap) (locs1 : List Loc), va_P D vwCl (WX ad cs (st σ 22 5 v)) H1 → va_S A s.heap H1 locs1 → W p l e R s m args below meth c H1 locs1 0 0 Q (F0 m (pc + 3) ls (rest))) : W p l e R s m args below meth c H locs 0 0 Q (F0 m (pc) ls (.int v :: .ref (ad 22) :: rest)) := q_put C hP hS (ci := 7) (k := 5) (T := TX8) (N := 9) (o := 22) rfl rfl inX8 tyX8_ok nmX8 (by decide) rfl rfl rfl (by show 5 < 9; decide) rfl hl hd kk
theorem gX8_5N (C : CX p m c cc nL s args own D (TYX cs) (WX ad cs) A) (hP : va_P D vwCl (WX ad cs σ) H) (hl : Cond.fieldLinkNest own idx "DeputyTown$Trials" "mendUndone" "I" host ∈ lw_nf) (hd : decode cc pc = .ok (.getfield idx, 3)) (kk : W p l e R s m args below meth c H locs 0 0 Q (F0 m (pc + 3) ls (.int (σ 22 5) :: rest))) : W p l e R s m args below meth c H locs 0 0 Q (F0 m (pc) ls (.ref (ad 22) :: rest)) := q_getN C hP (ci := 7) (k := 5) (T := TX8) (N := 9) (o := 22) rfl rfl inX8 (by decide) rfl hl hd kk
theorem pX8_5N (C : CX p m c cc nL s args own D (TYX cs) (WX ad cs) A) (hP : va_P D vwCl (WX ad cs σ) H) (hS : va_S A s.heap H locs) {v : Int32} (hl : Cond.fieldLinkNest own idx "DeputyTown$Trials" "mendUndone" "I" host ∈ lw_nf) (hd : decode cc pc = .ok (.putfield idx, 3)) (kk : ∀ (H1 : Heap) (locs1 : List Loc), va_P D vwCl (WX ad cs (st σ 22 5 v)) H1 → va_S A s.heap H1 locs1 → W p l e R s m args below meth c H1 locs1 0 0 Q (F0 m (pc + 3) ls (rest))) : W p l e R s m args below meth c H locs 0 0 Q (F0 m (pc) ls (.int v :: .ref (ad 22) :: rest)) := q_putN C hP hS (ci := 7) (k := 5) (T := TX8) (N := 9) (o := 22) rfl rfl inX8 tyX8_ok nmX8 (by decide) rfl rfl rfl (by show 5 < 9; decide) rfl hl hd kk
theorem gX8_6 (C : CX p m c cc nL s args own D (TYX cs) (WX ad cs) A) (hP : va_P D vwCl (WX ad cs σ) H) (hl : Cond.fieldLink own idx "DeputyTown$Trials" "failedCount" "I" ∈ lw_tg) (hd : decode cc pc = .ok (.getfield idx, 3)) (kk : W p l e R s m args below meth c H locs 0 0 Q (F0 m (pc + 3) ls (.int (σ 22 6) :: rest))) : W p l e R s m args below meth c H locs 0 0 Q (F0 m (pc) ls (.ref (ad 22) :: rest)) := q_get C hP (ci := 7) (k := 6) (T := TX8) (N := 9) (o := 22) rfl rfl inX8 (by decide) rfl hl hd kk
theorem pX8_6 (C : CX p m c cc nL s args own D (TYX cs) (WX ad cs) A) (hP : va_P D vwCl (WX ad cs σ) H) (hS : va_S A s.heap H locs) {v : Int32} (hl : Cond.fieldLink own idx "DeputyTown$Trials" "failedCount" "I" ∈ lw_tg) (hd : decode cc pc = .ok (.putfield idx, 3)) (kk : ∀ (H1 : Heap) (locs1 : List Loc), va_P D vwCl (WX ad cs (st σ 22 6 v)) H1 → va_S A s.heap H1 locs1 → W p l e R s m args below meth c H1 locs1 0 0 Q (F0 m (pc + 3) ls (rest))) : W p l e R s m args below meth c H locs 0 0 Q (F0 m (pc) ls (.int v :: .ref (ad 22) :: rest)) := q_put C hP hS (ci := 7) (k := 6) (T := TX8) (N := 9) (o := 22) rfl rfl inX8 tyX8_ok nmX8 (by decide) rfl rfl rfl (by show 6 < 9; decide) rfl hl hd kk
theorem gX8_6N (C : CX p m c cc nL s args own D (TYX cs) (WX ad cs) A) (hP : va_P D vwCl (WX ad cs σ) H) (hl : Cond.fieldLinkNest own idx "DeputyTown$Trials" "failedCount" "I" host ∈ lw_nf) (hd : decode cc pc = .ok (.getfield idx, 3)) (kk : W p l e R s m args below meth c H locs 0 0 Q (F0 m (pc + 3) ls (.int (σ 22 6) :: rest))) : W p l e R s m args below meth c H locs 0 0 Q (F0 m (pc) ls (.ref (ad 22) :: rest)) := q_getN C hP (ci := 7) (k := 6) (T := TX8) (N := 9) (o := 22) rfl rfl inX8 (by decide) rfl hl hd kk
theorem pX8_6N (C : CX p m c cc nL s args own D (TYX cs) (WX ad cs) A) (hP : va_P D vwCl (WX ad cs σ) H) (hS : va_S A s.heap H locs) {v : Int32} (hl : Cond.fieldLinkNest own idx "DeputyTown$Trials" "failedCount" "I" host ∈ lw_nf) (hd : decode cc pc = .ok (.putfield idx, 3)) (kk : ∀ (H1 : Heap) (locs1 : List Loc), va_P D vwCl (WX ad cs (st σ 22 6 v)) H1 → va_S A s.heap H1 locs1 → W p l e R s m args below meth c H1 locs1 0 0 Q (F0 m (pc + 3) ls (rest))) : W p l e R s m args below meth c H locs 0 0 Q (F0 m (pc) ls (.int v :: .ref (ad 22) :: rest)) := q_putN C hP hS (ci := 7) (k := 6) (T := TX8) (N := 9) (o := 22) rfl rfl inX8 tyX8_ok nmX8 (by decide) rfl rfl rfl (by show 6 < 9; decide) rfl hl hd kk
theorem gX8_7 (C : CX p m c cc nL s args own D (TYX cs) (WX ad cs) A) (hP : va_P D vwCl (WX ad cs σ) H) (hl : Cond.fieldLink own idx "DeputyTown$Trials" "failedFewest" "I" ∈ lw_tg) (hd : decode cc pc = .ok (.getfield idx, 3)) (kk : W p l e R s m args below meth c H locs 0 0 Q (F0 m (pc + 3) ls (.int (σ 22 7) :: rest))) : W p l e R s m args below meth c H locs 0 0 Q (F0 m (pc) ls (.ref (ad 22) :: rest)) := q_get C hP (ci := 7) (k := 7) (T := TX8) (N := 9) (o := 22) rfl rfl inX8 (by decide) rfl hl hd kk
theorem pX8_7 (C : CX p m c cc nL s args own D (TYX cs) (WX ad cs) A) (hP : va_P D vwCl (WX ad cs σ) H) (hS : va_S A s.heap H locs) {v : Int32} (hl : Cond.fieldLink own idx "DeputyTown$Trials" "failedFewest" "I" ∈ lw_tg) (hd : decode cc pc = .ok (.putfield idx, 3)) (kk : ∀ (H1 : Heap) (locs1 : List Loc), va_P D vwCl (WX ad cs (st σ 22 7 v)) H1 → va_S A s.heap H1 locs1 → W p l e R s m args below meth c H1 locs1 0 0 Q (F0 m (pc + 3) ls (rest))) : W p l e R s m args below meth c H locs 0 0 Q (F0 m (pc) ls (.int v :: .ref (ad 22) :: rest)) := q_put C hP hS (ci := 7) (k := 7) (T := TX8) (N := 9) (o := 22) rfl rfl inX8 tyX8_ok nmX8 (by decide) rfl rfl rfl (by show 7 < 9; decide) rfl hl hd kk
theorem gX8_7N (C : CX p m c cc nL s args own D (TYX cs) (WX ad cs) A) (hP : va_P D vwCl (WX ad cs σ) H) (hl : Cond.fieldLinkNest own idx "DeputyTown$Trials" "failedFewest" "I" host ∈ lw_nf) (hd : decode cc pc = .ok (.getfield idx, 3)) (kk : W p l e R s m args below meth c H locs 0 0 Q (F0 m (pc + 3) ls (.int (σ 22 7) :: rest))) : W p l e R s m args below meth c H locs 0 0 Q (F0 m (pc) ls (.ref (ad 22) :: rest)) := q_getN C hP (ci := 7) (k := 7) (T := TX8) (N := 9) (o := 22) rfl rfl inX8 (by decide) rfl hl hd kk
theorem pX8_7N (C : CX p m c cc nL s args own D (TYX cs) (WX ad cs) A) (hP : va_P D vwCl (WX ad cs σ) H) (hS : va_S A s.heap H locs) {v : Int32} (hl : Cond.fieldLinkNest own idx "DeputyTown$Trials" "failedFewest" "I" host ∈ lw_nf) (hd : decode cc pc = .ok (.putfield idx, 3)) (kk : ∀ (H1 : Heap) (locs1 : List Loc), va_P D vwCl (WX ad cs (st σ 22 7 v)) H1 → va_S A s.heap H1 locs1 → W p l e R s m args below meth c H1 locs1 0 0 Q (F0 m (pc + 3) ls (rest))) : W p l e R s m args below meth c H locs 0 0 Q (F0 m (pc) ls (.int v :: .ref (ad 22) :: rest)) := q_putN C hP hS (ci := 7) (k := 7) (T := TX8) (N := 9) (o := 22) rfl rfl inX8 tyX8_ok nmX8 (by decide) rfl rfl rfl (by show 7 < 9; decide) rfl hl hd kk
theorem gX8_8 (C : CX p m c cc nL s args own D (TYX cs) (WX ad cs) A) (hP : va_P D vwCl (WX ad cs σ) H) (hl : Cond.fieldLink own idx "DeputyTown$Trials" "failedCommon" "I" ∈ lw_tg) (hd : decode cc pc = .ok (.getfield idx, 3)) (kk : W p l e R s m args below meth c H locs 0 0 Q (F0 m (pc + 3) ls (.int (σ 22 8) :: rest))) : W p l e R s m args below meth c H locs 0 0 Q (F0 m (pc) ls (.ref (ad 22) :: rest)) := q_get C hP (ci := 7) (k := 8) (T := TX8) (N := 9) (o := 22) rfl rfl inX8 (by decide) rfl hl hd kk
theorem pX8_8 (C : CX p m c cc nL s args own D (TYX cs) (WX ad cs) A) (hP : va_P D vwCl (WX ad cs σ) H) (hS : va_S A s.heap H locs) {v : Int32} (hl : Cond.fieldLink own idx "DeputyTown$Trials" "failedCommon" "I" ∈ lw_tg) (hd : decode cc pc = .ok (.putfield idx, 3)) (kk : ∀ (H1 : Heap) (locs1 : List Loc), va_P D vwCl (WX ad cs (st σ 22 8 v)) H1 → va_S A s.heap H1 locs1 → W p l e R s m args below meth c H1 locs1 0 0 Q (F0 m (pc + 3) ls (rest))) : W p l e R s m args below meth c H locs 0 0 Q (F0 m (pc) ls (.int v :: .ref (ad 22) :: rest)) := q_put C hP hS (ci := 7) (k := 8) (T := TX8) (N := 9) (o := 22) rfl rfl inX8 tyX8_ok nmX8 (by decide) rfl rfl rfl (by show 8 < 9; decide) rfl hl hd kk
theorem gX8_8N (C : CX p m c cc nL s args own D (TYX cs) (WX ad cs) A) (hP : va_P D vwCl (WX ad cs σ) H) (hl : Cond.fieldLinkNest own idx "DeputyTown$Trials" "failedCommon" "I" host ∈ lw_nf) (hd : decode cc pc = .ok (.getfield idx, 3)) (kk : W p l e R s m args below meth c H locs 0 0 Q (F0 m (pc + 3) ls (.int (σ 22 8) :: rest))) : W p l e R s m args below meth c H locs 0 0 Q (F0 m (pc) ls (.ref (ad 22) :: rest)) := q_getN C hP (ci := 7) (k := 8) (T := TX8) (N := 9) (o := 22) rfl rfl inX8 (by decide) rfl hl hd kk
theorem pX8_8N (C : CX p m c cc nL s args own D (TYX cs) (WX ad cs) A) (hP : va_P D vwCl (WX ad cs σ) H) (hS : va_S A s.heap H locs) {v : Int32} (hl : Cond.fieldLinkNest own idx "DeputyTown$Trials" "failedCommon" "I" host ∈ lw_nf) (hd : decode cc pc = .ok (.putfield idx, 3)) (kk : ∀ (H1 : Heap) (locs1 : List Loc), va_P D vwCl (WX ad cs (st σ 22 8 v)) H1 → va_S A s.heap H1 locs1 → W p l e R s m args below meth c H1 locs1 0 0 Q (F0 m (pc + 3) ls (rest))) : W p l e R s m args below meth c H locs 0 0 Q (F0 m (pc) ls (.int v :: .ref (ad 22) :: rest)) := q_putN C hP hS (ci := 7) (k := 8) (T := TX8) (N := 9) (o := 22) rfl rfl inX8 tyX8_ok nmX8 (by decide) rfl rfl rfl (by show 8 < 9; decide) rfl hl hd kk
theorem gX0_0 (C : CX p m c cc nL s args own D (TYX cs) (WX ad cs) A) (hP : va_P D vwCl (WX ad cs σ) H) (hl : Cond.fieldLink own idx "DeputyTown$Bodies" "left" "I" ∈ lw_tg) (hd : decode cc pc = .ok (.getfield idx, 3)) (kk : W p l e R s m args below meth c H locs 0 0 Q (F0 m (pc + 3) ls (.int (σ 23 0) :: rest))) : W p l e R s m args below meth c H locs 0 0 Q (F0 m (pc) ls (.ref (ad 23) :: rest)) := q_get C hP (ci := 0) (k := 0) (T := TX0) (N := 1) (o := 23) rfl rfl inX0 (by decide) rfl hl hd kk
theorem pX0_0 (C : CX p m c cc nL s args own D (TYX cs) (WX ad cs) A) (hP : va_P D vwCl (WX ad cs σ) H) (hS : va_S A s.heap H locs) {v : Int32} (hl : Cond.fieldLink own idx "DeputyTown$Bodies" "left" "I" ∈ lw_tg) (hd : decode cc pc = .ok (.putfield idx, 3)) (kk : ∀ (H1 : Heap) (locs1 : List Loc), va_P D vwCl (WX ad cs (st σ 23 0 v)) H1 → va_S A s.heap H1 locs1 → W p l e R s m args below meth c H1 locs1 0 0 Q (F0 m (pc + 3) ls (rest))) : W p l e R s m args below meth c H locs 0 0 Q (F0 m (pc) ls (.int v :: .ref (ad 23) :: rest)) := q_put C hP hS (ci := 0) (k := 0) (T := TX0) (N := 1) (o := 23) rfl rfl inX0 tyX0_ok nmX0 (by decide) rfl rfl rfl (by show 0 < 1; decide) rfl hl hd kk
theorem gX0_0N (C : CX p m c cc nL s args own D (TYX cs) (WX ad cs) A) (hP : va_P D vwCl (WX ad cs σ) H) (hl : Cond.fieldLinkNest own idx "DeputyTown$Bodies" "left" "I" host ∈ lw_nf) (hd : decode cc pc = .ok (.getfield idx, 3)) (kk : W p l e R s m args below meth c H locs 0 0 Q (F0 m (pc + 3) ls (.int (σ 23 0) :: rest))) : W p l e R s m args below meth c H locs 0 0 Q (F0 m (pc) ls (.ref (ad 23) :: rest)) := q_getN C hP (ci := 0) (k := 0) (T := TX0) (N := 1) (o := 23) rfl rfl inX0 (by decide) rfl hl hd kk
theorem pX0_0N (C : CX p m c cc nL s args own D (TYX cs) (WX ad cs) A) (hP : va_P D vwCl (WX ad cs σ) H) (hS : va_S A s.heap H locs) {v : Int32} (hl : Cond.fieldLinkNest own idx "DeputyTown$Bodies" "left" "I" host ∈ lw_nf) (hd : decode cc pc = .ok (.putfield idx, 3)) (kk : ∀ (H1 : Heap) (locs1 : List Loc), va_P D vwCl (WX ad cs (st σ 23 0 v)) H1 → va_S A s.heap H1 locs1 → W p l e R s m args below meth c H1 locs1 0 0 Q (F0 m (pc + 3) ls (rest))) : W p l e R s m args below meth c H locs 0 0 Q (F0 m (pc) ls (.int v :: .ref (ad 23) :: rest)) := q_putN C hP hS (ci := 0) (k := 0) (T := TX0) (N := 1) (o := 23) rfl rfl inX0 tyX0_ok nmX0 (by decide) rfl rfl rfl (by show 0 < 1; decide) rfl hl hd kk
theorem gX6_0 (C : CX p m c cc nL s args own D (TYX cs) (WX ad cs) A) (hP : va_P D vwCl (WX ad cs σ) H) {t : Nat} (ht : t < 8) (hl : Cond.fieldLink own idx "DeputyTown$Thing" "number" "I" ∈ lw_tg) (hd : decode cc pc = .ok (.getfield idx, 3)) (kk : W p l e R s m args below meth c H locs 0 0 Q (F0 m (pc + 3) ls (.int (nI t) :: rest))) : W p l e R s m args below meth c H locs 0 0 Q (F0 m (pc) ls (.ref (ad (4 + t)) :: rest)) := q_get C hP (ci := 5) (k := 0) (T := TX6) (N := 6) (oX_X6 ht) rfl inX6 (by decide) rfl hl hd kk
theorem gX6_0N (C : CX p m c cc nL s args own D (TYX cs) (WX ad cs) A) (hP : va_P D vwCl (WX ad cs σ) H) {t : Nat} (ht : t < 8) (hl : Cond.fieldLinkNest own idx "DeputyTown$Thing" "number" "I" host ∈ lw_nf) (hd : decode cc pc = .ok (.getfield idx, 3)) (kk : W p l e R s m args below meth c H locs 0 0 Q (F0 m (pc + 3) ls (.int (nI t) :: rest))) : W p l e R s m args below meth c H locs 0 0 Q (F0 m (pc) ls (.ref (ad (4 + t)) :: rest)) := q_getN C hP (ci := 5) (k := 0) (T := TX6) (N := 6) (oX_X6 ht) rfl inX6 (by decide) rfl hl hd kk
theorem gX6_1 (C : CX p m c cc nL s args own D (TYX cs) (WX ad cs) A) (hP : va_P D vwCl (WX ad cs σ) H) {t : Nat} (ht : t < 8) (hl : Cond.fieldLink own idx "DeputyTown$Thing" "kind" "I" ∈ lw_tg) (hd : decode cc pc = .ok (.getfield idx, 3)) (kk : W p l e R s m args below meth c H locs 0 0 Q (F0 m (pc + 3) ls (.int (σ (4 + t) 1) :: rest))) : W p l e R s m args below meth c H locs 0 0 Q (F0 m (pc) ls (.ref (ad (4 + t)) :: rest)) := q_get C hP (ci := 5) (k := 1) (T := TX6) (N := 6) (oX_X6 ht) rfl inX6 (by decide) rfl hl hd kk
theorem sX_X6_1 (v : Int32) {t : Nat} (h : t < 8) : (WX ad cs σ).set (4 + t) (ad (4 + t), .inr (5, [.int (nI t), .int v, .int (σ (4 + t) 2), .int (σ (4 + t) 3), .int (σ (4 + t) 4), .int (σ (4 + t) 5)])) = WX ad cs (st σ (4 + t) 1 v) := match t, h with
  | 0, _ => rfl
  | 1, _ => rfl
  | 2, _ => rfl
  | 3, _ => rfl
  | 4, _ => rfl
  | 5, _ => rfl
  | 6, _ => rfl
  | 7, _ => rfl
  | k + 8, h => absurd h (by omega)
theorem pX6_1 (C : CX p m c cc nL s args own D (TYX cs) (WX ad cs) A) (hP : va_P D vwCl (WX ad cs σ) H) {t : Nat} (ht : t < 8) (hS : va_S A s.heap H locs) {v : Int32} (hl : Cond.fieldLink own idx "DeputyTown$Thing" "kind" "I" ∈ lw_tg) (hd : decode cc pc = .ok (.putfield idx, 3)) (kk : ∀ (H1 : Heap) (locs1 : List Loc), va_P D vwCl (WX ad cs (st σ ((4 + t)) 1 v)) H1 → va_S A s.heap H1 locs1 → W p l e R s m args below meth c H1 locs1 0 0 Q (F0 m (pc + 3) ls (rest))) : W p l e R s m args below meth c H locs 0 0 Q (F0 m (pc) ls (.int v :: .ref (ad (4 + t)) :: rest)) := q_put C hP hS (ci := 5) (k := 1) (T := TX6) (N := 6) (oX_X6 ht) rfl inX6 tyX6_ok nmX6 (by decide) rfl rfl rfl (by show 1 < 6; decide) (sX_X6_1 v ht) hl hd kk
theorem gX6_1N (C : CX p m c cc nL s args own D (TYX cs) (WX ad cs) A) (hP : va_P D vwCl (WX ad cs σ) H) {t : Nat} (ht : t < 8) (hl : Cond.fieldLinkNest own idx "DeputyTown$Thing" "kind" "I" host ∈ lw_nf) (hd : decode cc pc = .ok (.getfield idx, 3)) (kk : W p l e R s m args below meth c H locs 0 0 Q (F0 m (pc + 3) ls (.int (σ (4 + t) 1) :: rest))) : W p l e R s m args below meth c H locs 0 0 Q (F0 m (pc) ls (.ref (ad (4 + t)) :: rest)) := q_getN C hP (ci := 5) (k := 1) (T := TX6) (N := 6) (oX_X6 ht) rfl inX6 (by decide) rfl hl hd kk
theorem pX6_1N (C : CX p m c cc nL s args own D (TYX cs) (WX ad cs) A) (hP : va_P D vwCl (WX ad cs σ) H) {t : Nat} (ht : t < 8) (hS : va_S A s.heap H locs) {v : Int32} (hl : Cond.fieldLinkNest own idx "DeputyTown$Thing" "kind" "I" host ∈ lw_nf) (hd : decode cc pc = .ok (.putfield idx, 3)) (kk : ∀ (H1 : Heap) (locs1 : List Loc), va_P D vwCl (WX ad cs (st σ ((4 + t)) 1 v)) H1 → va_S A s.heap H1 locs1 → W p l e R s m args below meth c H1 locs1 0 0 Q (F0 m (pc + 3) ls (rest))) : W p l e R s m args below meth c H locs 0 0 Q (F0 m (pc) ls (.int v :: .ref (ad (4 + t)) :: rest)) := q_putN C hP hS (ci := 5) (k := 1) (T := TX6) (N := 6) (oX_X6 ht) rfl inX6 tyX6_ok nmX6 (by decide) rfl rfl rfl (by show 1 < 6; decide) (sX_X6_1 v ht) hl hd kk
theorem gX6_2 (C : CX p m c cc nL s args own D (TYX cs) (WX ad cs) A) (hP : va_P D vwCl (WX ad cs σ) H) {t : Nat} (ht : t < 8) (hl : Cond.fieldLink own idx "DeputyTown$Thing" "deputy" "I" ∈ lw_tg) (hd : decode cc pc = .ok (.getfield idx, 3)) (kk : W p l e R s m args below meth c H locs 0 0 Q (F0 m (pc + 3) ls (.int (σ (4 + t) 2) :: rest))) : W p l e R s m args below meth c H locs 0 0 Q (F0 m (pc) ls (.ref (ad (4 + t)) :: rest)) := q_get C hP (ci := 5) (k := 2) (T := TX6) (N := 6) (oX_X6 ht) rfl inX6 (by decide) rfl hl hd kk
theorem sX_X6_2 (v : Int32) {t : Nat} (h : t < 8) : (WX ad cs σ).set (4 + t) (ad (4 + t), .inr (5, [.int (nI t), .int (σ (4 + t) 1), .int v, .int (σ (4 + t) 3), .int (σ (4 + t) 4), .int (σ (4 + t) 5)])) = WX ad cs (st σ (4 + t) 2 v) := match t, h with
  | 0, _ => rfl
  | 1, _ => rfl
  | 2, _ => rfl
  | 3, _ => rfl
  | 4, _ => rfl
  | 5, _ => rfl
  | 6, _ => rfl
  | 7, _ => rfl
  | k + 8, h => absurd h (by omega)
theorem pX6_2 (C : CX p m c cc nL s args own D (TYX cs) (WX ad cs) A) (hP : va_P D vwCl (WX ad cs σ) H) {t : Nat} (ht : t < 8) (hS : va_S A s.heap H locs) {v : Int32} (hl : Cond.fieldLink own idx "DeputyTown$Thing" "deputy" "I" ∈ lw_tg) (hd : decode cc pc = .ok (.putfield idx, 3)) (kk : ∀ (H1 : Heap) (locs1 : List Loc), va_P D vwCl (WX ad cs (st σ ((4 + t)) 2 v)) H1 → va_S A s.heap H1 locs1 → W p l e R s m args below meth c H1 locs1 0 0 Q (F0 m (pc + 3) ls (rest))) : W p l e R s m args below meth c H locs 0 0 Q (F0 m (pc) ls (.int v :: .ref (ad (4 + t)) :: rest)) := q_put C hP hS (ci := 5) (k := 2) (T := TX6) (N := 6) (oX_X6 ht) rfl inX6 tyX6_ok nmX6 (by decide) rfl rfl rfl (by show 2 < 6; decide) (sX_X6_2 v ht) hl hd kk
theorem gX6_2N (C : CX p m c cc nL s args own D (TYX cs) (WX ad cs) A) (hP : va_P D vwCl (WX ad cs σ) H) {t : Nat} (ht : t < 8) (hl : Cond.fieldLinkNest own idx "DeputyTown$Thing" "deputy" "I" host ∈ lw_nf) (hd : decode cc pc = .ok (.getfield idx, 3)) (kk : W p l e R s m args below meth c H locs 0 0 Q (F0 m (pc + 3) ls (.int (σ (4 + t) 2) :: rest))) : W p l e R s m args below meth c H locs 0 0 Q (F0 m (pc) ls (.ref (ad (4 + t)) :: rest)) := q_getN C hP (ci := 5) (k := 2) (T := TX6) (N := 6) (oX_X6 ht) rfl inX6 (by decide) rfl hl hd kk
theorem pX6_2N (C : CX p m c cc nL s args own D (TYX cs) (WX ad cs) A) (hP : va_P D vwCl (WX ad cs σ) H) {t : Nat} (ht : t < 8) (hS : va_S A s.heap H locs) {v : Int32} (hl : Cond.fieldLinkNest own idx "DeputyTown$Thing" "deputy" "I" host ∈ lw_nf) (hd : decode cc pc = .ok (.putfield idx, 3)) (kk : ∀ (H1 : Heap) (locs1 : List Loc), va_P D vwCl (WX ad cs (st σ ((4 + t)) 2 v)) H1 → va_S A s.heap H1 locs1 → W p l e R s m args below meth c H1 locs1 0 0 Q (F0 m (pc + 3) ls (rest))) : W p l e R s m args below meth c H locs 0 0 Q (F0 m (pc) ls (.int v :: .ref (ad (4 + t)) :: rest)) := q_putN C hP hS (ci := 5) (k := 2) (T := TX6) (N := 6) (oX_X6 ht) rfl inX6 tyX6_ok nmX6 (by decide) rfl rfl rfl (by show 2 < 6; decide) (sX_X6_2 v ht) hl hd kk
theorem gX6_3 (C : CX p m c cc nL s args own D (TYX cs) (WX ad cs) A) (hP : va_P D vwCl (WX ad cs σ) H) {t : Nat} (ht : t < 8) (hl : Cond.fieldLink own idx "DeputyTown$Thing" "fit" "I" ∈ lw_tg) (hd : decode cc pc = .ok (.getfield idx, 3)) (kk : W p l e R s m args below meth c H locs 0 0 Q (F0 m (pc + 3) ls (.int (σ (4 + t) 3) :: rest))) : W p l e R s m args below meth c H locs 0 0 Q (F0 m (pc) ls (.ref (ad (4 + t)) :: rest)) := q_get C hP (ci := 5) (k := 3) (T := TX6) (N := 6) (oX_X6 ht) rfl inX6 (by decide) rfl hl hd kk
theorem sX_X6_3 (v : Int32) {t : Nat} (h : t < 8) : (WX ad cs σ).set (4 + t) (ad (4 + t), .inr (5, [.int (nI t), .int (σ (4 + t) 1), .int (σ (4 + t) 2), .int v, .int (σ (4 + t) 4), .int (σ (4 + t) 5)])) = WX ad cs (st σ (4 + t) 3 v) := match t, h with
  | 0, _ => rfl
  | 1, _ => rfl
  | 2, _ => rfl
  | 3, _ => rfl
  | 4, _ => rfl
  | 5, _ => rfl
  | 6, _ => rfl
  | 7, _ => rfl
  | k + 8, h => absurd h (by omega)
theorem pX6_3 (C : CX p m c cc nL s args own D (TYX cs) (WX ad cs) A) (hP : va_P D vwCl (WX ad cs σ) H) {t : Nat} (ht : t < 8) (hS : va_S A s.heap H locs) {v : Int32} (hl : Cond.fieldLink own idx "DeputyTown$Thing" "fit" "I" ∈ lw_tg) (hd : decode cc pc = .ok (.putfield idx, 3)) (kk : ∀ (H1 : Heap) (locs1 : List Loc), va_P D vwCl (WX ad cs (st σ ((4 + t)) 3 v)) H1 → va_S A s.heap H1 locs1 → W p l e R s m args below meth c H1 locs1 0 0 Q (F0 m (pc + 3) ls (rest))) : W p l e R s m args below meth c H locs 0 0 Q (F0 m (pc) ls (.int v :: .ref (ad (4 + t)) :: rest)) := q_put C hP hS (ci := 5) (k := 3) (T := TX6) (N := 6) (oX_X6 ht) rfl inX6 tyX6_ok nmX6 (by decide) rfl rfl rfl (by show 3 < 6; decide) (sX_X6_3 v ht) hl hd kk
theorem gX6_3N (C : CX p m c cc nL s args own D (TYX cs) (WX ad cs) A) (hP : va_P D vwCl (WX ad cs σ) H) {t : Nat} (ht : t < 8) (hl : Cond.fieldLinkNest own idx "DeputyTown$Thing" "fit" "I" host ∈ lw_nf) (hd : decode cc pc = .ok (.getfield idx, 3)) (kk : W p l e R s m args below meth c H locs 0 0 Q (F0 m (pc + 3) ls (.int (σ (4 + t) 3) :: rest))) : W p l e R s m args below meth c H locs 0 0 Q (F0 m (pc) ls (.ref (ad (4 + t)) :: rest)) := q_getN C hP (ci := 5) (k := 3) (T := TX6) (N := 6) (oX_X6 ht) rfl inX6 (by decide) rfl hl hd kk
theorem pX6_3N (C : CX p m c cc nL s args own D (TYX cs) (WX ad cs) A) (hP : va_P D vwCl (WX ad cs σ) H) {t : Nat} (ht : t < 8) (hS : va_S A s.heap H locs) {v : Int32} (hl : Cond.fieldLinkNest own idx "DeputyTown$Thing" "fit" "I" host ∈ lw_nf) (hd : decode cc pc = .ok (.putfield idx, 3)) (kk : ∀ (H1 : Heap) (locs1 : List Loc), va_P D vwCl (WX ad cs (st σ ((4 + t)) 3 v)) H1 → va_S A s.heap H1 locs1 → W p l e R s m args below meth c H1 locs1 0 0 Q (F0 m (pc + 3) ls (rest))) : W p l e R s m args below meth c H locs 0 0 Q (F0 m (pc) ls (.int v :: .ref (ad (4 + t)) :: rest)) := q_putN C hP hS (ci := 5) (k := 3) (T := TX6) (N := 6) (oX_X6 ht) rfl inX6 tyX6_ok nmX6 (by decide) rfl rfl rfl (by show 3 < 6; decide) (sX_X6_3 v ht) hl hd kk
theorem gX6_4 (C : CX p m c cc nL s args own D (TYX cs) (WX ad cs) A) (hP : va_P D vwCl (WX ad cs σ) H) {t : Nat} (ht : t < 8) (hl : Cond.fieldLink own idx "DeputyTown$Thing" "lasts" "I" ∈ lw_tg) (hd : decode cc pc = .ok (.getfield idx, 3)) (kk : W p l e R s m args below meth c H locs 0 0 Q (F0 m (pc + 3) ls (.int (σ (4 + t) 4) :: rest))) : W p l e R s m args below meth c H locs 0 0 Q (F0 m (pc) ls (.ref (ad (4 + t)) :: rest)) := q_get C hP (ci := 5) (k := 4) (T := TX6) (N := 6) (oX_X6 ht) rfl inX6 (by decide) rfl hl hd kk
theorem sX_X6_4 (v : Int32) {t : Nat} (h : t < 8) : (WX ad cs σ).set (4 + t) (ad (4 + t), .inr (5, [.int (nI t), .int (σ (4 + t) 1), .int (σ (4 + t) 2), .int (σ (4 + t) 3), .int v, .int (σ (4 + t) 5)])) = WX ad cs (st σ (4 + t) 4 v) := match t, h with
  | 0, _ => rfl
  | 1, _ => rfl
  | 2, _ => rfl
  | 3, _ => rfl
  | 4, _ => rfl
  | 5, _ => rfl
  | 6, _ => rfl
  | 7, _ => rfl
  | k + 8, h => absurd h (by omega)
theorem pX6_4 (C : CX p m c cc nL s args own D (TYX cs) (WX ad cs) A) (hP : va_P D vwCl (WX ad cs σ) H) {t : Nat} (ht : t < 8) (hS : va_S A s.heap H locs) {v : Int32} (hl : Cond.fieldLink own idx "DeputyTown$Thing" "lasts" "I" ∈ lw_tg) (hd : decode cc pc = .ok (.putfield idx, 3)) (kk : ∀ (H1 : Heap) (locs1 : List Loc), va_P D vwCl (WX ad cs (st σ ((4 + t)) 4 v)) H1 → va_S A s.heap H1 locs1 → W p l e R s m args below meth c H1 locs1 0 0 Q (F0 m (pc + 3) ls (rest))) : W p l e R s m args below meth c H locs 0 0 Q (F0 m (pc) ls (.int v :: .ref (ad (4 + t)) :: rest)) := q_put C hP hS (ci := 5) (k := 4) (T := TX6) (N := 6) (oX_X6 ht) rfl inX6 tyX6_ok nmX6 (by decide) rfl rfl rfl (by show 4 < 6; decide) (sX_X6_4 v ht) hl hd kk
theorem gX6_4N (C : CX p m c cc nL s args own D (TYX cs) (WX ad cs) A) (hP : va_P D vwCl (WX ad cs σ) H) {t : Nat} (ht : t < 8) (hl : Cond.fieldLinkNest own idx "DeputyTown$Thing" "lasts" "I" host ∈ lw_nf) (hd : decode cc pc = .ok (.getfield idx, 3)) (kk : W p l e R s m args below meth c H locs 0 0 Q (F0 m (pc + 3) ls (.int (σ (4 + t) 4) :: rest))) : W p l e R s m args below meth c H locs 0 0 Q (F0 m (pc) ls (.ref (ad (4 + t)) :: rest)) := q_getN C hP (ci := 5) (k := 4) (T := TX6) (N := 6) (oX_X6 ht) rfl inX6 (by decide) rfl hl hd kk
theorem pX6_4N (C : CX p m c cc nL s args own D (TYX cs) (WX ad cs) A) (hP : va_P D vwCl (WX ad cs σ) H) {t : Nat} (ht : t < 8) (hS : va_S A s.heap H locs) {v : Int32} (hl : Cond.fieldLinkNest own idx "DeputyTown$Thing" "lasts" "I" host ∈ lw_nf) (hd : decode cc pc = .ok (.putfield idx, 3)) (kk : ∀ (H1 : Heap) (locs1 : List Loc), va_P D vwCl (WX ad cs (st σ ((4 + t)) 4 v)) H1 → va_S A s.heap H1 locs1 → W p l e R s m args below meth c H1 locs1 0 0 Q (F0 m (pc + 3) ls (rest))) : W p l e R s m args below meth c H locs 0 0 Q (F0 m (pc) ls (.int v :: .ref (ad (4 + t)) :: rest)) := q_putN C hP hS (ci := 5) (k := 4) (T := TX6) (N := 6) (oX_X6 ht) rfl inX6 tyX6_ok nmX6 (by decide) rfl rfl rfl (by show 4 < 6; decide) (sX_X6_4 v ht) hl hd kk
theorem gX6_5 (C : CX p m c cc nL s args own D (TYX cs) (WX ad cs) A) (hP : va_P D vwCl (WX ad cs σ) H) {t : Nat} (ht : t < 8) (hl : Cond.fieldLink own idx "DeputyTown$Thing" "good" "I" ∈ lw_tg) (hd : decode cc pc = .ok (.getfield idx, 3)) (kk : W p l e R s m args below meth c H locs 0 0 Q (F0 m (pc + 3) ls (.int (σ (4 + t) 5) :: rest))) : W p l e R s m args below meth c H locs 0 0 Q (F0 m (pc) ls (.ref (ad (4 + t)) :: rest)) := q_get C hP (ci := 5) (k := 5) (T := TX6) (N := 6) (oX_X6 ht) rfl inX6 (by decide) rfl hl hd kk
theorem sX_X6_5 (v : Int32) {t : Nat} (h : t < 8) : (WX ad cs σ).set (4 + t) (ad (4 + t), .inr (5, [.int (nI t), .int (σ (4 + t) 1), .int (σ (4 + t) 2), .int (σ (4 + t) 3), .int (σ (4 + t) 4), .int v])) = WX ad cs (st σ (4 + t) 5 v) := match t, h with
  | 0, _ => rfl
  | 1, _ => rfl
  | 2, _ => rfl
  | 3, _ => rfl
  | 4, _ => rfl
  | 5, _ => rfl
  | 6, _ => rfl
  | 7, _ => rfl
  | k + 8, h => absurd h (by omega)
theorem pX6_5 (C : CX p m c cc nL s args own D (TYX cs) (WX ad cs) A) (hP : va_P D vwCl (WX ad cs σ) H) {t : Nat} (ht : t < 8) (hS : va_S A s.heap H locs) {v : Int32} (hl : Cond.fieldLink own idx "DeputyTown$Thing" "good" "I" ∈ lw_tg) (hd : decode cc pc = .ok (.putfield idx, 3)) (kk : ∀ (H1 : Heap) (locs1 : List Loc), va_P D vwCl (WX ad cs (st σ ((4 + t)) 5 v)) H1 → va_S A s.heap H1 locs1 → W p l e R s m args below meth c H1 locs1 0 0 Q (F0 m (pc + 3) ls (rest))) : W p l e R s m args below meth c H locs 0 0 Q (F0 m (pc) ls (.int v :: .ref (ad (4 + t)) :: rest)) := q_put C hP hS (ci := 5) (k := 5) (T := TX6) (N := 6) (oX_X6 ht) rfl inX6 tyX6_ok nmX6 (by decide) rfl rfl rfl (by show 5 < 6; decide) (sX_X6_5 v ht) hl hd kk
theorem gX6_5N (C : CX p m c cc nL s args own D (TYX cs) (WX ad cs) A) (hP : va_P D vwCl (WX ad cs σ) H) {t : Nat} (ht : t < 8) (hl : Cond.fieldLinkNest own idx "DeputyTown$Thing" "good" "I" host ∈ lw_nf) (hd : decode cc pc = .ok (.getfield idx, 3)) (kk : W p l e R s m args below meth c H locs 0 0 Q (F0 m (pc + 3) ls (.int (σ (4 + t) 5) :: rest))) : W p l e R s m args below meth c H locs 0 0 Q (F0 m (pc) ls (.ref (ad (4 + t)) :: rest)) := q_getN C hP (ci := 5) (k := 5) (T := TX6) (N := 6) (oX_X6 ht) rfl inX6 (by decide) rfl hl hd kk
theorem pX6_5N (C : CX p m c cc nL s args own D (TYX cs) (WX ad cs) A) (hP : va_P D vwCl (WX ad cs σ) H) {t : Nat} (ht : t < 8) (hS : va_S A s.heap H locs) {v : Int32} (hl : Cond.fieldLinkNest own idx "DeputyTown$Thing" "good" "I" host ∈ lw_nf) (hd : decode cc pc = .ok (.putfield idx, 3)) (kk : ∀ (H1 : Heap) (locs1 : List Loc), va_P D vwCl (WX ad cs (st σ ((4 + t)) 5 v)) H1 → va_S A s.heap H1 locs1 → W p l e R s m args below meth c H1 locs1 0 0 Q (F0 m (pc + 3) ls (rest))) : W p l e R s m args below meth c H locs 0 0 Q (F0 m (pc) ls (.int v :: .ref (ad (4 + t)) :: rest)) := q_putN C hP hS (ci := 5) (k := 5) (T := TX6) (N := 6) (oX_X6 ht) rfl inX6 tyX6_ok nmX6 (by decide) rfl rfl rfl (by show 5 < 6; decide) (sX_X6_5 v ht) hl hd kk
theorem gX4_0 (C : CX p m c cc nL s args own D (TYX cs) (WX ad cs) A) (hP : va_P D vwCl (WX ad cs σ) H) {t : Nat} (ht : t < 4) (hl : Cond.fieldLink own idx "DeputyTown$Sheet" "cells" "[I" ∈ lw_tg) (hd : decode cc pc = .ok (.getfield idx, 3)) (kk : W p l e R s m args below meth c H locs 0 0 Q (F0 m (pc + 3) ls (.ref (ad (28 + t)) :: rest))) : W p l e R s m args below meth c H locs 0 0 Q (F0 m (pc) ls (.ref (ad (24 + t)) :: rest)) := q_get C hP (ci := 4) (k := 0) (T := TX4) (N := 4) (oX_X4 ht) rfl inX4 (by decide) rfl hl hd kk
theorem gX4_0N (C : CX p m c cc nL s args own D (TYX cs) (WX ad cs) A) (hP : va_P D vwCl (WX ad cs σ) H) {t : Nat} (ht : t < 4) (hl : Cond.fieldLinkNest own idx "DeputyTown$Sheet" "cells" "[I" host ∈ lw_nf) (hd : decode cc pc = .ok (.getfield idx, 3)) (kk : W p l e R s m args below meth c H locs 0 0 Q (F0 m (pc + 3) ls (.ref (ad (28 + t)) :: rest))) : W p l e R s m args below meth c H locs 0 0 Q (F0 m (pc) ls (.ref (ad (24 + t)) :: rest)) := q_getN C hP (ci := 4) (k := 0) (T := TX4) (N := 4) (oX_X4 ht) rfl inX4 (by decide) rfl hl hd kk
theorem gX4_1 (C : CX p m c cc nL s args own D (TYX cs) (WX ad cs) A) (hP : va_P D vwCl (WX ad cs σ) H) {t : Nat} (ht : t < 4) (hl : Cond.fieldLink own idx "DeputyTown$Sheet" "has" "Z" ∈ lw_tg) (hd : decode cc pc = .ok (.getfield idx, 3)) (kk : W p l e R s m args below meth c H locs 0 0 Q (F0 m (pc + 3) ls (.int (σ (24 + t) 1) :: rest))) : W p l e R s m args below meth c H locs 0 0 Q (F0 m (pc) ls (.ref (ad (24 + t)) :: rest)) := q_get C hP (ci := 4) (k := 1) (T := TX4) (N := 4) (oX_X4 ht) rfl inX4 (by decide) rfl hl hd kk
theorem sX_X4_1 (v : Int32) {t : Nat} (h : t < 4) : (WX ad cs σ).set (24 + t) (ad (24 + t), .inr (4, [.ref (ad (28 + t)), .int v, .int (σ (24 + t) 2), .int (σ (24 + t) 3)])) = WX ad cs (st σ (24 + t) 1 v) := match t, h with
  | 0, _ => rfl
  | 1, _ => rfl
  | 2, _ => rfl
  | 3, _ => rfl
  | k + 4, h => absurd h (by omega)
theorem pX4_1 (C : CX p m c cc nL s args own D (TYX cs) (WX ad cs) A) (hP : va_P D vwCl (WX ad cs σ) H) {t : Nat} (ht : t < 4) (hS : va_S A s.heap H locs) {v : Int32} (hn : v = 0 ∨ v = 1) (hl : Cond.fieldLink own idx "DeputyTown$Sheet" "has" "Z" ∈ lw_tg) (hd : decode cc pc = .ok (.putfield idx, 3)) (kk : ∀ (H1 : Heap) (locs1 : List Loc), va_P D vwCl (WX ad cs (st σ ((24 + t)) 1 v)) H1 → va_S A s.heap H1 locs1 → W p l e R s m args below meth c H1 locs1 0 0 Q (F0 m (pc + 3) ls (rest))) : W p l e R s m args below meth c H locs 0 0 Q (F0 m (pc) ls (.int v :: .ref (ad (24 + t)) :: rest)) := q_put C hP hS (ci := 4) (k := 1) (T := TX4) (N := 4) (oX_X4 ht) rfl inX4 tyX4_ok nmX4 (by decide) rfl (z01 hn) (by rcases hn with rfl | rfl <;> rfl) (by show 1 < 4; decide) (sX_X4_1 v ht) hl hd kk
theorem gX4_1N (C : CX p m c cc nL s args own D (TYX cs) (WX ad cs) A) (hP : va_P D vwCl (WX ad cs σ) H) {t : Nat} (ht : t < 4) (hl : Cond.fieldLinkNest own idx "DeputyTown$Sheet" "has" "Z" host ∈ lw_nf) (hd : decode cc pc = .ok (.getfield idx, 3)) (kk : W p l e R s m args below meth c H locs 0 0 Q (F0 m (pc + 3) ls (.int (σ (24 + t) 1) :: rest))) : W p l e R s m args below meth c H locs 0 0 Q (F0 m (pc) ls (.ref (ad (24 + t)) :: rest)) := q_getN C hP (ci := 4) (k := 1) (T := TX4) (N := 4) (oX_X4 ht) rfl inX4 (by decide) rfl hl hd kk
theorem pX4_1N (C : CX p m c cc nL s args own D (TYX cs) (WX ad cs) A) (hP : va_P D vwCl (WX ad cs σ) H) {t : Nat} (ht : t < 4) (hS : va_S A s.heap H locs) {v : Int32} (hn : v = 0 ∨ v = 1) (hl : Cond.fieldLinkNest own idx "DeputyTown$Sheet" "has" "Z" host ∈ lw_nf) (hd : decode cc pc = .ok (.putfield idx, 3)) (kk : ∀ (H1 : Heap) (locs1 : List Loc), va_P D vwCl (WX ad cs (st σ ((24 + t)) 1 v)) H1 → va_S A s.heap H1 locs1 → W p l e R s m args below meth c H1 locs1 0 0 Q (F0 m (pc + 3) ls (rest))) : W p l e R s m args below meth c H locs 0 0 Q (F0 m (pc) ls (.int v :: .ref (ad (24 + t)) :: rest)) := q_putN C hP hS (ci := 4) (k := 1) (T := TX4) (N := 4) (oX_X4 ht) rfl inX4 tyX4_ok nmX4 (by decide) rfl (z01 hn) (by rcases hn with rfl | rfl <;> rfl) (by show 1 < 4; decide) (sX_X4_1 v ht) hl hd kk
theorem gX4_2 (C : CX p m c cc nL s args own D (TYX cs) (WX ad cs) A) (hP : va_P D vwCl (WX ad cs σ) H) {t : Nat} (ht : t < 4) (hl : Cond.fieldLink own idx "DeputyTown$Sheet" "lane" "I" ∈ lw_tg) (hd : decode cc pc = .ok (.getfield idx, 3)) (kk : W p l e R s m args below meth c H locs 0 0 Q (F0 m (pc + 3) ls (.int (σ (24 + t) 2) :: rest))) : W p l e R s m args below meth c H locs 0 0 Q (F0 m (pc) ls (.ref (ad (24 + t)) :: rest)) := q_get C hP (ci := 4) (k := 2) (T := TX4) (N := 4) (oX_X4 ht) rfl inX4 (by decide) rfl hl hd kk
theorem sX_X4_2 (v : Int32) {t : Nat} (h : t < 4) : (WX ad cs σ).set (24 + t) (ad (24 + t), .inr (4, [.ref (ad (28 + t)), .int (σ (24 + t) 1), .int v, .int (σ (24 + t) 3)])) = WX ad cs (st σ (24 + t) 2 v) := match t, h with
  | 0, _ => rfl
  | 1, _ => rfl
  | 2, _ => rfl
  | 3, _ => rfl
  | k + 4, h => absurd h (by omega)
theorem pX4_2 (C : CX p m c cc nL s args own D (TYX cs) (WX ad cs) A) (hP : va_P D vwCl (WX ad cs σ) H) {t : Nat} (ht : t < 4) (hS : va_S A s.heap H locs) {v : Int32} (hl : Cond.fieldLink own idx "DeputyTown$Sheet" "lane" "I" ∈ lw_tg) (hd : decode cc pc = .ok (.putfield idx, 3)) (kk : ∀ (H1 : Heap) (locs1 : List Loc), va_P D vwCl (WX ad cs (st σ ((24 + t)) 2 v)) H1 → va_S A s.heap H1 locs1 → W p l e R s m args below meth c H1 locs1 0 0 Q (F0 m (pc + 3) ls (rest))) : W p l e R s m args below meth c H locs 0 0 Q (F0 m (pc) ls (.int v :: .ref (ad (24 + t)) :: rest)) := q_put C hP hS (ci := 4) (k := 2) (T := TX4) (N := 4) (oX_X4 ht) rfl inX4 tyX4_ok nmX4 (by decide) rfl rfl rfl (by show 2 < 4; decide) (sX_X4_2 v ht) hl hd kk
theorem gX4_2N (C : CX p m c cc nL s args own D (TYX cs) (WX ad cs) A) (hP : va_P D vwCl (WX ad cs σ) H) {t : Nat} (ht : t < 4) (hl : Cond.fieldLinkNest own idx "DeputyTown$Sheet" "lane" "I" host ∈ lw_nf) (hd : decode cc pc = .ok (.getfield idx, 3)) (kk : W p l e R s m args below meth c H locs 0 0 Q (F0 m (pc + 3) ls (.int (σ (24 + t) 2) :: rest))) : W p l e R s m args below meth c H locs 0 0 Q (F0 m (pc) ls (.ref (ad (24 + t)) :: rest)) := q_getN C hP (ci := 4) (k := 2) (T := TX4) (N := 4) (oX_X4 ht) rfl inX4 (by decide) rfl hl hd kk
theorem pX4_2N (C : CX p m c cc nL s args own D (TYX cs) (WX ad cs) A) (hP : va_P D vwCl (WX ad cs σ) H) {t : Nat} (ht : t < 4) (hS : va_S A s.heap H locs) {v : Int32} (hl : Cond.fieldLinkNest own idx "DeputyTown$Sheet" "lane" "I" host ∈ lw_nf) (hd : decode cc pc = .ok (.putfield idx, 3)) (kk : ∀ (H1 : Heap) (locs1 : List Loc), va_P D vwCl (WX ad cs (st σ ((24 + t)) 2 v)) H1 → va_S A s.heap H1 locs1 → W p l e R s m args below meth c H1 locs1 0 0 Q (F0 m (pc + 3) ls (rest))) : W p l e R s m args below meth c H locs 0 0 Q (F0 m (pc) ls (.int v :: .ref (ad (24 + t)) :: rest)) := q_putN C hP hS (ci := 4) (k := 2) (T := TX4) (N := 4) (oX_X4 ht) rfl inX4 tyX4_ok nmX4 (by decide) rfl rfl rfl (by show 2 < 4; decide) (sX_X4_2 v ht) hl hd kk
theorem gX4_3 (C : CX p m c cc nL s args own D (TYX cs) (WX ad cs) A) (hP : va_P D vwCl (WX ad cs σ) H) {t : Nat} (ht : t < 4) (hl : Cond.fieldLink own idx "DeputyTown$Sheet" "length" "I" ∈ lw_tg) (hd : decode cc pc = .ok (.getfield idx, 3)) (kk : W p l e R s m args below meth c H locs 0 0 Q (F0 m (pc + 3) ls (.int (σ (24 + t) 3) :: rest))) : W p l e R s m args below meth c H locs 0 0 Q (F0 m (pc) ls (.ref (ad (24 + t)) :: rest)) := q_get C hP (ci := 4) (k := 3) (T := TX4) (N := 4) (oX_X4 ht) rfl inX4 (by decide) rfl hl hd kk
theorem sX_X4_3 (v : Int32) {t : Nat} (h : t < 4) : (WX ad cs σ).set (24 + t) (ad (24 + t), .inr (4, [.ref (ad (28 + t)), .int (σ (24 + t) 1), .int (σ (24 + t) 2), .int v])) = WX ad cs (st σ (24 + t) 3 v) := match t, h with
  | 0, _ => rfl
  | 1, _ => rfl
  | 2, _ => rfl
  | 3, _ => rfl
  | k + 4, h => absurd h (by omega)
theorem pX4_3 (C : CX p m c cc nL s args own D (TYX cs) (WX ad cs) A) (hP : va_P D vwCl (WX ad cs σ) H) {t : Nat} (ht : t < 4) (hS : va_S A s.heap H locs) {v : Int32} (hl : Cond.fieldLink own idx "DeputyTown$Sheet" "length" "I" ∈ lw_tg) (hd : decode cc pc = .ok (.putfield idx, 3)) (kk : ∀ (H1 : Heap) (locs1 : List Loc), va_P D vwCl (WX ad cs (st σ ((24 + t)) 3 v)) H1 → va_S A s.heap H1 locs1 → W p l e R s m args below meth c H1 locs1 0 0 Q (F0 m (pc + 3) ls (rest))) : W p l e R s m args below meth c H locs 0 0 Q (F0 m (pc) ls (.int v :: .ref (ad (24 + t)) :: rest)) := q_put C hP hS (ci := 4) (k := 3) (T := TX4) (N := 4) (oX_X4 ht) rfl inX4 tyX4_ok nmX4 (by decide) rfl rfl rfl (by show 3 < 4; decide) (sX_X4_3 v ht) hl hd kk
theorem gX4_3N (C : CX p m c cc nL s args own D (TYX cs) (WX ad cs) A) (hP : va_P D vwCl (WX ad cs σ) H) {t : Nat} (ht : t < 4) (hl : Cond.fieldLinkNest own idx "DeputyTown$Sheet" "length" "I" host ∈ lw_nf) (hd : decode cc pc = .ok (.getfield idx, 3)) (kk : W p l e R s m args below meth c H locs 0 0 Q (F0 m (pc + 3) ls (.int (σ (24 + t) 3) :: rest))) : W p l e R s m args below meth c H locs 0 0 Q (F0 m (pc) ls (.ref (ad (24 + t)) :: rest)) := q_getN C hP (ci := 4) (k := 3) (T := TX4) (N := 4) (oX_X4 ht) rfl inX4 (by decide) rfl hl hd kk
theorem pX4_3N (C : CX p m c cc nL s args own D (TYX cs) (WX ad cs) A) (hP : va_P D vwCl (WX ad cs σ) H) {t : Nat} (ht : t < 4) (hS : va_S A s.heap H locs) {v : Int32} (hl : Cond.fieldLinkNest own idx "DeputyTown$Sheet" "length" "I" host ∈ lw_nf) (hd : decode cc pc = .ok (.putfield idx, 3)) (kk : ∀ (H1 : Heap) (locs1 : List Loc), va_P D vwCl (WX ad cs (st σ ((24 + t)) 3 v)) H1 → va_S A s.heap H1 locs1 → W p l e R s m args below meth c H1 locs1 0 0 Q (F0 m (pc + 3) ls (rest))) : W p l e R s m args below meth c H locs 0 0 Q (F0 m (pc) ls (.int v :: .ref (ad (24 + t)) :: rest)) := q_putN C hP hS (ci := 4) (k := 3) (T := TX4) (N := 4) (oX_X4 ht) rfl inX4 tyX4_ok nmX4 (by decide) rfl rfl rfl (by show 3 < 4; decide) (sX_X4_3 v ht) hl hd kk
theorem gX10_0 (C : CX p m c cc nL s args own D (TYM cs) (WM ad cs) A) (hP : va_P D vwCl (WM ad cs σ) H) (hl : Cond.fieldLink own idx "DeputyTownModel" "fault" "I" ∈ lw_tg) (hd : decode cc pc = .ok (.getfield idx, 3)) (kk : W p l e R s m args below meth c H locs 0 0 Q (F0 m (pc + 3) ls (.int (σ 0 0) :: rest))) : W p l e R s m args below meth c H locs 0 0 Q (F0 m (pc) ls (.ref (ad 0) :: rest)) := q_get C hP (ci := 9) (k := 0) (T := TX10) (N := 29) (o := 0) rfl rfl inX10 (by decide) rfl hl hd kk
theorem pX10_0 (C : CX p m c cc nL s args own D (TYM cs) (WM ad cs) A) (hP : va_P D vwCl (WM ad cs σ) H) (hS : va_S A s.heap H locs) {v : Int32} (hl : Cond.fieldLink own idx "DeputyTownModel" "fault" "I" ∈ lw_tg) (hd : decode cc pc = .ok (.putfield idx, 3)) (kk : ∀ (H1 : Heap) (locs1 : List Loc), va_P D vwCl (WM ad cs (st σ 0 0 v)) H1 → va_S A s.heap H1 locs1 → W p l e R s m args below meth c H1 locs1 0 0 Q (F0 m (pc + 3) ls (rest))) : W p l e R s m args below meth c H locs 0 0 Q (F0 m (pc) ls (.int v :: .ref (ad 0) :: rest)) := q_put C hP hS (ci := 9) (k := 0) (T := TX10) (N := 29) (o := 0) rfl rfl inX10 tyX10_ok nmX10 (by decide) rfl rfl rfl (by show 0 < 29; decide) rfl hl hd kk
theorem gX10_1 (C : CX p m c cc nL s args own D (TYM cs) (WM ad cs) A) (hP : va_P D vwCl (WM ad cs σ) H) (hl : Cond.fieldLink own idx "DeputyTownModel" "things" "I" ∈ lw_tg) (hd : decode cc pc = .ok (.getfield idx, 3)) (kk : W p l e R s m args below meth c H locs 0 0 Q (F0 m (pc + 3) ls (.int (σ 0 1) :: rest))) : W p l e R s m args below meth c H locs 0 0 Q (F0 m (pc) ls (.ref (ad 0) :: rest)) := q_get C hP (ci := 9) (k := 1) (T := TX10) (N := 29) (o := 0) rfl rfl inX10 (by decide) rfl hl hd kk
theorem pX10_1 (C : CX p m c cc nL s args own D (TYM cs) (WM ad cs) A) (hP : va_P D vwCl (WM ad cs σ) H) (hS : va_S A s.heap H locs) {v : Int32} (hl : Cond.fieldLink own idx "DeputyTownModel" "things" "I" ∈ lw_tg) (hd : decode cc pc = .ok (.putfield idx, 3)) (kk : ∀ (H1 : Heap) (locs1 : List Loc), va_P D vwCl (WM ad cs (st σ 0 1 v)) H1 → va_S A s.heap H1 locs1 → W p l e R s m args below meth c H1 locs1 0 0 Q (F0 m (pc + 3) ls (rest))) : W p l e R s m args below meth c H locs 0 0 Q (F0 m (pc) ls (.int v :: .ref (ad 0) :: rest)) := q_put C hP hS (ci := 9) (k := 1) (T := TX10) (N := 29) (o := 0) rfl rfl inX10 tyX10_ok nmX10 (by decide) rfl rfl rfl (by show 1 < 29; decide) rfl hl hd kk
theorem gX10_2 (C : CX p m c cc nL s args own D (TYM cs) (WM ad cs) A) (hP : va_P D vwCl (WM ad cs σ) H) (hl : Cond.fieldLink own idx "DeputyTownModel" "kindOf" "[I" ∈ lw_tg) (hd : decode cc pc = .ok (.getfield idx, 3)) (kk : W p l e R s m args below meth c H locs 0 0 Q (F0 m (pc + 3) ls (.ref (ad 1) :: rest))) : W p l e R s m args below meth c H locs 0 0 Q (F0 m (pc) ls (.ref (ad 0) :: rest)) := q_get C hP (ci := 9) (k := 2) (T := TX10) (N := 29) (o := 0) rfl rfl inX10 (by decide) rfl hl hd kk
theorem gX10_3 (C : CX p m c cc nL s args own D (TYM cs) (WM ad cs) A) (hP : va_P D vwCl (WM ad cs σ) H) (hl : Cond.fieldLink own idx "DeputyTownModel" "deputyOf" "[I" ∈ lw_tg) (hd : decode cc pc = .ok (.getfield idx, 3)) (kk : W p l e R s m args below meth c H locs 0 0 Q (F0 m (pc + 3) ls (.ref (ad 2) :: rest))) : W p l e R s m args below meth c H locs 0 0 Q (F0 m (pc) ls (.ref (ad 0) :: rest)) := q_get C hP (ci := 9) (k := 3) (T := TX10) (N := 29) (o := 0) rfl rfl inX10 (by decide) rfl hl hd kk
theorem gX10_4 (C : CX p m c cc nL s args own D (TYM cs) (WM ad cs) A) (hP : va_P D vwCl (WM ad cs σ) H) (hl : Cond.fieldLink own idx "DeputyTownModel" "fitOf" "[I" ∈ lw_tg) (hd : decode cc pc = .ok (.getfield idx, 3)) (kk : W p l e R s m args below meth c H locs 0 0 Q (F0 m (pc + 3) ls (.ref (ad 3) :: rest))) : W p l e R s m args below meth c H locs 0 0 Q (F0 m (pc) ls (.ref (ad 0) :: rest)) := q_get C hP (ci := 9) (k := 4) (T := TX10) (N := 29) (o := 0) rfl rfl inX10 (by decide) rfl hl hd kk
theorem gX10_5 (C : CX p m c cc nL s args own D (TYM cs) (WM ad cs) A) (hP : va_P D vwCl (WM ad cs σ) H) (hl : Cond.fieldLink own idx "DeputyTownModel" "lastsOf" "[I" ∈ lw_tg) (hd : decode cc pc = .ok (.getfield idx, 3)) (kk : W p l e R s m args below meth c H locs 0 0 Q (F0 m (pc + 3) ls (.ref (ad 4) :: rest))) : W p l e R s m args below meth c H locs 0 0 Q (F0 m (pc) ls (.ref (ad 0) :: rest)) := q_get C hP (ci := 9) (k := 5) (T := TX10) (N := 29) (o := 0) rfl rfl inX10 (by decide) rfl hl hd kk
theorem gX10_6 (C : CX p m c cc nL s args own D (TYM cs) (WM ad cs) A) (hP : va_P D vwCl (WM ad cs σ) H) (hl : Cond.fieldLink own idx "DeputyTownModel" "lawNow" "I" ∈ lw_tg) (hd : decode cc pc = .ok (.getfield idx, 3)) (kk : W p l e R s m args below meth c H locs 0 0 Q (F0 m (pc + 3) ls (.int (σ 0 6) :: rest))) : W p l e R s m args below meth c H locs 0 0 Q (F0 m (pc) ls (.ref (ad 0) :: rest)) := q_get C hP (ci := 9) (k := 6) (T := TX10) (N := 29) (o := 0) rfl rfl inX10 (by decide) rfl hl hd kk
theorem pX10_6 (C : CX p m c cc nL s args own D (TYM cs) (WM ad cs) A) (hP : va_P D vwCl (WM ad cs σ) H) (hS : va_S A s.heap H locs) {v : Int32} (hl : Cond.fieldLink own idx "DeputyTownModel" "lawNow" "I" ∈ lw_tg) (hd : decode cc pc = .ok (.putfield idx, 3)) (kk : ∀ (H1 : Heap) (locs1 : List Loc), va_P D vwCl (WM ad cs (st σ 0 6 v)) H1 → va_S A s.heap H1 locs1 → W p l e R s m args below meth c H1 locs1 0 0 Q (F0 m (pc + 3) ls (rest))) : W p l e R s m args below meth c H locs 0 0 Q (F0 m (pc) ls (.int v :: .ref (ad 0) :: rest)) := q_put C hP hS (ci := 9) (k := 6) (T := TX10) (N := 29) (o := 0) rfl rfl inX10 tyX10_ok nmX10 (by decide) rfl rfl rfl (by show 6 < 29; decide) rfl hl hd kk
theorem gX10_7 (C : CX p m c cc nL s args own D (TYM cs) (WM ad cs) A) (hP : va_P D vwCl (WM ad cs σ) H) (hl : Cond.fieldLink own idx "DeputyTownModel" "readAt" "I" ∈ lw_tg) (hd : decode cc pc = .ok (.getfield idx, 3)) (kk : W p l e R s m args below meth c H locs 0 0 Q (F0 m (pc + 3) ls (.int (σ 0 7) :: rest))) : W p l e R s m args below meth c H locs 0 0 Q (F0 m (pc) ls (.ref (ad 0) :: rest)) := q_get C hP (ci := 9) (k := 7) (T := TX10) (N := 29) (o := 0) rfl rfl inX10 (by decide) rfl hl hd kk
theorem pX10_7 (C : CX p m c cc nL s args own D (TYM cs) (WM ad cs) A) (hP : va_P D vwCl (WM ad cs σ) H) (hS : va_S A s.heap H locs) {v : Int32} (hl : Cond.fieldLink own idx "DeputyTownModel" "readAt" "I" ∈ lw_tg) (hd : decode cc pc = .ok (.putfield idx, 3)) (kk : ∀ (H1 : Heap) (locs1 : List Loc), va_P D vwCl (WM ad cs (st σ 0 7 v)) H1 → va_S A s.heap H1 locs1 → W p l e R s m args below meth c H1 locs1 0 0 Q (F0 m (pc + 3) ls (rest))) : W p l e R s m args below meth c H locs 0 0 Q (F0 m (pc) ls (.int v :: .ref (ad 0) :: rest)) := q_put C hP hS (ci := 9) (k := 7) (T := TX10) (N := 29) (o := 0) rfl rfl inX10 tyX10_ok nmX10 (by decide) rfl rfl rfl (by show 7 < 29; decide) rfl hl hd kk
theorem gX10_8 (C : CX p m c cc nL s args own D (TYM cs) (WM ad cs) A) (hP : va_P D vwCl (WM ad cs σ) H) (hl : Cond.fieldLink own idx "DeputyTownModel" "readThings" "I" ∈ lw_tg) (hd : decode cc pc = .ok (.getfield idx, 3)) (kk : W p l e R s m args below meth c H locs 0 0 Q (F0 m (pc + 3) ls (.int (σ 0 8) :: rest))) : W p l e R s m args below meth c H locs 0 0 Q (F0 m (pc) ls (.ref (ad 0) :: rest)) := q_get C hP (ci := 9) (k := 8) (T := TX10) (N := 29) (o := 0) rfl rfl inX10 (by decide) rfl hl hd kk
theorem pX10_8 (C : CX p m c cc nL s args own D (TYM cs) (WM ad cs) A) (hP : va_P D vwCl (WM ad cs σ) H) (hS : va_S A s.heap H locs) {v : Int32} (hl : Cond.fieldLink own idx "DeputyTownModel" "readThings" "I" ∈ lw_tg) (hd : decode cc pc = .ok (.putfield idx, 3)) (kk : ∀ (H1 : Heap) (locs1 : List Loc), va_P D vwCl (WM ad cs (st σ 0 8 v)) H1 → va_S A s.heap H1 locs1 → W p l e R s m args below meth c H1 locs1 0 0 Q (F0 m (pc + 3) ls (rest))) : W p l e R s m args below meth c H locs 0 0 Q (F0 m (pc) ls (.int v :: .ref (ad 0) :: rest)) := q_put C hP hS (ci := 9) (k := 8) (T := TX10) (N := 29) (o := 0) rfl rfl inX10 tyX10_ok nmX10 (by decide) rfl rfl rfl (by show 8 < 29; decide) rfl hl hd kk
theorem gX10_9 (C : CX p m c cc nL s args own D (TYM cs) (WM ad cs) A) (hP : va_P D vwCl (WM ad cs σ) H) (hl : Cond.fieldLink own idx "DeputyTownModel" "readKind" "[I" ∈ lw_tg) (hd : decode cc pc = .ok (.getfield idx, 3)) (kk : W p l e R s m args below meth c H locs 0 0 Q (F0 m (pc + 3) ls (.ref (ad 5) :: rest))) : W p l e R s m args below meth c H locs 0 0 Q (F0 m (pc) ls (.ref (ad 0) :: rest)) := q_get C hP (ci := 9) (k := 9) (T := TX10) (N := 29) (o := 0) rfl rfl inX10 (by decide) rfl hl hd kk
theorem gX10_10 (C : CX p m c cc nL s args own D (TYM cs) (WM ad cs) A) (hP : va_P D vwCl (WM ad cs σ) H) (hl : Cond.fieldLink own idx "DeputyTownModel" "readDeputy" "[I" ∈ lw_tg) (hd : decode cc pc = .ok (.getfield idx, 3)) (kk : W p l e R s m args below meth c H locs 0 0 Q (F0 m (pc + 3) ls (.ref (ad 6) :: rest))) : W p l e R s m args below meth c H locs 0 0 Q (F0 m (pc) ls (.ref (ad 0) :: rest)) := q_get C hP (ci := 9) (k := 10) (T := TX10) (N := 29) (o := 0) rfl rfl inX10 (by decide) rfl hl hd kk
theorem gX10_11 (C : CX p m c cc nL s args own D (TYM cs) (WM ad cs) A) (hP : va_P D vwCl (WM ad cs σ) H) (hl : Cond.fieldLink own idx "DeputyTownModel" "readFit" "[I" ∈ lw_tg) (hd : decode cc pc = .ok (.getfield idx, 3)) (kk : W p l e R s m args below meth c H locs 0 0 Q (F0 m (pc + 3) ls (.ref (ad 7) :: rest))) : W p l e R s m args below meth c H locs 0 0 Q (F0 m (pc) ls (.ref (ad 0) :: rest)) := q_get C hP (ci := 9) (k := 11) (T := TX10) (N := 29) (o := 0) rfl rfl inX10 (by decide) rfl hl hd kk
theorem gX10_12 (C : CX p m c cc nL s args own D (TYM cs) (WM ad cs) A) (hP : va_P D vwCl (WM ad cs σ) H) (hl : Cond.fieldLink own idx "DeputyTownModel" "readLasts" "[I" ∈ lw_tg) (hd : decode cc pc = .ok (.getfield idx, 3)) (kk : W p l e R s m args below meth c H locs 0 0 Q (F0 m (pc + 3) ls (.ref (ad 8) :: rest))) : W p l e R s m args below meth c H locs 0 0 Q (F0 m (pc) ls (.ref (ad 0) :: rest)) := q_get C hP (ci := 9) (k := 12) (T := TX10) (N := 29) (o := 0) rfl rfl inX10 (by decide) rfl hl hd kk
theorem gX10_13 (C : CX p m c cc nL s args own D (TYM cs) (WM ad cs) A) (hP : va_P D vwCl (WM ad cs σ) H) (hl : Cond.fieldLink own idx "DeputyTownModel" "breaks" "I" ∈ lw_tg) (hd : decode cc pc = .ok (.getfield idx, 3)) (kk : W p l e R s m args below meth c H locs 0 0 Q (F0 m (pc + 3) ls (.int (σ 0 13) :: rest))) : W p l e R s m args below meth c H locs 0 0 Q (F0 m (pc) ls (.ref (ad 0) :: rest)) := q_get C hP (ci := 9) (k := 13) (T := TX10) (N := 29) (o := 0) rfl rfl inX10 (by decide) rfl hl hd kk
theorem pX10_13 (C : CX p m c cc nL s args own D (TYM cs) (WM ad cs) A) (hP : va_P D vwCl (WM ad cs σ) H) (hS : va_S A s.heap H locs) {v : Int32} (hl : Cond.fieldLink own idx "DeputyTownModel" "breaks" "I" ∈ lw_tg) (hd : decode cc pc = .ok (.putfield idx, 3)) (kk : ∀ (H1 : Heap) (locs1 : List Loc), va_P D vwCl (WM ad cs (st σ 0 13 v)) H1 → va_S A s.heap H1 locs1 → W p l e R s m args below meth c H1 locs1 0 0 Q (F0 m (pc + 3) ls (rest))) : W p l e R s m args below meth c H locs 0 0 Q (F0 m (pc) ls (.int v :: .ref (ad 0) :: rest)) := q_put C hP hS (ci := 9) (k := 13) (T := TX10) (N := 29) (o := 0) rfl rfl inX10 tyX10_ok nmX10 (by decide) rfl rfl rfl (by show 13 < 29; decide) rfl hl hd kk
theorem gX10_14 (C : CX p m c cc nL s args own D (TYM cs) (WM ad cs) A) (hP : va_P D vwCl (WM ad cs σ) H) (hl : Cond.fieldLink own idx "DeputyTownModel" "breakOf" "[I" ∈ lw_tg) (hd : decode cc pc = .ok (.getfield idx, 3)) (kk : W p l e R s m args below meth c H locs 0 0 Q (F0 m (pc + 3) ls (.ref (ad 9) :: rest))) : W p l e R s m args below meth c H locs 0 0 Q (F0 m (pc) ls (.ref (ad 0) :: rest)) := q_get C hP (ci := 9) (k := 14) (T := TX10) (N := 29) (o := 0) rfl rfl inX10 (by decide) rfl hl hd kk
theorem gX10_15 (C : CX p m c cc nL s args own D (TYM cs) (WM ad cs) A) (hP : va_P D vwCl (WM ad cs σ) H) (hl : Cond.fieldLink own idx "DeputyTownModel" "breakFrom" "[I" ∈ lw_tg) (hd : decode cc pc = .ok (.getfield idx, 3)) (kk : W p l e R s m args below meth c H locs 0 0 Q (F0 m (pc + 3) ls (.ref (ad 10) :: rest))) : W p l e R s m args below meth c H locs 0 0 Q (F0 m (pc) ls (.ref (ad 0) :: rest)) := q_get C hP (ci := 9) (k := 15) (T := TX10) (N := 29) (o := 0) rfl rfl inX10 (by decide) rfl hl hd kk
theorem gX10_16 (C : CX p m c cc nL s args own D (TYM cs) (WM ad cs) A) (hP : va_P D vwCl (WM ad cs σ) H) (hl : Cond.fieldLink own idx "DeputyTownModel" "breakTo" "[I" ∈ lw_tg) (hd : decode cc pc = .ok (.getfield idx, 3)) (kk : W p l e R s m args below meth c H locs 0 0 Q (F0 m (pc + 3) ls (.ref (ad 11) :: rest))) : W p l e R s m args below meth c H locs 0 0 Q (F0 m (pc) ls (.ref (ad 0) :: rest)) := q_get C hP (ci := 9) (k := 16) (T := TX10) (N := 29) (o := 0) rfl rfl inX10 (by decide) rfl hl hd kk
theorem gX10_17 (C : CX p m c cc nL s args own D (TYM cs) (WM ad cs) A) (hP : va_P D vwCl (WM ad cs σ) H) (hl : Cond.fieldLink own idx "DeputyTownModel" "servedBy" "[I" ∈ lw_tg) (hd : decode cc pc = .ok (.getfield idx, 3)) (kk : W p l e R s m args below meth c H locs 0 0 Q (F0 m (pc + 3) ls (.ref (ad 12) :: rest))) : W p l e R s m args below meth c H locs 0 0 Q (F0 m (pc) ls (.ref (ad 0) :: rest)) := q_get C hP (ci := 9) (k := 17) (T := TX10) (N := 29) (o := 0) rfl rfl inX10 (by decide) rfl hl hd kk
theorem gX10_18 (C : CX p m c cc nL s args own D (TYM cs) (WM ad cs) A) (hP : va_P D vwCl (WM ad cs σ) H) (hl : Cond.fieldLink own idx "DeputyTownModel" "stoodIn" "[I" ∈ lw_tg) (hd : decode cc pc = .ok (.getfield idx, 3)) (kk : W p l e R s m args below meth c H locs 0 0 Q (F0 m (pc + 3) ls (.ref (ad 13) :: rest))) : W p l e R s m args below meth c H locs 0 0 Q (F0 m (pc) ls (.ref (ad 0) :: rest)) := q_get C hP (ci := 9) (k := 18) (T := TX10) (N := 29) (o := 0) rfl rfl inX10 (by decide) rfl hl hd kk
theorem gX10_19 (C : CX p m c cc nL s args own D (TYM cs) (WM ad cs) A) (hP : va_P D vwCl (WM ad cs σ) H) (hl : Cond.fieldLink own idx "DeputyTownModel" "stoodFor" "[I" ∈ lw_tg) (hd : decode cc pc = .ok (.getfield idx, 3)) (kk : W p l e R s m args below meth c H locs 0 0 Q (F0 m (pc + 3) ls (.ref (ad 14) :: rest))) : W p l e R s m args below meth c H locs 0 0 Q (F0 m (pc) ls (.ref (ad 0) :: rest)) := q_get C hP (ci := 9) (k := 19) (T := TX10) (N := 29) (o := 0) rfl rfl inX10 (by decide) rfl hl hd kk
theorem gX10_20 (C : CX p m c cc nL s args own D (TYM cs) (WM ad cs) A) (hP : va_P D vwCl (WM ad cs σ) H) (hl : Cond.fieldLink own idx "DeputyTownModel" "frailMany" "I" ∈ lw_tg) (hd : decode cc pc = .ok (.getfield idx, 3)) (kk : W p l e R s m args below meth c H locs 0 0 Q (F0 m (pc + 3) ls (.int (σ 0 20) :: rest))) : W p l e R s m args below meth c H locs 0 0 Q (F0 m (pc) ls (.ref (ad 0) :: rest)) := q_get C hP (ci := 9) (k := 20) (T := TX10) (N := 29) (o := 0) rfl rfl inX10 (by decide) rfl hl hd kk
theorem pX10_20 (C : CX p m c cc nL s args own D (TYM cs) (WM ad cs) A) (hP : va_P D vwCl (WM ad cs σ) H) (hS : va_S A s.heap H locs) {v : Int32} (hl : Cond.fieldLink own idx "DeputyTownModel" "frailMany" "I" ∈ lw_tg) (hd : decode cc pc = .ok (.putfield idx, 3)) (kk : ∀ (H1 : Heap) (locs1 : List Loc), va_P D vwCl (WM ad cs (st σ 0 20 v)) H1 → va_S A s.heap H1 locs1 → W p l e R s m args below meth c H1 locs1 0 0 Q (F0 m (pc + 3) ls (rest))) : W p l e R s m args below meth c H locs 0 0 Q (F0 m (pc) ls (.int v :: .ref (ad 0) :: rest)) := q_put C hP hS (ci := 9) (k := 20) (T := TX10) (N := 29) (o := 0) rfl rfl inX10 tyX10_ok nmX10 (by decide) rfl rfl rfl (by show 20 < 29; decide) rfl hl hd kk
theorem gX10_21 (C : CX p m c cc nL s args own D (TYM cs) (WM ad cs) A) (hP : va_P D vwCl (WM ad cs σ) H) (hl : Cond.fieldLink own idx "DeputyTownModel" "readings" "I" ∈ lw_tg) (hd : decode cc pc = .ok (.getfield idx, 3)) (kk : W p l e R s m args below meth c H locs 0 0 Q (F0 m (pc + 3) ls (.int (σ 0 21) :: rest))) : W p l e R s m args below meth c H locs 0 0 Q (F0 m (pc) ls (.ref (ad 0) :: rest)) := q_get C hP (ci := 9) (k := 21) (T := TX10) (N := 29) (o := 0) rfl rfl inX10 (by decide) rfl hl hd kk
theorem pX10_21 (C : CX p m c cc nL s args own D (TYM cs) (WM ad cs) A) (hP : va_P D vwCl (WM ad cs σ) H) (hS : va_S A s.heap H locs) {v : Int32} (hl : Cond.fieldLink own idx "DeputyTownModel" "readings" "I" ∈ lw_tg) (hd : decode cc pc = .ok (.putfield idx, 3)) (kk : ∀ (H1 : Heap) (locs1 : List Loc), va_P D vwCl (WM ad cs (st σ 0 21 v)) H1 → va_S A s.heap H1 locs1 → W p l e R s m args below meth c H1 locs1 0 0 Q (F0 m (pc + 3) ls (rest))) : W p l e R s m args below meth c H locs 0 0 Q (F0 m (pc) ls (.int v :: .ref (ad 0) :: rest)) := q_put C hP hS (ci := 9) (k := 21) (T := TX10) (N := 29) (o := 0) rfl rfl inX10 tyX10_ok nmX10 (by decide) rfl rfl rfl (by show 21 < 29; decide) rfl hl hd kk
theorem gX10_22 (C : CX p m c cc nL s args own D (TYM cs) (WM ad cs) A) (hP : va_P D vwCl (WM ad cs σ) H) (hl : Cond.fieldLink own idx "DeputyTownModel" "readingOf" "[I" ∈ lw_tg) (hd : decode cc pc = .ok (.getfield idx, 3)) (kk : W p l e R s m args below meth c H locs 0 0 Q (F0 m (pc + 3) ls (.ref (ad 15) :: rest))) : W p l e R s m args below meth c H locs 0 0 Q (F0 m (pc) ls (.ref (ad 0) :: rest)) := q_get C hP (ci := 9) (k := 22) (T := TX10) (N := 29) (o := 0) rfl rfl inX10 (by decide) rfl hl hd kk
theorem gX10_23 (C : CX p m c cc nL s args own D (TYM cs) (WM ad cs) A) (hP : va_P D vwCl (WM ad cs σ) H) (hl : Cond.fieldLink own idx "DeputyTownModel" "readingBy" "[I" ∈ lw_tg) (hd : decode cc pc = .ok (.getfield idx, 3)) (kk : W p l e R s m args below meth c H locs 0 0 Q (F0 m (pc + 3) ls (.ref (ad 16) :: rest))) : W p l e R s m args below meth c H locs 0 0 Q (F0 m (pc) ls (.ref (ad 0) :: rest)) := q_get C hP (ci := 9) (k := 23) (T := TX10) (N := 29) (o := 0) rfl rfl inX10 (by decide) rfl hl hd kk
theorem gX10_24 (C : CX p m c cc nL s args own D (TYM cs) (WM ad cs) A) (hP : va_P D vwCl (WM ad cs σ) H) (hl : Cond.fieldLink own idx "DeputyTownModel" "sheetSize" "[I" ∈ lw_tg) (hd : decode cc pc = .ok (.getfield idx, 3)) (kk : W p l e R s m args below meth c H locs 0 0 Q (F0 m (pc + 3) ls (.ref (ad 17) :: rest))) : W p l e R s m args below meth c H locs 0 0 Q (F0 m (pc) ls (.ref (ad 0) :: rest)) := q_get C hP (ci := 9) (k := 24) (T := TX10) (N := 29) (o := 0) rfl rfl inX10 (by decide) rfl hl hd kk
theorem gX10_25 (C : CX p m c cc nL s args own D (TYM cs) (WM ad cs) A) (hP : va_P D vwCl (WM ad cs σ) H) (hl : Cond.fieldLink own idx "DeputyTownModel" "sheetLane" "[I" ∈ lw_tg) (hd : decode cc pc = .ok (.getfield idx, 3)) (kk : W p l e R s m args below meth c H locs 0 0 Q (F0 m (pc + 3) ls (.ref (ad 18) :: rest))) : W p l e R s m args below meth c H locs 0 0 Q (F0 m (pc) ls (.ref (ad 0) :: rest)) := q_get C hP (ci := 9) (k := 25) (T := TX10) (N := 29) (o := 0) rfl rfl inX10 (by decide) rfl hl hd kk
theorem gX10_26 (C : CX p m c cc nL s args own D (TYM cs) (WM ad cs) A) (hP : va_P D vwCl (WM ad cs σ) H) (hl : Cond.fieldLink own idx "DeputyTownModel" "sheet" "[I" ∈ lw_tg) (hd : decode cc pc = .ok (.getfield idx, 3)) (kk : W p l e R s m args below meth c H locs 0 0 Q (F0 m (pc + 3) ls (.ref (ad 19) :: rest))) : W p l e R s m args below meth c H locs 0 0 Q (F0 m (pc) ls (.ref (ad 0) :: rest)) := q_get C hP (ci := 9) (k := 26) (T := TX10) (N := 29) (o := 0) rfl rfl inX10 (by decide) rfl hl hd kk
theorem gX10_27 (C : CX p m c cc nL s args own D (TYM cs) (WM ad cs) A) (hP : va_P D vwCl (WM ad cs σ) H) (hl : Cond.fieldLink own idx "DeputyTownModel" "hands" "[I" ∈ lw_tg) (hd : decode cc pc = .ok (.getfield idx, 3)) (kk : W p l e R s m args below meth c H locs 0 0 Q (F0 m (pc + 3) ls (.ref (ad 20) :: rest))) : W p l e R s m args below meth c H locs 0 0 Q (F0 m (pc) ls (.ref (ad 0) :: rest)) := q_get C hP (ci := 9) (k := 27) (T := TX10) (N := 29) (o := 0) rfl rfl inX10 (by decide) rfl hl hd kk
theorem gX10_28 (C : CX p m c cc nL s args own D (TYM cs) (WM ad cs) A) (hP : va_P D vwCl (WM ad cs σ) H) (hl : Cond.fieldLink own idx "DeputyTownModel" "traceNow" "I" ∈ lw_tg) (hd : decode cc pc = .ok (.getfield idx, 3)) (kk : W p l e R s m args below meth c H locs 0 0 Q (F0 m (pc + 3) ls (.int (σ 0 28) :: rest))) : W p l e R s m args below meth c H locs 0 0 Q (F0 m (pc) ls (.ref (ad 0) :: rest)) := q_get C hP (ci := 9) (k := 28) (T := TX10) (N := 29) (o := 0) rfl rfl inX10 (by decide) rfl hl hd kk
theorem pX10_28 (C : CX p m c cc nL s args own D (TYM cs) (WM ad cs) A) (hP : va_P D vwCl (WM ad cs σ) H) (hS : va_S A s.heap H locs) {v : Int32} (hl : Cond.fieldLink own idx "DeputyTownModel" "traceNow" "I" ∈ lw_tg) (hd : decode cc pc = .ok (.putfield idx, 3)) (kk : ∀ (H1 : Heap) (locs1 : List Loc), va_P D vwCl (WM ad cs (st σ 0 28 v)) H1 → va_S A s.heap H1 locs1 → W p l e R s m args below meth c H1 locs1 0 0 Q (F0 m (pc + 3) ls (rest))) : W p l e R s m args below meth c H locs 0 0 Q (F0 m (pc) ls (.int v :: .ref (ad 0) :: rest)) := q_put C hP hS (ci := 9) (k := 28) (T := TX10) (N := 29) (o := 0) rfl rfl inX10 tyX10_ok nmX10 (by decide) rfl rfl rfl (by show 28 < 29; decide) rfl hl hd kk
theorem aldX (C : CX p m c cc nL s args own D (TYX cs) (WX ad cs) A) (hP : va_P D vwCl (WX ad cs σ) H) {o n : Nat} (h : alX o = some n) {i : Int32} (hin : vin i n = true) (hd : decode cc pc = .ok (.iaload, 1)) (kk : W p l e R s m args below meth c H locs 0 0 Q (F0 m (pc + 1) ls (.int (σ o i.toNatClampNeg) :: rest))) : W p l e R s m args below meth c H locs 0 0 Q (F0 m (pc) ls (.int i :: .ref (ad o) :: rest)) := q_ald C hP (arX h) rfl hin hd kk
theorem astX (C : CX p m c cc nL s args own D (TYX cs) (WX ad cs) A) (hP : va_P D vwCl (WX ad cs σ) H) (hS : va_S A s.heap H locs) {o n : Nat} (h : alX o = some n) {i x : Int32} (hin : vin i n = true) (hd : decode cc pc = .ok (.iastore, 1)) (kk : ∀ (H1 : Heap) (locs1 : List Loc), va_P D vwCl (WX ad cs (st σ o i.toNatClampNeg x)) H1 → va_S A s.heap H1 locs1 → W p l e R s m args below meth c H1 locs1 0 0 Q (F0 m (pc + 1) ls (rest))) : W p l e R s m args below meth c H locs 0 0 Q (F0 m (pc) ls (.int x :: .int i :: .ref (ad o) :: rest)) := q_ast C hP hS (arX h) rfl hin (asX h _ _) hd kk
theorem alnX (C : CX p m c cc nL s args own D (TYX cs) (WX ad cs) A) (hP : va_P D vwCl (WX ad cs σ) H) {o n : Nat} (h : alX o = some n) (hd : decode cc pc = .ok (.arraylength, 1)) (kk : W p l e R s m args below meth c H locs 0 0 Q (F0 m (pc + 1) ls (.int (nI n) :: rest))) : W p l e R s m args below meth c H locs 0 0 Q (F0 m (pc) ls (.ref (ad o) :: rest)) := q_alen C hP (arX h) rfl hd kk
theorem aldM (C : CX p m c cc nL s args own D (TYM cs) (WM ad cs) A) (hP : va_P D vwCl (WM ad cs σ) H) {o n : Nat} (h : alM o = some n) {i : Int32} (hin : vin i n = true) (hd : decode cc pc = .ok (.iaload, 1)) (kk : W p l e R s m args below meth c H locs 0 0 Q (F0 m (pc + 1) ls (.int (σ o i.toNatClampNeg) :: rest))) : W p l e R s m args below meth c H locs 0 0 Q (F0 m (pc) ls (.int i :: .ref (ad o) :: rest)) := q_ald C hP (arM h) rfl hin hd kk
theorem astM (C : CX p m c cc nL s args own D (TYM cs) (WM ad cs) A) (hP : va_P D vwCl (WM ad cs σ) H) (hS : va_S A s.heap H locs) {o n : Nat} (h : alM o = some n) {i x : Int32} (hin : vin i n = true) (hd : decode cc pc = .ok (.iastore, 1)) (kk : ∀ (H1 : Heap) (locs1 : List Loc), va_P D vwCl (WM ad cs (st σ o i.toNatClampNeg x)) H1 → va_S A s.heap H1 locs1 → W p l e R s m args below meth c H1 locs1 0 0 Q (F0 m (pc + 1) ls (rest))) : W p l e R s m args below meth c H locs 0 0 Q (F0 m (pc) ls (.int x :: .int i :: .ref (ad o) :: rest)) := q_ast C hP hS (arM h) rfl hin (asM h _ _) hd kk
theorem alnM (C : CX p m c cc nL s args own D (TYM cs) (WM ad cs) A) (hP : va_P D vwCl (WM ad cs σ) H) {o n : Nat} (h : alM o = some n) (hd : decode cc pc = .ok (.arraylength, 1)) (kk : W p l e R s m args below meth c H locs 0 0 Q (F0 m (pc + 1) ls (.int (nI n) :: rest))) : W p l e R s m args below meth c H locs 0 0 Q (F0 m (pc) ls (.ref (ad o) :: rest)) := q_alen C hP (arM h) rfl hd kk
theorem aldX_sheets (C : CX p m c cc nL s args own D (TYX cs) (WX ad cs) A) (hP : va_P D vwCl (WX ad cs σ) H) {i : Int32} (hin : vin i 4 = true) (hd : decode cc pc = .ok (.aaload, 1)) (kk : W p l e R s m args below meth c H locs 0 0 Q (F0 m (pc + 1) ls (.ref (ad (24 + i.toNatClampNeg)) :: rest))) : W p l e R s m args below meth c H locs 0 0 Q (F0 m (pc) ls (.int i :: .ref (ad 1) :: rest)) := q_aldq C hP (o := 1) (t0 := 1) rfl rfl hin rfl hd kk
theorem aldX_things (C : CX p m c cc nL s args own D (TYX cs) (WX ad cs) A) (hP : va_P D vwCl (WX ad cs σ) H) {i : Int32} (hin : vin i 8 = true) (hd : decode cc pc = .ok (.aaload, 1)) (kk : W p l e R s m args below meth c H locs 0 0 Q (F0 m (pc + 1) ls (.ref (ad (4 + i.toNatClampNeg)) :: rest))) : W p l e R s m args below meth c H locs 0 0 Q (F0 m (pc) ls (.int i :: .ref (ad 3) :: rest)) := q_aldq C hP (o := 3) (t0 := 2) rfl rfl hin rfl hd kk
end
end

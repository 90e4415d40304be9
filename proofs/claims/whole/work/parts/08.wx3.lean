section
variable {p : Program} {l : Launch} {e : Env} {R : Room} {s : State} {m : MethodId} {args : Array Value} {below : List Frame} {meth : Method} {c : Code} {D : va_G} {ad : Nat → Nat} {cs : Nat → ClassId}
set_option maxRecDepth 100000 in
set_option maxHeartbeats 4000000 in
theorem w_X9_law (C : CX p m c cX9_law 3 s args RX9 D (TYX cs) (WX ad cs) (AX ad)) (hr : meth.sig.returnType = (some .int)) (hlk : meth.locks = false) (hR : 1 ≤ R.frames ∧ 21 ≤ R.locals) {σ : Sg} {x1 : Int32} {res : Int32 × Sg} (hf : f_X9_law σ x1 = some res) {H : Heap} {locs : List Loc} (hP : va_P D vwCl (WX ad cs σ) H) (hS : va_S (AX ad) s.heap H locs) {ls : Array Slot} (hl : lv_has ls 3 [(0, .ref (ad 0)), (1, .int x1)]) : W p l e R s m args below meth c H locs 0 0 (MQ below (QI D (TYX cs) (WX ad cs) (AX ad) res.1 res.2) args s 0 0 (AX ad)) (F0 m 0 ls []) := by
  have hx := C.1.1
  have hb := C.1.2.1
  unfold f_X9_law at hf
  refine lv_iload_n hx hb dX9_law_0 rfl (lv_at hl 1 rfl) ?_
  refine lv_iconst (v := 2) hx hb dX9_law_1 (by decide) ?_
  obtain ⟨r2, hg1, hf⟩ := zb hf
  try dsimp only at hf
  refine q_calli C hS (q_runS C hP (c_X9_isBeyond (l := l) C.2.2.1 hg1) (As := [.int x1, .int 2]) (rest := []) ⟨gd_S k_294 k_295 k_44 k_296, ⟨rfl, rfl⟩, kd_X9_isBeyond, ⟨Nat.le_trans (Nat.le_of_ble_eq_true rfl) hR.1, Nat.le_trans (Nat.le_of_ble_eq_true rfl) hR.2⟩⟩ rfl rfl (Nat.le_of_ble_eq_true rfl) hl.1 dX9_law_2) (fun H locs hP hS => ?_)
  refine lv_if_eq (tgt := 11) hx hb dX9_law_5 (by decide) (fun c3 => ?_) (fun c3 => ?_)
  · replace hf := zt c3 hf
    refine lv_aload_n hx hb dX9_law_11 rfl (lv_at hl 0 rfl) ?_
    refine gX9_1 C hP k_262 dX9_law_12 ?_
    refine gX7_1N C hP k_117 dX9_law_15 ?_
    refine lv_if_ne (tgt := 24) hx hb dX9_law_18 (by decide) (fun c4 => ?_) (fun c4 => ?_)
    · replace hf := zf c4 hf
      refine lv_aload_n hx hb dX9_law_24 rfl (lv_at hl 0 rfl) ?_
      refine gX9_1 C hP k_262 dX9_law_25 ?_
      refine gX7_2N C hP k_123 dX9_law_28 ?_
      refine lv_istore_n (lv' := [(2, .int (σ 2 2)), (0, .ref (ad 0)), (1, .int x1)]) hx hb dX9_law_31 rfl hl (by decide) rfl (fun ls hl => ?_)
      refine lv_aload_n hx hb dX9_law_32 rfl (lv_at hl 1 rfl) ?_
      refine gX9_1 C hP k_262 dX9_law_33 ?_
      refine lv_iload_n hx hb dX9_law_36 rfl (lv_at hl 2 rfl) ?_
      refine pX7_2N C hP hS k_123 dX9_law_37 (fun H locs hP hS => ?_)
      refine lv_iload_n hx hb dX9_law_40 rfl (lv_at hl 0 rfl) ?_
      exact q_iret C hr hlk hP hS (Option.some.inj hf) dX9_law_41
    · replace hf := zt c4 hf
      refine lv_bipush (v := (-3)) hx hb dX9_law_21 (by decide) ?_
      exact q_iret C hr hlk hP hS (Option.some.inj hf) dX9_law_23
  · replace hf := zf c3 hf
    refine lv_bipush (v := (-2)) hx hb dX9_law_8 (by decide) ?_
    exact q_iret C hr hlk hP hS (Option.some.inj hf) dX9_law_10
theorem kd_X9_law : yX9_law.cls = RX9 ∧ yX9_law.cls ≠ "java/lang/invoke/MethodHandle" ∧ yX9_law.cls ≠ "java/lang/invoke/VarHandle" ∧ (parseMethodDescriptor yX9_law.desc).map (fun d => d.parameters.length) = some 1 := by decide +kernel
def r_X9_law : Room := { frames := 1, cells := 0, slots := 0, locals := 21 }
set_option maxRecDepth 100000 in
set_option maxHeartbeats 4000000 in
theorem c_X9_law {l : Launch} {D : va_G} {ad : Nat → Nat} {cs : Nat → ClassId} (hD : ∀ σ, va_D (AX ad) (WX ad cs σ)) {σ : Sg} {x1 : Int32} {res : Int32 × Sg} (hf : f_X9_law σ x1 = some res) : Met l yX9_law (wm yX9_law cX9_law 3 (some .int)) r_X9_law (va_Pc [.ref (ad 0), .int x1] (BW D (TYX cs) (WX ad cs) σ)) (QI D (TYX cs) (WX ad cs) (AX ad) res.1 res.2) 0 0 (AX ad) := by
  refine q_enter (by decide) hD (Nat.le_of_ble_eq_true rfl) ?_
  intro p e s m below meth c C hr hlk hP hS ls hl
  exact w_X9_law C hr hlk ⟨Nat.le_of_ble_eq_true rfl, Nat.le_of_ble_eq_true rfl⟩ hf hP hS hl

set_option maxRecDepth 100000 in
set_option maxHeartbeats 4000000 in
theorem w_X9_depute (C : CX p m c cX9_depute 5 s args RX9 D (TYX cs) (WX ad cs) (AX ad)) (hr : meth.sig.returnType = (some .int)) (hlk : meth.locks = false) (hR : 1 ≤ R.frames ∧ 21 ≤ R.locals) {σ : Sg} {x1 : Int32} {x2 : Int32} {res : Int32 × Sg} (hf : f_X9_depute σ x1 x2 = some res) {H : Heap} {locs : List Loc} (hP : va_P D vwCl (WX ad cs σ) H) (hS : va_S (AX ad) s.heap H locs) {ls : Array Slot} (hl : lv_has ls 5 [(0, .ref (ad 0)), (1, .int x1), (2, .int x2)]) : W p l e R s m args below meth c H locs 0 0 (MQ below (QI D (TYX cs) (WX ad cs) (AX ad) res.1 res.2) args s 0 0 (AX ad)) (F0 m 0 ls []) := by
  have hx := C.1.1
  have hb := C.1.2.1
  unfold f_X9_depute at hf
  refine lv_aload_n hx hb dX9_depute_0 rfl (lv_at hl 0 rfl) ?_
  refine gX9_1 C hP k_262 dX9_depute_1 ?_
  refine lv_iload_n hx hb dX9_depute_4 rfl (lv_at hl 1 rfl) ?_
  obtain ⟨r2, hg1, hf⟩ := zb hf
  try dsimp only at hf
  refine q_callr C hS (q_runV C hP (c_X7_thingAt (l := l) C.2.2.1 hg1) (ci := 6) (As := [.int x1]) (rest := []) ⟨gd_V k_357 k_340 k_341 k_45 k_342, ⟨rfl, rfl⟩, kd_X7_thingAt, ⟨Nat.le_trans (Nat.le_of_ble_eq_true rfl) hR.1, Nat.le_trans (Nat.le_of_ble_eq_true rfl) hR.2⟩⟩ (o := 2) rfl rfl rfl rfl rfl (Nat.le_of_ble_eq_true rfl) hl.1 dX9_depute_5) (fun H locs hP hS => ?_)
  refine q_astoreq_n (lv' := [(3, va_rf (Option.map (fun t => ad (4 + t)) r2)), (0, .ref (ad 0)), (1, .int x1), (2, .int x2)]) C dX9_depute_8 rfl hl (by decide) rfl (fun ls hl => ?_)
  refine q_aloadq_n C dX9_depute_9 rfl (lv_at hl 0 rfl) ?_
  rcases r2 with _ | t3
  · refine lv_ifnullN (tgt := 24) hx hb dX9_depute_10 (by decide) ?_
    try dsimp only at hf
    refine lv_iconst (v := (-1)) hx hb dX9_depute_24 (by decide) ?_
    exact q_iret C hr hlk hP hS (Option.some.inj hf) dX9_depute_25
  · refine lv_ifnull hx hb dX9_depute_10 ?_
    try dsimp only at hf
    refine lv_aload_n hx hb dX9_depute_13 rfl (lv_at hl 1 rfl) ?_
    refine gX9_1 C hP k_262 dX9_depute_14 ?_
    refine lv_iload_n hx hb dX9_depute_17 rfl (lv_at hl 3 rfl) ?_
    obtain ⟨r5, hg4, hf⟩ := zb hf
    try dsimp only at hf
    refine q_callr C hS (q_runV C hP (c_X7_thingAt (l := l) C.2.2.1 hg4) (ci := 6) (As := [.int x2]) (rest := []) ⟨gd_V k_357 k_340 k_341 k_45 k_342, ⟨rfl, rfl⟩, kd_X7_thingAt, ⟨Nat.le_trans (Nat.le_of_ble_eq_true rfl) hR.1, Nat.le_trans (Nat.le_of_ble_eq_true rfl) hR.2⟩⟩ (o := 2) rfl rfl rfl rfl rfl (Nat.le_of_ble_eq_true rfl) hl.1 dX9_depute_18) (fun H locs hP hS => ?_)
    rcases r5 with _ | t6
    · refine lv_ifnonnullN hx hb dX9_depute_21 ?_
      try dsimp only at hf
      refine lv_iconst (v := (-1)) hx hb dX9_depute_24 (by decide) ?_
      exact q_iret C hr hlk hP hS (Option.some.inj hf) dX9_depute_25
    · refine lv_ifnonnull (tgt := 26) hx hb dX9_depute_21 (by decide) ?_
      try dsimp only at hf
      refine lv_iload_n hx hb dX9_depute_26 rfl (lv_at hl 2 rfl) ?_
      refine lv_iload_n hx hb dX9_depute_27 rfl (lv_at hl 3 rfl) ?_
      refine lv_icmp_ne (tgt := 34) hx hb dX9_depute_28 (by decide) (fun c7 => ?_) (fun c7 => ?_)
      · replace hf := zf c7 hf
        refine lv_aload_n hx hb dX9_depute_34 rfl (lv_at hl 0 rfl) ?_
        obtain ⟨h8, hf⟩ := zc hf
        refine gX6_2N C hP h8 k_89 dX9_depute_35 ?_
        refine lv_istore (lv' := [(4, .int (σ (4 + t3) 2)), (3, .ref (ad (4 + t3))), (0, .ref (ad 0)), (1, .int x1), (2, .int x2)]) hx hb dX9_depute_38 hl (by decide) rfl (fun ls hl => ?_)
        refine lv_aload_n hx hb dX9_depute_40 rfl (lv_at hl 1 rfl) ?_
        refine lv_iload_n hx hb dX9_depute_41 rfl (lv_at hl 4 rfl) ?_
        refine pX6_2N C hP h8 hS k_89 dX9_depute_42 (fun H locs hP hS => ?_)
        refine lv_iload hx hb dX9_depute_45 (lv_at hl 0 rfl) ?_
        exact q_iret C hr hlk hP hS (Option.some.inj hf) dX9_depute_47
      · replace hf := zt c7 hf
        refine lv_bipush (v := (-2)) hx hb dX9_depute_31 (by decide) ?_
        exact q_iret C hr hlk hP hS (Option.some.inj hf) dX9_depute_33
theorem kd_X9_depute : yX9_depute.cls = RX9 ∧ yX9_depute.cls ≠ "java/lang/invoke/MethodHandle" ∧ yX9_depute.cls ≠ "java/lang/invoke/VarHandle" ∧ (parseMethodDescriptor yX9_depute.desc).map (fun d => d.parameters.length) = some 2 := by decide +kernel
def r_X9_depute : Room := { frames := 1, cells := 0, slots := 0, locals := 21 }
set_option maxRecDepth 100000 in
set_option maxHeartbeats 4000000 in
theorem c_X9_depute {l : Launch} {D : va_G} {ad : Nat → Nat} {cs : Nat → ClassId} (hD : ∀ σ, va_D (AX ad) (WX ad cs σ)) {σ : Sg} {x1 : Int32} {x2 : Int32} {res : Int32 × Sg} (hf : f_X9_depute σ x1 x2 = some res) : Met l yX9_depute (wm yX9_depute cX9_depute 5 (some .int)) r_X9_depute (va_Pc [.ref (ad 0), .int x1, .int x2] (BW D (TYX cs) (WX ad cs) σ)) (QI D (TYX cs) (WX ad cs) (AX ad) res.1 res.2) 0 0 (AX ad) := by
  refine q_enter (by decide) hD (Nat.le_of_ble_eq_true rfl) ?_
  intro p e s m below meth c C hr hlk hP hS ls hl
  exact w_X9_depute C hr hlk ⟨Nat.le_of_ble_eq_true rfl, Nat.le_of_ble_eq_true rfl⟩ hf hP hS hl

set_option maxRecDepth 100000 in
set_option maxHeartbeats 4000000 in
theorem w_X9_smash (C : CX p m c cX9_smash 4 s args RX9 D (TYX cs) (WX ad cs) (AX ad)) (hr : meth.sig.returnType = (some .int)) (hlk : meth.locks = false) (hR : 1 ≤ R.frames ∧ 23 ≤ R.locals) {σ : Sg} {x1 : Int32} {x2 : Int32} {x3 : Int32} {res : Int32 × Sg} (hf : f_X9_smash σ x1 x2 x3 = some res) {H : Heap} {locs : List Loc} (hP : va_P D vwCl (WX ad cs σ) H) (hS : va_S (AX ad) s.heap H locs) {ls : Array Slot} (hl : lv_has ls 4 [(0, .ref (ad 0)), (1, .int x1), (2, .int x2), (3, .int x3)]) : W p l e R s m args below meth c H locs 0 0 (MQ below (QI D (TYX cs) (WX ad cs) (AX ad) res.1 res.2) args s 0 0 (AX ad)) (F0 m 0 ls []) := by
  have hx := C.1.1
  have hb := C.1.2.1
  unfold f_X9_smash at hf
  refine lv_aload_n hx hb dX9_smash_0 rfl (lv_at hl 0 rfl) ?_
  refine gX9_1 C hP k_262 dX9_smash_1 ?_
  refine lv_iload_n hx hb dX9_smash_4 rfl (lv_at hl 1 rfl) ?_
  obtain ⟨r2, hg1, hf⟩ := zb hf
  try dsimp only at hf
  refine q_callr C hS (q_runV C hP (c_X7_thingAt (l := l) C.2.2.1 hg1) (ci := 6) (As := [.int x1]) (rest := []) ⟨gd_V k_357 k_340 k_341 k_45 k_342, ⟨rfl, rfl⟩, kd_X7_thingAt, ⟨Nat.le_trans (Nat.le_of_ble_eq_true rfl) hR.1, Nat.le_trans (Nat.le_of_ble_eq_true rfl) hR.2⟩⟩ (o := 2) rfl rfl rfl rfl rfl (Nat.le_of_ble_eq_true rfl) hl.1 dX9_smash_5) (fun H locs hP hS => ?_)
  rcases r2 with _ | t3
  · refine lv_ifnonnullN hx hb dX9_smash_8 ?_
    try dsimp only at hf
    refine lv_iconst (v := (-1)) hx hb dX9_smash_11 (by decide) ?_
    exact q_iret C hr hlk hP hS (Option.some.inj hf) dX9_smash_12
  · refine lv_ifnonnull (tgt := 13) hx hb dX9_smash_8 (by decide) ?_
    try dsimp only at hf
    refine lv_iload_n hx hb dX9_smash_13 rfl (lv_at hl 2 rfl) ?_
    refine lv_bipush (v := 29) hx hb dX9_smash_14 (by decide) ?_
    obtain ⟨r5, hg4, hf⟩ := zb hf
    try dsimp only at hf
    refine q_calli C hS (q_runS C hP (c_X9_isBeyond (l := l) C.2.2.1 hg4) (As := [.int x2, .int 29]) (rest := []) ⟨gd_S k_294 k_295 k_44 k_296, ⟨rfl, rfl⟩, kd_X9_isBeyond, ⟨Nat.le_trans (Nat.le_of_ble_eq_true rfl) hR.1, Nat.le_trans (Nat.le_of_ble_eq_true rfl) hR.2⟩⟩ rfl rfl (Nat.le_of_ble_eq_true rfl) hl.1 dX9_smash_16) (fun H locs hP hS => ?_)
    refine lv_if_ne (tgt := 36) hx hb dX9_smash_19 (by decide) (fun c6 => ?_) (fun c6 => ?_)
    · replace hf := zf c6 hf
      refine lv_bipush (v := (-2)) hx hb dX9_smash_36 (by decide) ?_
      exact q_iret C hr hlk hP hS (Option.some.inj hf) dX9_smash_38
    · replace hf := zt c6 hf
      refine lv_iload_n hx hb dX9_smash_22 rfl (lv_at hl 3 rfl) ?_
      refine lv_bipush (v := 29) hx hb dX9_smash_23 (by decide) ?_
      obtain ⟨r8, hg7, hf⟩ := zb hf
      try dsimp only at hf
      refine q_calli C hS (q_runS C hP (c_X9_isBeyond (l := l) C.2.2.1 hg7) (As := [.int x3, .int 29]) (rest := []) ⟨gd_S k_294 k_295 k_44 k_296, ⟨rfl, rfl⟩, kd_X9_isBeyond, ⟨Nat.le_trans (Nat.le_of_ble_eq_true rfl) hR.1, Nat.le_trans (Nat.le_of_ble_eq_true rfl) hR.2⟩⟩ rfl rfl (Nat.le_of_ble_eq_true rfl) hl.1 dX9_smash_25) (fun H locs hP hS => ?_)
      refine lv_if_ne (tgt := 36) hx hb dX9_smash_28 (by decide) (fun c9 => ?_) (fun c9 => ?_)
      · replace hf := zf c9 hf
        refine lv_bipush (v := (-2)) hx hb dX9_smash_36 (by decide) ?_
        exact q_iret C hr hlk hP hS (Option.some.inj hf) dX9_smash_38
      · replace hf := zt c9 hf
        refine lv_iload_n hx hb dX9_smash_31 rfl (lv_at hl 3 rfl) ?_
        refine lv_iload_n hx hb dX9_smash_32 rfl (lv_at hl 2 rfl) ?_
        refine lv_icmp_ge (tgt := 39) hx hb dX9_smash_33 (by decide) (fun c10 => ?_) (fun c10 => ?_)
        · replace hf := zt c10 hf
          refine lv_aload_n hx hb dX9_smash_39 rfl (lv_at hl 0 rfl) ?_
          refine gX9_2 C hP k_263 dX9_smash_40 ?_
          refine lv_iload_n hx hb dX9_smash_43 rfl (lv_at hl 1 rfl) ?_
          refine lv_iload_n hx hb dX9_smash_44 rfl (lv_at hl 2 rfl) ?_
          refine lv_iload_n hx hb dX9_smash_45 rfl (lv_at hl 3 rfl) ?_
          obtain ⟨⟨r12, σ13⟩, hg11, hf⟩ := zb hf
          try dsimp only at hf
          refine q_calli C hS (q_runV C hP (c_X1_add (l := l) C.2.2.1 hg11) (ci := 1) (As := [.int x1, .int x2, .int x3]) (rest := []) ⟨gd_V k_370 k_371 k_372 k_47 k_373, ⟨rfl, rfl⟩, kd_X1_add, ⟨Nat.le_trans (Nat.le_of_ble_eq_true rfl) hR.1, Nat.le_trans (Nat.le_of_ble_eq_true rfl) hR.2⟩⟩ (o := 12) rfl rfl rfl rfl rfl (Nat.le_of_ble_eq_true rfl) hl.1 dX9_smash_46) (fun H locs hP hS => ?_)
          exact q_iret C hr hlk hP hS (Option.some.inj hf) dX9_smash_49
        · replace hf := zf c10 hf
          refine lv_bipush (v := (-2)) hx hb dX9_smash_36 (by decide) ?_
          exact q_iret C hr hlk hP hS (Option.some.inj hf) dX9_smash_38
theorem kd_X9_smash : yX9_smash.cls = RX9 ∧ yX9_smash.cls ≠ "java/lang/invoke/MethodHandle" ∧ yX9_smash.cls ≠ "java/lang/invoke/VarHandle" ∧ (parseMethodDescriptor yX9_smash.desc).map (fun d => d.parameters.length) = some 3 := by decide +kernel
def r_X9_smash : Room := { frames := 1, cells := 0, slots := 0, locals := 23 }
set_option maxRecDepth 100000 in
set_option maxHeartbeats 4000000 in
theorem c_X9_smash {l : Launch} {D : va_G} {ad : Nat → Nat} {cs : Nat → ClassId} (hD : ∀ σ, va_D (AX ad) (WX ad cs σ)) {σ : Sg} {x1 : Int32} {x2 : Int32} {x3 : Int32} {res : Int32 × Sg} (hf : f_X9_smash σ x1 x2 x3 = some res) : Met l yX9_smash (wm yX9_smash cX9_smash 4 (some .int)) r_X9_smash (va_Pc [.ref (ad 0), .int x1, .int x2, .int x3] (BW D (TYX cs) (WX ad cs) σ)) (QI D (TYX cs) (WX ad cs) (AX ad) res.1 res.2) 0 0 (AX ad) := by
  refine q_enter (by decide) hD (Nat.le_of_ble_eq_true rfl) ?_
  intro p e s m below meth c C hr hlk hP hS ls hl
  exact w_X9_smash C hr hlk ⟨Nat.le_of_ble_eq_true rfl, Nat.le_of_ble_eq_true rfl⟩ hf hP hS hl

set_option maxRecDepth 100000 in
set_option maxHeartbeats 4000000 in
theorem w_X9_glue (C : CX p m c cX9_glue 2 s args RX9 D (TYX cs) (WX ad cs) (AX ad)) (hr : meth.sig.returnType = (some .int)) (hlk : meth.locks = false) (hR : 1 ≤ R.frames ∧ 21 ≤ R.locals) {σ : Sg} {x1 : Int32} {res : Int32 × Sg} (hf : f_X9_glue σ x1 = some res) {H : Heap} {locs : List Loc} (hP : va_P D vwCl (WX ad cs σ) H) (hS : va_S (AX ad) s.heap H locs) {ls : Array Slot} (hl : lv_has ls 2 [(0, .ref (ad 0)), (1, .int x1)]) : W p l e R s m args below meth c H locs 0 0 (MQ below (QI D (TYX cs) (WX ad cs) (AX ad) res.1 res.2) args s 0 0 (AX ad)) (F0 m 0 ls []) := by
  have hx := C.1.1
  have hb := C.1.2.1
  unfold f_X9_glue at hf
  refine lv_iload_n hx hb dX9_glue_0 rfl (lv_at hl 1 rfl) ?_
  refine lv_aload_n hx hb dX9_glue_1 rfl (lv_at hl 0 rfl) ?_
  refine gX9_2 C hP k_263 dX9_glue_2 ?_
  refine gX1_3N C hP k_141 dX9_glue_5 ?_
  obtain ⟨r2, hg1, hf⟩ := zb hf
  try dsimp only at hf
  refine q_calli C hS (q_runS C hP (c_X9_isBeyond (l := l) C.2.2.1 hg1) (As := [.int x1, .int (σ 12 3)]) (rest := []) ⟨gd_S k_294 k_295 k_44 k_296, ⟨rfl, rfl⟩, kd_X9_isBeyond, ⟨Nat.le_trans (Nat.le_of_ble_eq_true rfl) hR.1, Nat.le_trans (Nat.le_of_ble_eq_true rfl) hR.2⟩⟩ rfl rfl (Nat.le_of_ble_eq_true rfl) hl.1 dX9_glue_8) (fun H locs hP hS => ?_)
  refine lv_if_eq (tgt := 17) hx hb dX9_glue_11 (by decide) (fun c3 => ?_) (fun c3 => ?_)
  · replace hf := zt c3 hf
    refine lv_aload_n hx hb dX9_glue_17 rfl (lv_at hl 0 rfl) ?_
    refine gX9_2 C hP k_263 dX9_glue_18 ?_
    refine lv_dup hx hb dX9_glue_21 rfl ?_
    refine gX1_3N C hP k_141 dX9_glue_22 ?_
    refine lv_iload_n hx hb dX9_glue_25 rfl (lv_at hl 1 rfl) ?_
    refine lv_isub hx hb dX9_glue_26 ?_
    refine pX1_3N C hP hS k_141 dX9_glue_27 (fun H locs hP hS => ?_)
    refine lv_aload_n hx hb dX9_glue_30 rfl (lv_at hl 0 rfl) ?_
    refine gX9_2 C hP k_263 dX9_glue_31 ?_
    refine gX1_3N C hP k_141 dX9_glue_34 ?_
    exact q_iret C hr hlk hP hS (Option.some.inj hf) dX9_glue_37
  · replace hf := zf c3 hf
    refine lv_bipush (v := (-2)) hx hb dX9_glue_14 (by decide) ?_
    exact q_iret C hr hlk hP hS (Option.some.inj hf) dX9_glue_16
theorem kd_X9_glue : yX9_glue.cls = RX9 ∧ yX9_glue.cls ≠ "java/lang/invoke/MethodHandle" ∧ yX9_glue.cls ≠ "java/lang/invoke/VarHandle" ∧ (parseMethodDescriptor yX9_glue.desc).map (fun d => d.parameters.length) = some 1 := by decide +kernel
def r_X9_glue : Room := { frames := 1, cells := 0, slots := 0, locals := 21 }
set_option maxRecDepth 100000 in
set_option maxHeartbeats 4000000 in
theorem c_X9_glue {l : Launch} {D : va_G} {ad : Nat → Nat} {cs : Nat → ClassId} (hD : ∀ σ, va_D (AX ad) (WX ad cs σ)) {σ : Sg} {x1 : Int32} {res : Int32 × Sg} (hf : f_X9_glue σ x1 = some res) : Met l yX9_glue (wm yX9_glue cX9_glue 2 (some .int)) r_X9_glue (va_Pc [.ref (ad 0), .int x1] (BW D (TYX cs) (WX ad cs) σ)) (QI D (TYX cs) (WX ad cs) (AX ad) res.1 res.2) 0 0 (AX ad) := by
  refine q_enter (by decide) hD (Nat.le_of_ble_eq_true rfl) ?_
  intro p e s m below meth c C hr hlk hP hS ls hl
  exact w_X9_glue C hr hlk ⟨Nat.le_of_ble_eq_true rfl, Nat.le_of_ble_eq_true rfl⟩ hf hP hS hl

set_option maxRecDepth 100000 in
set_option maxHeartbeats 4000000 in
theorem w_X9_by (C : CX p m c cX9_by 3 s args RX9 D (TYX cs) (WX ad cs) (AX ad)) (hr : meth.sig.returnType = (some .int)) (hlk : meth.locks = false) (hR : 4 ≤ R.frames ∧ 100 ≤ R.locals) {σ : Sg} {x1 : Int32} {x2 : Int32} {res : Int32 × Sg} (hf : f_X9_by σ x1 x2 = some res) {H : Heap} {locs : List Loc} (hP : va_P D vwCl (WX ad cs σ) H) (hS : va_S (AX ad) s.heap H locs) {ls : Array Slot} (hl : lv_has ls 3 [(0, .ref (ad 0)), (1, .int x1), (2, .int x2)]) : W p l e R s m args below meth c H locs 0 0 (MQ below (QI D (TYX cs) (WX ad cs) (AX ad) res.1 res.2) args s 0 0 (AX ad)) (F0 m 0 ls []) := by
  have hx := C.1.1
  have hb := C.1.2.1
  unfold f_X9_by at hf
  refine lv_aload_n hx hb dX9_by_0 rfl (lv_at hl 0 rfl) ?_
  refine gX9_1 C hP k_262 dX9_by_1 ?_
  refine lv_iload_n hx hb dX9_by_4 rfl (lv_at hl 1 rfl) ?_
  obtain ⟨r2, hg1, hf⟩ := zb hf
  try dsimp only at hf
  refine q_callr C hS (q_runV C hP (c_X7_thingAt (l := l) C.2.2.1 hg1) (ci := 6) (As := [.int x1]) (rest := []) ⟨gd_V k_357 k_340 k_341 k_45 k_342, ⟨rfl, rfl⟩, kd_X7_thingAt, ⟨Nat.le_trans (Nat.le_of_ble_eq_true rfl) hR.1, Nat.le_trans (Nat.le_of_ble_eq_true rfl) hR.2⟩⟩ (o := 2) rfl rfl rfl rfl rfl (Nat.le_of_ble_eq_true rfl) hl.1 dX9_by_5) (fun H locs hP hS => ?_)
  rcases r2 with _ | t3
  · refine lv_ifnonnullN hx hb dX9_by_8 ?_
    try dsimp only at hf
    refine lv_iconst (v := (-1)) hx hb dX9_by_11 (by decide) ?_
    exact q_iret C hr hlk hP hS (Option.some.inj hf) dX9_by_12
  · refine lv_ifnonnull (tgt := 13) hx hb dX9_by_8 (by decide) ?_
    try dsimp only at hf
    refine lv_iload_n hx hb dX9_by_13 rfl (lv_at hl 2 rfl) ?_
    refine lv_bipush (v := 29) hx hb dX9_by_14 (by decide) ?_
    obtain ⟨r5, hg4, hf⟩ := zb hf
    try dsimp only at hf
    refine q_calli C hS (q_runS C hP (c_X9_isBeyond (l := l) C.2.2.1 hg4) (As := [.int x2, .int 29]) (rest := []) ⟨gd_S k_294 k_295 k_44 k_296, ⟨rfl, rfl⟩, kd_X9_isBeyond, ⟨Nat.le_trans (Nat.le_of_ble_eq_true rfl) hR.1, Nat.le_trans (Nat.le_of_ble_eq_true rfl) hR.2⟩⟩ rfl rfl (Nat.le_of_ble_eq_true rfl) hl.1 dX9_by_16) (fun H locs hP hS => ?_)
    refine lv_if_eq (tgt := 25) hx hb dX9_by_19 (by decide) (fun c6 => ?_) (fun c6 => ?_)
    · replace hf := zt c6 hf
      refine lv_aload_n hx hb dX9_by_25 rfl (lv_at hl 0 rfl) ?_
      refine gX9_4 C hP k_265 dX9_by_26 ?_
      refine lv_iload_n hx hb dX9_by_29 rfl (lv_at hl 2 rfl) ?_
      refine lv_aload_n hx hb dX9_by_30 rfl (lv_at hl 0 rfl) ?_
      refine gX9_2 C hP k_263 dX9_by_31 ?_
      obtain ⟨σ8, hg7, hf⟩ := zb hf
      try dsimp only at hf
      refine q_callv C hS (q_runV C hP (c_X3_workUpTo (l := l) C.2.2.1 hg7) (ci := 3) (As := [.int x2, .ref (ad 12)]) (rest := []) ⟨gd_V k_382 k_383 k_384 k_49 k_385, ⟨rfl, rfl⟩, kd_X3_workUpTo, ⟨Nat.le_trans (Nat.le_of_ble_eq_true rfl) hR.1, Nat.le_trans (Nat.le_of_ble_eq_true rfl) hR.2⟩⟩ (o := 19) rfl rfl rfl rfl rfl (Nat.le_of_ble_eq_true rfl) hl.1 dX9_by_34) (fun H locs hP hS => ?_)
      refine lv_aload_n hx hb dX9_by_37 rfl (lv_at hl 0 rfl) ?_
      refine gX9_4 C hP k_265 dX9_by_38 ?_
      refine lv_iload_n hx hb dX9_by_41 rfl (lv_at hl 1 rfl) ?_
      obtain ⟨r10, hg9, hf⟩ := zb hf
      try dsimp only at hf
      refine q_calli C hS (q_runV C hP (c_X3_serverOf (l := l) C.2.2.1 hg9) (ci := 3) (As := [.int x1]) (rest := []) ⟨gd_V k_414 k_415 k_416 k_49 k_417, ⟨rfl, rfl⟩, kd_X3_serverOf, ⟨Nat.le_trans (Nat.le_of_ble_eq_true rfl) hR.1, Nat.le_trans (Nat.le_of_ble_eq_true rfl) hR.2⟩⟩ (o := 19) rfl rfl rfl rfl rfl (Nat.le_of_ble_eq_true rfl) hl.1 dX9_by_42) (fun H locs hP hS => ?_)
      exact q_iret C hr hlk hP hS (Option.some.inj hf) dX9_by_45
    · replace hf := zf c6 hf
      refine lv_bipush (v := (-2)) hx hb dX9_by_22 (by decide) ?_
      exact q_iret C hr hlk hP hS (Option.some.inj hf) dX9_by_24
theorem kd_X9_by : yX9_by.cls = RX9 ∧ yX9_by.cls ≠ "java/lang/invoke/MethodHandle" ∧ yX9_by.cls ≠ "java/lang/invoke/VarHandle" ∧ (parseMethodDescriptor yX9_by.desc).map (fun d => d.parameters.length) = some 2 := by decide +kernel
def r_X9_by : Room := { frames := 4, cells := 0, slots := 0, locals := 100 }
set_option maxRecDepth 100000 in
set_option maxHeartbeats 4000000 in
theorem c_X9_by {l : Launch} {D : va_G} {ad : Nat → Nat} {cs : Nat → ClassId} (hD : ∀ σ, va_D (AX ad) (WX ad cs σ)) {σ : Sg} {x1 : Int32} {x2 : Int32} {res : Int32 × Sg} (hf : f_X9_by σ x1 x2 = some res) : Met l yX9_by (wm yX9_by cX9_by 3 (some .int)) r_X9_by (va_Pc [.ref (ad 0), .int x1, .int x2] (BW D (TYX cs) (WX ad cs) σ)) (QI D (TYX cs) (WX ad cs) (AX ad) res.1 res.2) 0 0 (AX ad) := by
  refine q_enter (by decide) hD (Nat.le_of_ble_eq_true rfl) ?_
  intro p e s m below meth c C hr hlk hP hS ls hl
  exact w_X9_by C hr hlk ⟨Nat.le_of_ble_eq_true rfl, Nat.le_of_ble_eq_true rfl⟩ hf hP hS hl

set_option maxRecDepth 100000 in
set_option maxHeartbeats 4000000 in
theorem w_X9_refusalOf (C : CX p m c cX9_refusalOf 3 s args RX9 D (TYX cs) (WX ad cs) (AX ad)) (hr : meth.sig.returnType = (some .int)) (hlk : meth.locks = false) (hR : 1 ≤ R.frames ∧ 21 ≤ R.locals) {σ : Sg} {x1 : Int32} {x2 : Int32} {res : Int32} (hf : f_X9_refusalOf σ x1 x2 = some res) {H : Heap} {locs : List Loc} (hP : va_P D vwCl (WX ad cs σ) H) (hS : va_S (AX ad) s.heap H locs) {ls : Array Slot} (hl : lv_has ls 3 [(0, .ref (ad 0)), (1, .int x1), (2, .int x2)]) : W p l e R s m args below meth c H locs 0 0 (MQ below (QI D (TYX cs) (WX ad cs) (AX ad) res σ) args s 0 0 (AX ad)) (F0 m 0 ls []) := by
  have hx := C.1.1
  have hb := C.1.2.1
  unfold f_X9_refusalOf at hf
  refine lv_iload_n hx hb dX9_refusalOf_0 rfl (lv_at hl 1 rfl) ?_
  refine lv_iload_n hx hb dX9_refusalOf_1 rfl (lv_at hl 2 rfl) ?_
  obtain ⟨r2, hg1, hf⟩ := zb hf
  try dsimp only at hf
  refine q_calli C hS (q_runS C hP (c_X9_isBeyond (l := l) C.2.2.1 hg1) (As := [.int x1, .int x2]) (rest := []) ⟨gd_S k_294 k_295 k_44 k_296, ⟨rfl, rfl⟩, kd_X9_isBeyond, ⟨Nat.le_trans (Nat.le_of_ble_eq_true rfl) hR.1, Nat.le_trans (Nat.le_of_ble_eq_true rfl) hR.2⟩⟩ rfl rfl (Nat.le_of_ble_eq_true rfl) hl.1 dX9_refusalOf_2) (fun H locs hP hS => ?_)
  refine lv_if_eq (tgt := 11) hx hb dX9_refusalOf_5 (by decide) (fun c3 => ?_) (fun c3 => ?_)
  · replace hf := zt c3 hf
    refine lv_aload_n hx hb dX9_refusalOf_11 rfl (lv_at hl 0 rfl) ?_
    refine gX9_1 C hP k_262 dX9_refusalOf_12 ?_
    refine gX7_1N C hP k_117 dX9_refusalOf_15 ?_
    refine lv_if_ne (tgt := 26) hx hb dX9_refusalOf_18 (by decide) (fun c4 => ?_) (fun c4 => ?_)
    · replace hf := zf c4 hf
      refine lv_iconst (v := 0) hx hb dX9_refusalOf_26 (by decide) ?_
      exact q_iret C hr hlk hP hS (congrArg (fun q => (q, σ)) (Option.some.inj hf)) dX9_refusalOf_27
    · replace hf := zt c4 hf
      refine lv_bipush (v := (-3)) hx hb dX9_refusalOf_21 (by decide) ?_
      refine lv_goto (tgt := 27) hx hb dX9_refusalOf_23 (by decide) ?_
      exact q_iret C hr hlk hP hS (congrArg (fun q => (q, σ)) (Option.some.inj hf)) dX9_refusalOf_27
  · replace hf := zf c3 hf
    refine lv_bipush (v := (-2)) hx hb dX9_refusalOf_8 (by decide) ?_
    exact q_iret C hr hlk hP hS (congrArg (fun q => (q, σ)) (Option.some.inj hf)) dX9_refusalOf_10
theorem kd_X9_refusalOf : yX9_refusalOf.cls = RX9 ∧ yX9_refusalOf.cls ≠ "java/lang/invoke/MethodHandle" ∧ yX9_refusalOf.cls ≠ "java/lang/invoke/VarHandle" ∧ (parseMethodDescriptor yX9_refusalOf.desc).map (fun d => d.parameters.length) = some 2 := by decide +kernel
def r_X9_refusalOf : Room := { frames := 1, cells := 0, slots := 0, locals := 21 }
set_option maxRecDepth 100000 in
set_option maxHeartbeats 4000000 in
theorem c_X9_refusalOf {l : Launch} {D : va_G} {ad : Nat → Nat} {cs : Nat → ClassId} (hD : ∀ σ, va_D (AX ad) (WX ad cs σ)) {σ : Sg} {x1 : Int32} {x2 : Int32} {res : Int32} (hf : f_X9_refusalOf σ x1 x2 = some res) : Met l yX9_refusalOf (wm yX9_refusalOf cX9_refusalOf 3 (some .int)) r_X9_refusalOf (va_Pc [.ref (ad 0), .int x1, .int x2] (BW D (TYX cs) (WX ad cs) σ)) (QI D (TYX cs) (WX ad cs) (AX ad) res σ) 0 0 (AX ad) := by
  refine q_enter (by decide) hD (Nat.le_of_ble_eq_true rfl) ?_
  intro p e s m below meth c C hr hlk hP hS ls hl
  exact w_X9_refusalOf C hr hlk ⟨Nat.le_of_ble_eq_true rfl, Nat.le_of_ble_eq_true rfl⟩ hf hP hS hl

set_option maxRecDepth 100000 in
set_option maxHeartbeats 4000000 in
theorem w_X9_undone (C : CX p m c cX9_undone 3 s args RX9 D (TYX cs) (WX ad cs) (AX ad)) (hr : meth.sig.returnType = (some .int)) (hlk : meth.locks = false) (hR : 4 ≤ R.frames ∧ 100 ≤ R.locals) {σ : Sg} {x1 : Int32} {res : Int32 × Sg} (hf : f_X9_undone σ x1 = some res) {H : Heap} {locs : List Loc} (hP : va_P D vwCl (WX ad cs σ) H) (hS : va_S (AX ad) s.heap H locs) {ls : Array Slot} (hl : lv_has ls 3 [(0, .ref (ad 0)), (1, .int x1)]) : W p l e R s m args below meth c H locs 0 0 (MQ below (QI D (TYX cs) (WX ad cs) (AX ad) res.1 res.2) args s 0 0 (AX ad)) (F0 m 0 ls []) := by
  have hx := C.1.1
  have hb := C.1.2.1
  unfold f_X9_undone at hf
  refine lv_aload_n hx hb dX9_undone_0 rfl (lv_at hl 0 rfl) ?_
  refine lv_iload_n hx hb dX9_undone_1 rfl (lv_at hl 1 rfl) ?_
  refine lv_bipush (v := 29) hx hb dX9_undone_2 (by decide) ?_
  obtain ⟨r2, hg1, hf⟩ := zb hf
  try dsimp only at hf
  refine q_calli C hS (q_runV C hP (c_X9_refusalOf (l := l) C.2.2.1 hg1) (ci := 8) (As := [.int x1, .int 29]) (rest := []) ⟨gd_V k_422 k_424 k_5 k_44 k_425, ⟨rfl, rfl⟩, kd_X9_refusalOf, ⟨Nat.le_trans (Nat.le_of_ble_eq_true rfl) hR.1, Nat.le_trans (Nat.le_of_ble_eq_true rfl) hR.2⟩⟩ (o := 0) rfl rfl rfl rfl rfl (Nat.le_of_ble_eq_true rfl) hl.1 dX9_undone_4) (fun H locs hP hS => ?_)
  refine lv_istore_n (lv' := [(2, .int r2), (0, .ref (ad 0)), (1, .int x1)]) hx hb dX9_undone_7 rfl hl (by decide) rfl (fun ls hl => ?_)
  refine lv_iload_n hx hb dX9_undone_8 rfl (lv_at hl 0 rfl) ?_
  refine lv_if_eq (tgt := 14) hx hb dX9_undone_9 (by decide) (fun c3 => ?_) (fun c3 => ?_)
  · replace hf := zt c3 hf
    refine lv_aload_n hx hb dX9_undone_14 rfl (lv_at hl 1 rfl) ?_
    refine gX9_4 C hP k_265 dX9_undone_15 ?_
    refine lv_iload_n hx hb dX9_undone_18 rfl (lv_at hl 2 rfl) ?_
    refine lv_aload_n hx hb dX9_undone_19 rfl (lv_at hl 1 rfl) ?_
    refine gX9_2 C hP k_263 dX9_undone_20 ?_
    obtain ⟨σ5, hg4, hf⟩ := zb hf
    try dsimp only at hf
    refine q_callv C hS (q_runV C hP (c_X3_workUpTo (l := l) C.2.2.1 hg4) (ci := 3) (As := [.int x1, .ref (ad 12)]) (rest := []) ⟨gd_V k_382 k_383 k_384 k_49 k_385, ⟨rfl, rfl⟩, kd_X3_workUpTo, ⟨Nat.le_trans (Nat.le_of_ble_eq_true rfl) hR.1, Nat.le_trans (Nat.le_of_ble_eq_true rfl) hR.2⟩⟩ (o := 19) rfl rfl rfl rfl rfl (Nat.le_of_ble_eq_true rfl) hl.1 dX9_undone_23) (fun H locs hP hS => ?_)
    refine lv_aload_n hx hb dX9_undone_26 rfl (lv_at hl 1 rfl) ?_
    refine gX9_4 C hP k_265 dX9_undone_27 ?_
    obtain ⟨r7, hg6, hf⟩ := zb hf
    try dsimp only at hf
    refine q_calli C hS (q_runV C hP (c_X3_undoneUses (l := l) C.2.2.1 hg6) (ci := 3) (As := []) (rest := []) ⟨gd_V k_426 k_427 k_428 k_49 k_429, ⟨rfl, rfl⟩, kd_X3_undoneUses, ⟨Nat.le_trans (Nat.le_of_ble_eq_true rfl) hR.1, Nat.le_trans (Nat.le_of_ble_eq_true rfl) hR.2⟩⟩ (o := 19) rfl rfl rfl rfl rfl (Nat.le_of_ble_eq_true rfl) hl.1 dX9_undone_30) (fun H locs hP hS => ?_)
    exact q_iret C hr hlk hP hS (Option.some.inj hf) dX9_undone_33
  · replace hf := zf c3 hf
    refine lv_iload_n hx hb dX9_undone_12 rfl (lv_at hl 0 rfl) ?_
    exact q_iret C hr hlk hP hS (Option.some.inj hf) dX9_undone_13
theorem kd_X9_undone : yX9_undone.cls = RX9 ∧ yX9_undone.cls ≠ "java/lang/invoke/MethodHandle" ∧ yX9_undone.cls ≠ "java/lang/invoke/VarHandle" ∧ (parseMethodDescriptor yX9_undone.desc).map (fun d => d.parameters.length) = some 1 := by decide +kernel
def r_X9_undone : Room := { frames := 4, cells := 0, slots := 0, locals := 100 }
set_option maxRecDepth 100000 in
set_option maxHeartbeats 4000000 in
theorem c_X9_undone {l : Launch} {D : va_G} {ad : Nat → Nat} {cs : Nat → ClassId} (hD : ∀ σ, va_D (AX ad) (WX ad cs σ)) {σ : Sg} {x1 : Int32} {res : Int32 × Sg} (hf : f_X9_undone σ x1 = some res) : Met l yX9_undone (wm yX9_undone cX9_undone 3 (some .int)) r_X9_undone (va_Pc [.ref (ad 0), .int x1] (BW D (TYX cs) (WX ad cs) σ)) (QI D (TYX cs) (WX ad cs) (AX ad) res.1 res.2) 0 0 (AX ad) := by
  refine q_enter (by decide) hD (Nat.le_of_ble_eq_true rfl) ?_
  intro p e s m below meth c C hr hlk hP hS ls hl
  exact w_X9_undone C hr hlk ⟨Nat.le_of_ble_eq_true rfl, Nat.le_of_ble_eq_true rfl⟩ hf hP hS hl

set_option maxRecDepth 100000 in
set_option maxHeartbeats 4000000 in
theorem w_X9_serves (C : CX p m c cX9_serves 3 s args RX9 D (TYX cs) (WX ad cs) (AX ad)) (hr : meth.sig.returnType = (some .int)) (hlk : meth.locks = false) (hR : 4 ≤ R.frames ∧ 100 ≤ R.locals) {σ : Sg} {x1 : Int32} {res : Int32 × Sg} (hf : f_X9_serves σ x1 = some res) {H : Heap} {locs : List Loc} (hP : va_P D vwCl (WX ad cs σ) H) (hS : va_S (AX ad) s.heap H locs) {ls : Array Slot} (hl : lv_has ls 3 [(0, .ref (ad 0)), (1, .int x1)]) : W p l e R s m args below meth c H locs 0 0 (MQ below (QI D (TYX cs) (WX ad cs) (AX ad) res.1 res.2) args s 0 0 (AX ad)) (F0 m 0 ls []) := by
  have hx := C.1.1
  have hb := C.1.2.1
  unfold f_X9_serves at hf
  refine lv_aload_n hx hb dX9_serves_0 rfl (lv_at hl 0 rfl) ?_
  refine lv_iload_n hx hb dX9_serves_1 rfl (lv_at hl 1 rfl) ?_
  refine lv_bipush (v := 29) hx hb dX9_serves_2 (by decide) ?_
  obtain ⟨r2, hg1, hf⟩ := zb hf
  try dsimp only at hf
  refine q_calli C hS (q_runV C hP (c_X9_refusalOf (l := l) C.2.2.1 hg1) (ci := 8) (As := [.int x1, .int 29]) (rest := []) ⟨gd_V k_422 k_424 k_5 k_44 k_425, ⟨rfl, rfl⟩, kd_X9_refusalOf, ⟨Nat.le_trans (Nat.le_of_ble_eq_true rfl) hR.1, Nat.le_trans (Nat.le_of_ble_eq_true rfl) hR.2⟩⟩ (o := 0) rfl rfl rfl rfl rfl (Nat.le_of_ble_eq_true rfl) hl.1 dX9_serves_4) (fun H locs hP hS => ?_)
  refine lv_istore_n (lv' := [(2, .int r2), (0, .ref (ad 0)), (1, .int x1)]) hx hb dX9_serves_7 rfl hl (by decide) rfl (fun ls hl => ?_)
  refine lv_iload_n hx hb dX9_serves_8 rfl (lv_at hl 0 rfl) ?_
  refine lv_if_eq (tgt := 14) hx hb dX9_serves_9 (by decide) (fun c3 => ?_) (fun c3 => ?_)
  · replace hf := zt c3 hf
    refine lv_aload_n hx hb dX9_serves_14 rfl (lv_at hl 1 rfl) ?_
    refine gX9_4 C hP k_265 dX9_serves_15 ?_
    refine lv_iload_n hx hb dX9_serves_18 rfl (lv_at hl 2 rfl) ?_
    refine lv_aload_n hx hb dX9_serves_19 rfl (lv_at hl 1 rfl) ?_
    refine gX9_2 C hP k_263 dX9_serves_20 ?_
    obtain ⟨σ5, hg4, hf⟩ := zb hf
    try dsimp only at hf
    refine q_callv C hS (q_runV C hP (c_X3_workUpTo (l := l) C.2.2.1 hg4) (ci := 3) (As := [.int x1, .ref (ad 12)]) (rest := []) ⟨gd_V k_382 k_383 k_384 k_49 k_385, ⟨rfl, rfl⟩, kd_X3_workUpTo, ⟨Nat.le_trans (Nat.le_of_ble_eq_true rfl) hR.1, Nat.le_trans (Nat.le_of_ble_eq_true rfl) hR.2⟩⟩ (o := 19) rfl rfl rfl rfl rfl (Nat.le_of_ble_eq_true rfl) hl.1 dX9_serves_23) (fun H locs hP hS => ?_)
    refine lv_aload_n hx hb dX9_serves_26 rfl (lv_at hl 1 rfl) ?_
    refine gX9_4 C hP k_265 dX9_serves_27 ?_
    obtain ⟨r7, hg6, hf⟩ := zb hf
    try dsimp only at hf
    refine q_calli C hS (q_runV C hP (c_X3_points (l := l) C.2.2.1 hg6) (ci := 3) (As := []) (rest := []) ⟨gd_V k_434 k_435 k_436 k_49 k_437, ⟨rfl, rfl⟩, kd_X3_points, ⟨Nat.le_trans (Nat.le_of_ble_eq_true rfl) hR.1, Nat.le_trans (Nat.le_of_ble_eq_true rfl) hR.2⟩⟩ (o := 19) rfl rfl rfl rfl rfl (Nat.le_of_ble_eq_true rfl) hl.1 dX9_serves_30) (fun H locs hP hS => ?_)
    exact q_iret C hr hlk hP hS (Option.some.inj hf) dX9_serves_33
  · replace hf := zf c3 hf
    refine lv_iload_n hx hb dX9_serves_12 rfl (lv_at hl 0 rfl) ?_
    exact q_iret C hr hlk hP hS (Option.some.inj hf) dX9_serves_13
theorem kd_X9_serves : yX9_serves.cls = RX9 ∧ yX9_serves.cls ≠ "java/lang/invoke/MethodHandle" ∧ yX9_serves.cls ≠ "java/lang/invoke/VarHandle" ∧ (parseMethodDescriptor yX9_serves.desc).map (fun d => d.parameters.length) = some 1 := by decide +kernel
def r_X9_serves : Room := { frames := 4, cells := 0, slots := 0, locals := 100 }
set_option maxRecDepth 100000 in
set_option maxHeartbeats 4000000 in
theorem c_X9_serves {l : Launch} {D : va_G} {ad : Nat → Nat} {cs : Nat → ClassId} (hD : ∀ σ, va_D (AX ad) (WX ad cs σ)) {σ : Sg} {x1 : Int32} {res : Int32 × Sg} (hf : f_X9_serves σ x1 = some res) : Met l yX9_serves (wm yX9_serves cX9_serves 3 (some .int)) r_X9_serves (va_Pc [.ref (ad 0), .int x1] (BW D (TYX cs) (WX ad cs) σ)) (QI D (TYX cs) (WX ad cs) (AX ad) res.1 res.2) 0 0 (AX ad) := by
  refine q_enter (by decide) hD (Nat.le_of_ble_eq_true rfl) ?_
  intro p e s m below meth c C hr hlk hP hS ls hl
  exact w_X9_serves C hr hlk ⟨Nat.le_of_ble_eq_true rfl, Nat.le_of_ble_eq_true rfl⟩ hf hP hS hl

set_option maxRecDepth 100000 in
set_option maxHeartbeats 4000000 in
theorem w_X9_ring_17 (C : CX p m c cX9_ring 3 s args RX9 D (TYX cs) (WX ad cs) (AX ad)) (hr : meth.sig.returnType = (some .int)) (hlk : meth.locks = false) (hR : 2 ≤ R.frames ∧ 44 ≤ R.locals) {σ : Sg} {x1 : Int32} {x2 : Int32} {res : Int32} {ag17 : Int32 → Int32 → Option (Int32)} (hag17 : ∀ (x1 : Int32) (x2 : Int32) (H : Heap) (locs : List Loc) (ls : Array Slot), ag17 x1 x2 = some res → va_P D vwCl (WX ad cs σ) H → va_S (AX ad) s.heap H locs → lv_has ls 3 [(0, .ref (ad 0)), (1, .int x1), (2, .int x2)] → W p l e R s m args below meth c H locs 0 0 (MQ below (QI D (TYX cs) (WX ad cs) (AX ad) res σ) args s 0 0 (AX ad)) (F0 m 17 ls [])) (hf : f_X9_ring_17 ag17 σ x1 x2 = some res) {H : Heap} {locs : List Loc} (hP : va_P D vwCl (WX ad cs σ) H) (hS : va_S (AX ad) s.heap H locs) {ls : Array Slot} (hl : lv_has ls 3 [(0, .ref (ad 0)), (1, .int x1), (2, .int x2)]) : W p l e R s m args below meth c H locs 0 0 (MQ below (QI D (TYX cs) (WX ad cs) (AX ad) res σ) args s 0 0 (AX ad)) (F0 m 17 ls []) := by
  have hx := C.1.1
  have hb := C.1.2.1
  unfold f_X9_ring_17 at hf
  refine lv_iload_n hx hb dX9_ring_17 rfl (lv_at hl 2 rfl) ?_
  refine lv_aload_n hx hb dX9_ring_18 rfl (lv_at hl 0 rfl) ?_
  refine gX9_1 C hP k_262 dX9_ring_19 ?_
  refine gX7_1N C hP k_117 dX9_ring_22 ?_
  refine lv_icmp_ge (tgt := 51) hx hb dX9_ring_25 (by decide) (fun c1 => ?_) (fun c1 => ?_)
  · replace hf := zt c1 hf
    refine lv_iload_n hx hb dX9_ring_51 rfl (lv_at hl 1 rfl) ?_
    exact q_iret C hr hlk hP hS (congrArg (fun q => (q, σ)) (Option.some.inj hf)) dX9_ring_52
  · replace hf := zf c1 hf
    refine lv_aload_n hx hb dX9_ring_28 rfl (lv_at hl 0 rfl) ?_
    refine gX9_1 C hP k_262 dX9_ring_29 ?_
    refine lv_iload_n hx hb dX9_ring_32 rfl (lv_at hl 2 rfl) ?_
    obtain ⟨r3, hg2, hf⟩ := zb hf
    try dsimp only at hf
    refine q_calli C hS (q_runV C hP (c_X7_comesToItself (l := l) C.2.2.1 hg2) (ci := 6) (As := [.int x2]) (rest := []) ⟨gd_V k_443 k_444 k_445 k_45 k_446, ⟨rfl, rfl⟩, kd_X7_comesToItself, ⟨Nat.le_trans (Nat.le_of_ble_eq_true rfl) hR.1, Nat.le_trans (Nat.le_of_ble_eq_true rfl) hR.2⟩⟩ (o := 2) rfl rfl rfl rfl rfl (Nat.le_of_ble_eq_true rfl) hl.1 dX9_ring_33) (fun H locs hP hS => ?_)
    refine lv_if_eq (tgt := 45) hx hb dX9_ring_36 (by decide) (fun c4 => ?_) (fun c4 => ?_)
    · replace hf := zt c4 hf
      refine lv_iinc (v := x2 + 1) (lv' := [(2, .int (x2 + 1)), (0, .ref (ad 0)), (1, .int x1)]) hx hb dX9_ring_45 hl (k := 2) rfl rfl (by decide) rfl (fun ls hl => ?_)
      refine lv_goto (tgt := 17) hx hb dX9_ring_48 (by decide) ?_
      exact hag17 _ _ _ _ _ hf hP hS (lv_sub hl [1, 2, 0] rfl)
    · replace hf := zf c4 hf
      refine lv_iload_n hx hb dX9_ring_39 rfl (lv_at hl 1 rfl) ?_
      refine lv_iconst (v := 1) hx hb dX9_ring_40 (by decide) ?_
      refine lv_iload_n hx hb dX9_ring_41 rfl (lv_at hl 2 rfl) ?_
      refine lv_ishl hx hb dX9_ring_42 ?_
      refine lv_ior hx hb dX9_ring_43 ?_
      refine lv_istore_n (lv' := [(1, .int (x1 ||| ((1 : Int32) <<< (x2 &&& 31)))), (0, .ref (ad 0)), (2, .int x2)]) hx hb dX9_ring_44 rfl hl (by decide) rfl (fun ls hl => ?_)
      refine lv_iinc (v := x2 + 1) (lv' := [(2, .int (x2 + 1)), (1, .int (x1 ||| ((1 : Int32) <<< (x2 &&& 31)))), (0, .ref (ad 0))]) hx hb dX9_ring_45 hl (k := 2) rfl rfl (by decide) rfl (fun ls hl => ?_)
      refine lv_goto (tgt := 17) hx hb dX9_ring_48 (by decide) ?_
      exact hag17 _ _ _ _ _ hf hP hS (lv_sub hl [2, 1, 0] rfl)
set_option maxRecDepth 100000 in
set_option maxHeartbeats 4000000 in
theorem wl_X9_ring_17 (C : CX p m c cX9_ring 3 s args RX9 D (TYX cs) (WX ad cs) (AX ad)) (hr : meth.sig.returnType = (some .int)) (hlk : meth.locks = false) (hR : 2 ≤ R.frames ∧ 44 ≤ R.locals) {σ : Sg}  {res : Int32} : ∀ n : Nat, ∀ (x1 : Int32) (x2 : Int32) (H : Heap) (locs : List Loc) (ls : Array Slot), l_X9_ring_17 σ n x1 x2 = some res → va_P D vwCl (WX ad cs σ) H → va_S (AX ad) s.heap H locs → lv_has ls 3 [(0, .ref (ad 0)), (1, .int x1), (2, .int x2)] → W p l e R s m args below meth c H locs 0 0 (MQ below (QI D (TYX cs) (WX ad cs) (AX ad) res σ) args s 0 0 (AX ad)) (F0 m 17 ls []) := by
  intro n
  induction n with
  | zero => intro x1 x2 H locs ls hf; cases hf
  | succ n ih =>
    intro x1 x2 H locs ls hf hP hS hl
    exact w_X9_ring_17 C hr hlk hR (ag17 := l_X9_ring_17 σ n) ih hf hP hS hl
set_option maxRecDepth 100000 in
set_option maxHeartbeats 4000000 in
theorem w_X9_ring (C : CX p m c cX9_ring 3 s args RX9 D (TYX cs) (WX ad cs) (AX ad)) (hr : meth.sig.returnType = (some .int)) (hlk : meth.locks = false) (hR : 2 ≤ R.frames ∧ 44 ≤ R.locals) {σ : Sg}  {res : Int32} (hf : f_X9_ring σ = some res) {H : Heap} {locs : List Loc} (hP : va_P D vwCl (WX ad cs σ) H) (hS : va_S (AX ad) s.heap H locs) {ls : Array Slot} (hl : lv_has ls 3 [(0, .ref (ad 0))]) : W p l e R s m args below meth c H locs 0 0 (MQ below (QI D (TYX cs) (WX ad cs) (AX ad) res σ) args s 0 0 (AX ad)) (F0 m 0 ls []) := by
  have hx := C.1.1
  have hb := C.1.2.1
  unfold f_X9_ring at hf
  refine lv_aload_n hx hb dX9_ring_0 rfl (lv_at hl 0 rfl) ?_
  refine gX9_1 C hP k_262 dX9_ring_1 ?_
  refine gX7_1N C hP k_117 dX9_ring_4 ?_
  refine lv_if_ne (tgt := 13) hx hb dX9_ring_7 (by decide) (fun c1 => ?_) (fun c1 => ?_)
  · replace hf := zf c1 hf
    refine lv_iconst (v := 0) hx hb dX9_ring_13 (by decide) ?_
    refine lv_istore_n (lv' := [(1, .int 0), (0, .ref (ad 0))]) hx hb dX9_ring_14 rfl hl (by decide) rfl (fun ls hl => ?_)
    refine lv_iconst (v := 0) hx hb dX9_ring_15 (by decide) ?_
    refine lv_istore_n (lv' := [(2, .int 0), (1, .int 0), (0, .ref (ad 0))]) hx hb dX9_ring_16 rfl hl (by decide) rfl (fun ls hl => ?_)
    exact wl_X9_ring_17 C hr hlk hR fu _ _ _ _ _ hf hP hS (lv_sub hl [2, 1, 0] rfl)
  · replace hf := zt c1 hf
    refine lv_bipush (v := (-3)) hx hb dX9_ring_10 (by decide) ?_
    exact q_iret C hr hlk hP hS (congrArg (fun q => (q, σ)) (Option.some.inj hf)) dX9_ring_12
theorem kd_X9_ring : yX9_ring.cls = RX9 ∧ yX9_ring.cls ≠ "java/lang/invoke/MethodHandle" ∧ yX9_ring.cls ≠ "java/lang/invoke/VarHandle" ∧ (parseMethodDescriptor yX9_ring.desc).map (fun d => d.parameters.length) = some 0 := by decide +kernel
def r_X9_ring : Room := { frames := 2, cells := 0, slots := 0, locals := 44 }
set_option maxRecDepth 100000 in
set_option maxHeartbeats 4000000 in
theorem c_X9_ring {l : Launch} {D : va_G} {ad : Nat → Nat} {cs : Nat → ClassId} (hD : ∀ σ, va_D (AX ad) (WX ad cs σ)) {σ : Sg}  {res : Int32} (hf : f_X9_ring σ = some res) : Met l yX9_ring (wm yX9_ring cX9_ring 3 (some .int)) r_X9_ring (va_Pc [.ref (ad 0)] (BW D (TYX cs) (WX ad cs) σ)) (QI D (TYX cs) (WX ad cs) (AX ad) res σ) 0 0 (AX ad) := by
  refine q_enter (by decide) hD (Nat.le_of_ble_eq_true rfl) ?_
  intro p e s m below meth c C hr hlk hP hS ls hl
  exact w_X9_ring C hr hlk ⟨Nat.le_of_ble_eq_true rfl, Nat.le_of_ble_eq_true rfl⟩ hf hP hS hl

set_option maxRecDepth 100000 in
set_option maxHeartbeats 4000000 in
theorem w_X9_leastOf_2 (C : CX p m c cX9_leastOf 2 s args RX9 D (TYX cs) (WX ad cs) (AX ad)) (hr : meth.sig.returnType = (some .int)) (hlk : meth.locks = false) (hR : 0 ≤ R.frames ∧ 0 ≤ R.locals) {σ : Sg} {x0 : Int32} {x1 : Int32} {res : Int32} {ag2 : Int32 → Option (Int32)} (hag2 : ∀ (x1 : Int32) (H : Heap) (locs : List Loc) (ls : Array Slot), ag2 x1 = some res → va_P D vwCl (WX ad cs σ) H → va_S (AX ad) s.heap H locs → lv_has ls 2 [(0, .int x0), (1, .int x1)] → W p l e R s m args below meth c H locs 0 0 (MQ below (QI D (TYX cs) (WX ad cs) (AX ad) res σ) args s 0 0 (AX ad)) (F0 m 2 ls [])) (hf : f_X9_leastOf_2 ag2 σ x0 x1 = some res) {H : Heap} {locs : List Loc} (hP : va_P D vwCl (WX ad cs σ) H) (hS : va_S (AX ad) s.heap H locs) {ls : Array Slot} (hl : lv_has ls 2 [(0, .int x0), (1, .int x1)]) : W p l e R s m args below meth c H locs 0 0 (MQ below (QI D (TYX cs) (WX ad cs) (AX ad) res σ) args s 0 0 (AX ad)) (F0 m 2 ls []) := by
  have hx := C.1.1
  have hb := C.1.2.1
  unfold f_X9_leastOf_2 at hf
  refine lv_iload_n hx hb dX9_leastOf_2 rfl (lv_at hl 1 rfl) ?_
  refine lv_bipush (v := 8) hx hb dX9_leastOf_3 (by decide) ?_
  refine lv_icmp_ge (tgt := 24) hx hb dX9_leastOf_5 (by decide) (fun c1 => ?_) (fun c1 => ?_)
  · replace hf := zt c1 hf
    refine lv_bipush (v := (-9)) hx hb dX9_leastOf_24 (by decide) ?_
    exact q_iret C hr hlk hP hS (congrArg (fun q => (q, σ)) (Option.some.inj hf)) dX9_leastOf_26
  · replace hf := zf c1 hf
    refine lv_iload_n hx hb dX9_leastOf_8 rfl (lv_at hl 0 rfl) ?_
    refine lv_iload_n hx hb dX9_leastOf_9 rfl (lv_at hl 1 rfl) ?_
    refine lv_ishr hx hb dX9_leastOf_10 ?_
    refine lv_iconst (v := 1) hx hb dX9_leastOf_11 (by decide) ?_
    refine lv_iand hx hb dX9_leastOf_12 ?_
    refine lv_if_eq (tgt := 18) hx hb dX9_leastOf_13 (by decide) (fun c2 => ?_) (fun c2 => ?_)
    · replace hf := zt c2 hf
      refine lv_iinc (v := x1 + 1) (lv' := [(1, .int (x1 + 1)), (0, .int x0)]) hx hb dX9_leastOf_18 hl (k := 1) rfl rfl (by decide) rfl (fun ls hl => ?_)
      refine lv_goto (tgt := 2) hx hb dX9_leastOf_21 (by decide) ?_
      exact hag2 _ _ _ _ hf hP hS (lv_sub hl [1, 0] rfl)
    · replace hf := zf c2 hf
      refine lv_iload_n hx hb dX9_leastOf_16 rfl (lv_at hl 1 rfl) ?_
      exact q_iret C hr hlk hP hS (congrArg (fun q => (q, σ)) (Option.some.inj hf)) dX9_leastOf_17
set_option maxRecDepth 100000 in
set_option maxHeartbeats 4000000 in
theorem wl_X9_leastOf_2 (C : CX p m c cX9_leastOf 2 s args RX9 D (TYX cs) (WX ad cs) (AX ad)) (hr : meth.sig.returnType = (some .int)) (hlk : meth.locks = false) (hR : 0 ≤ R.frames ∧ 0 ≤ R.locals) {σ : Sg} {x0 : Int32} {res : Int32} : ∀ n : Nat, ∀ (x1 : Int32) (H : Heap) (locs : List Loc) (ls : Array Slot), l_X9_leastOf_2 σ x0 n x1 = some res → va_P D vwCl (WX ad cs σ) H → va_S (AX ad) s.heap H locs → lv_has ls 2 [(0, .int x0), (1, .int x1)] → W p l e R s m args below meth c H locs 0 0 (MQ below (QI D (TYX cs) (WX ad cs) (AX ad) res σ) args s 0 0 (AX ad)) (F0 m 2 ls []) := by
  intro n
  induction n with
  | zero => intro x1 H locs ls hf; cases hf
  | succ n ih =>
    intro x1 H locs ls hf hP hS hl
    exact w_X9_leastOf_2 C hr hlk hR (ag2 := l_X9_leastOf_2 σ x0 n) ih hf hP hS hl
set_option maxRecDepth 100000 in
set_option maxHeartbeats 4000000 in
theorem w_X9_leastOf (C : CX p m c cX9_leastOf 2 s args RX9 D (TYX cs) (WX ad cs) (AX ad)) (hr : meth.sig.returnType = (some .int)) (hlk : meth.locks = false) (hR : 0 ≤ R.frames ∧ 0 ≤ R.locals) {σ : Sg} {x0 : Int32} {res : Int32} (hf : f_X9_leastOf σ x0 = some res) {H : Heap} {locs : List Loc} (hP : va_P D vwCl (WX ad cs σ) H) (hS : va_S (AX ad) s.heap H locs) {ls : Array Slot} (hl : lv_has ls 2 [(0, .int x0)]) : W p l e R s m args below meth c H locs 0 0 (MQ below (QI D (TYX cs) (WX ad cs) (AX ad) res σ) args s 0 0 (AX ad)) (F0 m 0 ls []) := by
  have hx := C.1.1
  have hb := C.1.2.1
  unfold f_X9_leastOf at hf
  refine lv_iconst (v := 0) hx hb dX9_leastOf_0 (by decide) ?_
  refine lv_istore_n (lv' := [(1, .int 0), (0, .int x0)]) hx hb dX9_leastOf_1 rfl hl (by decide) rfl (fun ls hl => ?_)
  exact wl_X9_leastOf_2 C hr hlk hR fu _ _ _ _ hf hP hS (lv_sub hl [1, 0] rfl)
theorem kd_X9_leastOf : yX9_leastOf.cls ≠ "java/lang/invoke/MethodHandle" ∧ yX9_leastOf.cls ≠ "java/lang/invoke/VarHandle" ∧ (parseMethodDescriptor yX9_leastOf.desc).map (fun d => d.parameters.length) = some 1 := by decide +kernel
def r_X9_leastOf : Room := { frames := 0, cells := 0, slots := 0, locals := 0 }
set_option maxRecDepth 100000 in
set_option maxHeartbeats 4000000 in
theorem c_X9_leastOf {l : Launch} {D : va_G} {ad : Nat → Nat} {cs : Nat → ClassId} (hD : ∀ σ, va_D (AX ad) (WX ad cs σ)) {σ : Sg} {x0 : Int32} {res : Int32} (hf : f_X9_leastOf σ x0 = some res) : Met l yX9_leastOf (wm yX9_leastOf cX9_leastOf 2 (some .int)) r_X9_leastOf (va_Pc [.int x0] (BW D (TYX cs) (WX ad cs) σ)) (QI D (TYX cs) (WX ad cs) (AX ad) res σ) 0 0 (AX ad) := by
  refine q_enter (by decide) hD (Nat.le_of_ble_eq_true rfl) ?_
  intro p e s m below meth c C hr hlk hP hS ls hl
  exact w_X9_leastOf C hr hlk ⟨Nat.le_of_ble_eq_true rfl, Nat.le_of_ble_eq_true rfl⟩ hf hP hS hl

set_option maxRecDepth 100000 in
set_option maxHeartbeats 4000000 in
theorem w_X9_first_22 (C : CX p m c cX9_first 5 s args RX9 D (TYX cs) (WX ad cs) (AX ad)) (hr : meth.sig.returnType = (some .int)) (hlk : meth.locks = false) (hR : 3 ≤ R.frames ∧ 77 ≤ R.locals) {σ : Sg} {x1 : Int32} {x3 : Int32} {res : Int32 × Sg} {ag22 : Int32 → Sg → Option (Int32 × Sg)} (hag22 : ∀ (x3 : Int32) (σ : Sg) (H : Heap) (locs : List Loc) (ls : Array Slot), ag22 x3 σ = some res → va_P D vwCl (WX ad cs σ) H → va_S (AX ad) s.heap H locs → lv_has ls 5 [(0, .ref (ad 0)), (1, .int x1), (3, .int x3)] → W p l e R s m args below meth c H locs 0 0 (MQ below (QI D (TYX cs) (WX ad cs) (AX ad) res.1 res.2) args s 0 0 (AX ad)) (F0 m 22 ls [])) (hf : f_X9_first_22 ag22 σ x1 x3 = some res) {H : Heap} {locs : List Loc} (hP : va_P D vwCl (WX ad cs σ) H) (hS : va_S (AX ad) s.heap H locs) {ls : Array Slot} (hl : lv_has ls 5 [(0, .ref (ad 0)), (1, .int x1), (3, .int x3)]) : W p l e R s m args below meth c H locs 0 0 (MQ below (QI D (TYX cs) (WX ad cs) (AX ad) res.1 res.2) args s 0 0 (AX ad)) (F0 m 22 ls []) := by
  have hx := C.1.1
  have hb := C.1.2.1
  unfold f_X9_first_22 at hf
  refine lv_iload_n hx hb dX9_first_22 rfl (lv_at hl 2 rfl) ?_
  refine lv_bipush (v := 30) hx hb dX9_first_23 (by decide) ?_
  refine lv_icmp_ge (tgt := 84) hx hb dX9_first_25 (by decide) (fun c1 => ?_) (fun c1 => ?_)
  · replace hf := zt c1 hf
    refine lv_bipush (v := (-9)) hx hb dX9_first_84 (by decide) ?_
    exact q_iret C hr hlk hP hS (Option.some.inj hf) dX9_first_86
  · replace hf := zf c1 hf
    refine lv_aload_n hx hb dX9_first_28 rfl (lv_at hl 0 rfl) ?_
    refine gX9_4 C hP k_265 dX9_first_29 ?_
    refine lv_aload_n hx hb dX9_first_32 rfl (lv_at hl 0 rfl) ?_
    refine gX9_1 C hP k_262 dX9_first_33 ?_
    refine gX7_2N C hP k_123 dX9_first_36 ?_
    refine lv_aload_n hx hb dX9_first_39 rfl (lv_at hl 0 rfl) ?_
    refine gX9_2 C hP k_263 dX9_first_40 ?_
    refine lv_iload_n hx hb dX9_first_43 rfl (lv_at hl 2 rfl) ?_
    obtain ⟨r3, hg2, hf⟩ := zb hf
    try dsimp only at hf
    refine q_calli C hS (q_runV C hP (c_X1_brokenIn (l := l) C.2.2.1 hg2) (ci := 1) (As := [.int x3]) (rest := [.int (σ 2 2), .ref (ad 19)]) ⟨gd_V k_452 k_394 k_395 k_47 k_396, ⟨rfl, rfl⟩, kd_X1_brokenIn, ⟨Nat.le_trans (Nat.le_of_ble_eq_true rfl) hR.1, Nat.le_trans (Nat.le_of_ble_eq_true rfl) hR.2⟩⟩ (o := 12) rfl rfl rfl rfl rfl (Nat.le_of_ble_eq_true rfl) hl.1 dX9_first_44) (fun H locs hP hS => ?_)
    obtain ⟨σ5, hg4, hf⟩ := zb hf
    try dsimp only at hf
    refine q_callv C hS (q_runV C hP (c_X3_workHour (l := l) C.2.2.1 hg4) (ci := 3) (As := [.int (σ 2 2), .int r3]) (rest := []) ⟨gd_V k_453 k_398 k_399 k_49 k_400, ⟨rfl, rfl⟩, kd_X3_workHour, ⟨Nat.le_trans (Nat.le_of_ble_eq_true rfl) hR.1, Nat.le_trans (Nat.le_of_ble_eq_true rfl) hR.2⟩⟩ (o := 19) rfl rfl rfl rfl rfl (Nat.le_of_ble_eq_true rfl) hl.1 dX9_first_47) (fun H locs hP hS => ?_)
    refine lv_aload_n hx hb dX9_first_50 rfl (lv_at hl 0 rfl) ?_
    refine gX9_4 C hP k_265 dX9_first_51 ?_
    obtain ⟨r7, hg6, hf⟩ := zb hf
    try dsimp only at hf
    refine q_calli C hS (q_runV C hP (c_X3_undoneUses (l := l) C.2.2.1 hg6) (ci := 3) (As := []) (rest := []) ⟨gd_V k_426 k_427 k_428 k_49 k_429, ⟨rfl, rfl⟩, kd_X3_undoneUses, ⟨Nat.le_trans (Nat.le_of_ble_eq_true rfl) hR.1, Nat.le_trans (Nat.le_of_ble_eq_true rfl) hR.2⟩⟩ (o := 19) rfl rfl rfl rfl rfl (Nat.le_of_ble_eq_true rfl) hl.1 dX9_first_54) (fun H locs hP hS => ?_)
    refine lv_istore (lv' := [(4, .int r7), (0, .ref (ad 0)), (1, .int x1), (3, .int x3)]) hx hb dX9_first_57 hl (by decide) rfl (fun ls hl => ?_)
    refine lv_iload hx hb dX9_first_59 (lv_at hl 0 rfl) ?_
    refine lv_if_eq (tgt := 78) hx hb dX9_first_61 (by decide) (fun c8 => ?_) (fun c8 => ?_)
    · replace hf := zt c8 hf
      refine lv_iinc (v := x3 + 1) (lv' := [(3, .int (x3 + 1)), (4, .int r7), (0, .ref (ad 0)), (1, .int x1)]) hx hb dX9_first_78 hl (k := 3) rfl rfl (by decide) rfl (fun ls hl => ?_)
      refine lv_goto (tgt := 22) hx hb dX9_first_81 (by decide) ?_
      exact hag22 _ _ _ _ _ hf hP hS (lv_sub hl [2, 3, 0] rfl)
    · replace hf := zf c8 hf
      refine lv_iload_n hx hb dX9_first_64 rfl (lv_at hl 2 rfl) ?_
      refine lv_if_ne (tgt := 72) hx hb dX9_first_65 (by decide) (fun c9 => ?_) (fun c9 => ?_)
      · replace hf := zf c9 hf
        refine lv_iload hx hb dX9_first_72 (lv_at hl 0 rfl) ?_
        obtain ⟨r11, hg10, hf⟩ := zb hf
        try dsimp only at hf
        refine q_calli C hS (q_runS C hP (c_X9_leastOf (l := l) C.2.2.1 hg10) (As := [.int r7]) (rest := []) ⟨gd_S k_454 k_455 k_44 k_456, ⟨rfl, rfl⟩, kd_X9_leastOf, ⟨Nat.le_trans (Nat.le_of_ble_eq_true rfl) hR.1, Nat.le_trans (Nat.le_of_ble_eq_true rfl) hR.2⟩⟩ rfl rfl (Nat.le_of_ble_eq_true rfl) hl.1 dX9_first_74) (fun H locs hP hS => ?_)
        exact q_iret C hr hlk hP hS (Option.some.inj hf) dX9_first_77
      · replace hf := zt c9 hf
        refine lv_iload_n hx hb dX9_first_68 rfl (lv_at hl 3 rfl) ?_
        refine lv_goto (tgt := 77) hx hb dX9_first_69 (by decide) ?_
        exact q_iret C hr hlk hP hS (Option.some.inj hf) dX9_first_77
set_option maxRecDepth 100000 in
set_option maxHeartbeats 4000000 in
theorem wl_X9_first_22 (C : CX p m c cX9_first 5 s args RX9 D (TYX cs) (WX ad cs) (AX ad)) (hr : meth.sig.returnType = (some .int)) (hlk : meth.locks = false) (hR : 3 ≤ R.frames ∧ 77 ≤ R.locals) {x1 : Int32} {res : Int32 × Sg} : ∀ n : Nat, ∀ (x3 : Int32) (σ : Sg) (H : Heap) (locs : List Loc) (ls : Array Slot), l_X9_first_22 x1 n x3 σ = some res → va_P D vwCl (WX ad cs σ) H → va_S (AX ad) s.heap H locs → lv_has ls 5 [(0, .ref (ad 0)), (1, .int x1), (3, .int x3)] → W p l e R s m args below meth c H locs 0 0 (MQ below (QI D (TYX cs) (WX ad cs) (AX ad) res.1 res.2) args s 0 0 (AX ad)) (F0 m 22 ls []) := by
  intro n
  induction n with
  | zero => intro x3 σ H locs ls hf; cases hf
  | succ n ih =>
    intro x3 σ H locs ls hf hP hS hl
    exact w_X9_first_22 C hr hlk hR (ag22 := l_X9_first_22 x1 n) ih hf hP hS hl
set_option maxRecDepth 100000 in
set_option maxHeartbeats 4000000 in
theorem w_X9_first (C : CX p m c cX9_first 5 s args RX9 D (TYX cs) (WX ad cs) (AX ad)) (hr : meth.sig.returnType = (some .int)) (hlk : meth.locks = false) (hR : 3 ≤ R.frames ∧ 77 ≤ R.locals) {σ : Sg} {x1 : Int32} {res : Int32 × Sg} (hf : f_X9_first σ x1 = some res) {H : Heap} {locs : List Loc} (hP : va_P D vwCl (WX ad cs σ) H) (hS : va_S (AX ad) s.heap H locs) {ls : Array Slot} (hl : lv_has ls 5 [(0, .ref (ad 0)), (1, .int x1)]) : W p l e R s m args below meth c H locs 0 0 (MQ below (QI D (TYX cs) (WX ad cs) (AX ad) res.1 res.2) args s 0 0 (AX ad)) (F0 m 0 ls []) := by
  have hx := C.1.1
  have hb := C.1.2.1
  unfold f_X9_first at hf
  refine lv_aload_n hx hb dX9_first_0 rfl (lv_at hl 0 rfl) ?_
  refine lv_iload_n hx hb dX9_first_1 rfl (lv_at hl 1 rfl) ?_
  refine lv_iconst (v := 1) hx hb dX9_first_2 (by decide) ?_
  obtain ⟨r2, hg1, hf⟩ := zb hf
  try dsimp only at hf
  refine q_calli C hS (q_runV C hP (c_X9_refusalOf (l := l) C.2.2.1 hg1) (ci := 8) (As := [.int x1, .int 1]) (rest := []) ⟨gd_V k_422 k_424 k_5 k_44 k_425, ⟨rfl, rfl⟩, kd_X9_refusalOf, ⟨Nat.le_trans (Nat.le_of_ble_eq_true rfl) hR.1, Nat.le_trans (Nat.le_of_ble_eq_true rfl) hR.2⟩⟩ (o := 0) rfl rfl rfl rfl rfl (Nat.le_of_ble_eq_true rfl) hl.1 dX9_first_3) (fun H locs hP hS => ?_)
  refine lv_istore_n (lv' := [(2, .int r2), (0, .ref (ad 0)), (1, .int x1)]) hx hb dX9_first_6 rfl hl (by decide) rfl (fun ls hl => ?_)
  refine lv_iload_n hx hb dX9_first_7 rfl (lv_at hl 0 rfl) ?_
  refine lv_if_eq (tgt := 13) hx hb dX9_first_8 (by decide) (fun c3 => ?_) (fun c3 => ?_)
  · replace hf := zt c3 hf
    refine lv_aload_n hx hb dX9_first_13 rfl (lv_at hl 1 rfl) ?_
    refine gX9_4 C hP k_265 dX9_first_14 ?_
    obtain ⟨σ5, hg4, hf⟩ := zb hf
    try dsimp only at hf
    refine q_callv C hS (q_runV C hP (c_X3_forget (l := l) C.2.2.1 hg4) (ci := 3) (As := []) (rest := []) ⟨gd_V k_451 k_387 k_388 k_49 k_389, ⟨rfl, rfl⟩, kd_X3_forget, ⟨Nat.le_trans (Nat.le_of_ble_eq_true rfl) hR.1, Nat.le_trans (Nat.le_of_ble_eq_true rfl) hR.2⟩⟩ (o := 19) rfl rfl rfl rfl rfl (Nat.le_of_ble_eq_true rfl) hl.1 dX9_first_17) (fun H locs hP hS => ?_)
    refine lv_iconst (v := 0) hx hb dX9_first_20 (by decide) ?_
    refine lv_istore_n (lv' := [(3, .int 0), (2, .int r2), (0, .ref (ad 0)), (1, .int x1)]) hx hb dX9_first_21 rfl hl (by decide) rfl (fun ls hl => ?_)
    exact wl_X9_first_22 C hr hlk hR fu _ _ _ _ _ hf hP hS (lv_sub hl [2, 3, 0] rfl)
  · replace hf := zf c3 hf
    refine lv_iload_n hx hb dX9_first_11 rfl (lv_at hl 0 rfl) ?_
    exact q_iret C hr hlk hP hS (Option.some.inj hf) dX9_first_12
theorem kd_X9_first : yX9_first.cls = RX9 ∧ yX9_first.cls ≠ "java/lang/invoke/MethodHandle" ∧ yX9_first.cls ≠ "java/lang/invoke/VarHandle" ∧ (parseMethodDescriptor yX9_first.desc).map (fun d => d.parameters.length) = some 1 := by decide +kernel
def r_X9_first : Room := { frames := 3, cells := 0, slots := 0, locals := 77 }
set_option maxRecDepth 100000 in
set_option maxHeartbeats 4000000 in
theorem c_X9_first {l : Launch} {D : va_G} {ad : Nat → Nat} {cs : Nat → ClassId} (hD : ∀ σ, va_D (AX ad) (WX ad cs σ)) {σ : Sg} {x1 : Int32} {res : Int32 × Sg} (hf : f_X9_first σ x1 = some res) : Met l yX9_first (wm yX9_first cX9_first 5 (some .int)) r_X9_first (va_Pc [.ref (ad 0), .int x1] (BW D (TYX cs) (WX ad cs) σ)) (QI D (TYX cs) (WX ad cs) (AX ad) res.1 res.2) 0 0 (AX ad) := by
  refine q_enter (by decide) hD (Nat.le_of_ble_eq_true rfl) ?_
  intro p e s m below meth c C hr hlk hP hS ls hl
  exact w_X9_first C hr hlk ⟨Nat.le_of_ble_eq_true rfl, Nat.le_of_ble_eq_true rfl⟩ hf hP hS hl

set_option maxRecDepth 100000 in
set_option maxHeartbeats 4000000 in
theorem w_X9_frail (C : CX p m c cX9_frail 3 s args RX9 D (TYX cs) (WX ad cs) (AX ad)) (hr : meth.sig.returnType = (some .int)) (hlk : meth.locks = false) (hR : 5 ≤ R.frames ∧ 122 ≤ R.locals) {σ : Sg} {x1 : Int32} {x2 : Int32} {res : Int32 × Sg} (hf : f_X9_frail σ x1 x2 = some res) {H : Heap} {locs : List Loc} (hP : va_P D vwCl (WX ad cs σ) H) (hS : va_S (AX ad) s.heap H locs) {ls : Array Slot} (hl : lv_has ls 3 [(0, .ref (ad 0)), (1, .int x1), (2, .int x2)]) : W p l e R s m args below meth c H locs 0 0 (MQ below (QI D (TYX cs) (WX ad cs) (AX ad) res.1 res.2) args s 0 0 (AX ad)) (F0 m 0 ls []) := by
  have hx := C.1.1
  have hb := C.1.2.1
  unfold f_X9_frail at hf
  refine lv_aload_n hx hb dX9_frail_0 rfl (lv_at hl 0 rfl) ?_
  refine gX9_1 C hP k_262 dX9_frail_1 ?_
  refine gX7_1N C hP k_117 dX9_frail_4 ?_
  refine lv_if_ne (tgt := 13) hx hb dX9_frail_7 (by decide) (fun c1 => ?_) (fun c1 => ?_)
  · replace hf := zf c1 hf
    refine lv_iload_n hx hb dX9_frail_13 rfl (lv_at hl 1 rfl) ?_
    refine lv_aload_n hx hb dX9_frail_14 rfl (lv_at hl 0 rfl) ?_
    refine gX9_1 C hP k_262 dX9_frail_15 ?_
    refine gX7_1N C hP k_117 dX9_frail_18 ?_
    obtain ⟨r3, hg2, hf⟩ := zb hf
    try dsimp only at hf
    refine q_calli C hS (q_runS C hP (c_X9_isBeyond (l := l) C.2.2.1 hg2) (As := [.int x1, .int (σ 2 1)]) (rest := []) ⟨gd_S k_294 k_295 k_44 k_296, ⟨rfl, rfl⟩, kd_X9_isBeyond, ⟨Nat.le_trans (Nat.le_of_ble_eq_true rfl) hR.1, Nat.le_trans (Nat.le_of_ble_eq_true rfl) hR.2⟩⟩ rfl rfl (Nat.le_of_ble_eq_true rfl) hl.1 dX9_frail_21) (fun H locs hP hS => ?_)
    refine lv_if_ne (tgt := 35) hx hb dX9_frail_24 (by decide) (fun c4 => ?_) (fun c4 => ?_)
    · replace hf := zf c4 hf
      refine lv_bipush (v := (-2)) hx hb dX9_frail_35 (by decide) ?_
      exact q_iret C hr hlk hP hS (Option.some.inj hf) dX9_frail_37
    · replace hf := zt c4 hf
      refine lv_iload_n hx hb dX9_frail_27 rfl (lv_at hl 2 rfl) ?_
      refine lv_iconst (v := 1) hx hb dX9_frail_28 (by decide) ?_
      obtain ⟨r6, hg5, hf⟩ := zb hf
      try dsimp only at hf
      refine q_calli C hS (q_runS C hP (c_X9_isBeyond (l := l) C.2.2.1 hg5) (As := [.int x2, .int 1]) (rest := []) ⟨gd_S k_294 k_295 k_44 k_296, ⟨rfl, rfl⟩, kd_X9_isBeyond, ⟨Nat.le_trans (Nat.le_of_ble_eq_true rfl) hR.1, Nat.le_trans (Nat.le_of_ble_eq_true rfl) hR.2⟩⟩ rfl rfl (Nat.le_of_ble_eq_true rfl) hl.1 dX9_frail_29) (fun H locs hP hS => ?_)
      refine lv_if_eq (tgt := 38) hx hb dX9_frail_32 (by decide) (fun c7 => ?_) (fun c7 => ?_)
      · replace hf := zt c7 hf
        refine lv_aload_n hx hb dX9_frail_38 rfl (lv_at hl 0 rfl) ?_
        refine gX9_5 C hP k_266 dX9_frail_39 ?_
        refine lv_iload_n hx hb dX9_frail_42 rfl (lv_at hl 1 rfl) ?_
        obtain ⟨σ9, hg8, hf⟩ := zb hf
        try dsimp only at hf
        refine q_callv C hS (q_runV C hP (c_X8_seekFrail (l := l) C.2.2.1 hg8) (ci := 7) (As := [.int x1]) (rest := []) ⟨gd_V k_461 k_462 k_463 k_50 k_464, ⟨rfl, rfl⟩, kd_X8_seekFrail, ⟨Nat.le_trans (Nat.le_of_ble_eq_true rfl) hR.1, Nat.le_trans (Nat.le_of_ble_eq_true rfl) hR.2⟩⟩ (o := 22) rfl rfl rfl rfl rfl (Nat.le_of_ble_eq_true rfl) hl.1 dX9_frail_43) (fun H locs hP hS => ?_)
        refine lv_iload_n hx hb dX9_frail_46 rfl (lv_at hl 2 rfl) ?_
        refine lv_if_ne (tgt := 60) hx hb dX9_frail_47 (by decide) (fun c10 => ?_) (fun c10 => ?_)
        · replace hf := zf c10 hf
          refine lv_aload_n hx hb dX9_frail_60 rfl (lv_at hl 0 rfl) ?_
          refine gX9_5 C hP k_266 dX9_frail_61 ?_
          refine gX8_3N C hP k_199 dX9_frail_64 ?_
          exact q_iret C hr hlk hP hS (Option.some.inj hf) dX9_frail_67
        · replace hf := zt c10 hf
          refine lv_aload_n hx hb dX9_frail_50 rfl (lv_at hl 0 rfl) ?_
          refine gX9_5 C hP k_266 dX9_frail_51 ?_
          refine gX8_2N C hP k_197 dX9_frail_54 ?_
          refine lv_goto (tgt := 67) hx hb dX9_frail_57 (by decide) ?_
          exact q_iret C hr hlk hP hS (Option.some.inj hf) dX9_frail_67
      · replace hf := zf c7 hf
        refine lv_bipush (v := (-2)) hx hb dX9_frail_35 (by decide) ?_
        exact q_iret C hr hlk hP hS (Option.some.inj hf) dX9_frail_37
  · replace hf := zt c1 hf
    refine lv_bipush (v := (-3)) hx hb dX9_frail_10 (by decide) ?_
    exact q_iret C hr hlk hP hS (Option.some.inj hf) dX9_frail_12
theorem kd_X9_frail : yX9_frail.cls = RX9 ∧ yX9_frail.cls ≠ "java/lang/invoke/MethodHandle" ∧ yX9_frail.cls ≠ "java/lang/invoke/VarHandle" ∧ (parseMethodDescriptor yX9_frail.desc).map (fun d => d.parameters.length) = some 2 := by decide +kernel
def r_X9_frail : Room := { frames := 5, cells := 0, slots := 0, locals := 122 }
set_option maxRecDepth 100000 in
set_option maxHeartbeats 4000000 in
theorem c_X9_frail {l : Launch} {D : va_G} {ad : Nat → Nat} {cs : Nat → ClassId} (hD : ∀ σ, va_D (AX ad) (WX ad cs σ)) {σ : Sg} {x1 : Int32} {x2 : Int32} {res : Int32 × Sg} (hf : f_X9_frail σ x1 x2 = some res) : Met l yX9_frail (wm yX9_frail cX9_frail 3 (some .int)) r_X9_frail (va_Pc [.ref (ad 0), .int x1, .int x2] (BW D (TYX cs) (WX ad cs) σ)) (QI D (TYX cs) (WX ad cs) (AX ad) res.1 res.2) 0 0 (AX ad) := by
  refine q_enter (by decide) hD (Nat.le_of_ble_eq_true rfl) ?_
  intro p e s m below meth c C hr hlk hP hS ls hl
  exact w_X9_frail C hr hlk ⟨Nat.le_of_ble_eq_true rfl, Nat.le_of_ble_eq_true rfl⟩ hf hP hS hl

set_option maxRecDepth 100000 in
set_option maxHeartbeats 4000000 in
theorem w_X9_plot (C : CX p m c cX9_plot 2 s args RX9 D (TYX cs) (WX ad cs) (AX ad)) (hr : meth.sig.returnType = (some .int)) (hlk : meth.locks = false) (hR : 5 ≤ R.frames ∧ 122 ≤ R.locals) {σ : Sg} {x1 : Int32} {res : Int32 × Sg} (hf : f_X9_plot σ x1 = some res) {H : Heap} {locs : List Loc} (hP : va_P D vwCl (WX ad cs σ) H) (hS : va_S (AX ad) s.heap H locs) {ls : Array Slot} (hl : lv_has ls 2 [(0, .ref (ad 0)), (1, .int x1)]) : W p l e R s m args below meth c H locs 0 0 (MQ below (QI D (TYX cs) (WX ad cs) (AX ad) res.1 res.2) args s 0 0 (AX ad)) (F0 m 0 ls []) := by
  have hx := C.1.1
  have hb := C.1.2.1
  unfold f_X9_plot at hf
  refine lv_aload_n hx hb dX9_plot_0 rfl (lv_at hl 0 rfl) ?_
  refine gX9_1 C hP k_262 dX9_plot_1 ?_
  refine lv_iload_n hx hb dX9_plot_4 rfl (lv_at hl 1 rfl) ?_
  obtain ⟨r2, hg1, hf⟩ := zb hf
  try dsimp only at hf
  refine q_callr C hS (q_runV C hP (c_X7_thingAt (l := l) C.2.2.1 hg1) (ci := 6) (As := [.int x1]) (rest := []) ⟨gd_V k_357 k_340 k_341 k_45 k_342, ⟨rfl, rfl⟩, kd_X7_thingAt, ⟨Nat.le_trans (Nat.le_of_ble_eq_true rfl) hR.1, Nat.le_trans (Nat.le_of_ble_eq_true rfl) hR.2⟩⟩ (o := 2) rfl rfl rfl rfl rfl (Nat.le_of_ble_eq_true rfl) hl.1 dX9_plot_5) (fun H locs hP hS => ?_)
  rcases r2 with _ | t3
  · refine lv_ifnonnullN hx hb dX9_plot_8 ?_
    try dsimp only at hf
    refine lv_iconst (v := (-1)) hx hb dX9_plot_11 (by decide) ?_
    exact q_iret C hr hlk hP hS (Option.some.inj hf) dX9_plot_12
  · refine lv_ifnonnull (tgt := 13) hx hb dX9_plot_8 (by decide) ?_
    try dsimp only at hf
    refine lv_aload_n hx hb dX9_plot_13 rfl (lv_at hl 0 rfl) ?_
    refine gX9_5 C hP k_266 dX9_plot_14 ?_
    refine lv_iload_n hx hb dX9_plot_17 rfl (lv_at hl 1 rfl) ?_
    obtain ⟨⟨r5, σ6⟩, hg4, hf⟩ := zb hf
    try dsimp only at hf
    refine q_calli C hS (q_runV C hP (c_X8_plotOn (l := l) C.2.2.1 hg4) (ci := 7) (As := [.int x1]) (rest := []) ⟨gd_V k_484 k_485 k_486 k_50 k_487, ⟨rfl, rfl⟩, kd_X8_plotOn, ⟨Nat.le_trans (Nat.le_of_ble_eq_true rfl) hR.1, Nat.le_trans (Nat.le_of_ble_eq_true rfl) hR.2⟩⟩ (o := 22) rfl rfl rfl rfl rfl (Nat.le_of_ble_eq_true rfl) hl.1 dX9_plot_18) (fun H locs hP hS => ?_)
    exact q_iret C hr hlk hP hS (Option.some.inj hf) dX9_plot_21
theorem kd_X9_plot : yX9_plot.cls = RX9 ∧ yX9_plot.cls ≠ "java/lang/invoke/MethodHandle" ∧ yX9_plot.cls ≠ "java/lang/invoke/VarHandle" ∧ (parseMethodDescriptor yX9_plot.desc).map (fun d => d.parameters.length) = some 1 := by decide +kernel
def r_X9_plot : Room := { frames := 5, cells := 0, slots := 0, locals := 122 }
set_option maxRecDepth 100000 in
set_option maxHeartbeats 4000000 in
theorem c_X9_plot {l : Launch} {D : va_G} {ad : Nat → Nat} {cs : Nat → ClassId} (hD : ∀ σ, va_D (AX ad) (WX ad cs σ)) {σ : Sg} {x1 : Int32} {res : Int32 × Sg} (hf : f_X9_plot σ x1 = some res) : Met l yX9_plot (wm yX9_plot cX9_plot 2 (some .int)) r_X9_plot (va_Pc [.ref (ad 0), .int x1] (BW D (TYX cs) (WX ad cs) σ)) (QI D (TYX cs) (WX ad cs) (AX ad) res.1 res.2) 0 0 (AX ad) := by
  refine q_enter (by decide) hD (Nat.le_of_ble_eq_true rfl) ?_
  intro p e s m below meth c C hr hlk hP hS ls hl
  exact w_X9_plot C hr hlk ⟨Nat.le_of_ble_eq_true rfl, Nat.le_of_ble_eq_true rfl⟩ hf hP hS hl

set_option maxRecDepth 100000 in
set_option maxHeartbeats 4000000 in
theorem w_X9_mend (C : CX p m c cX9_mend 3 s args RX9 D (TYX cs) (WX ad cs) (AX ad)) (hr : meth.sig.returnType = (some .int)) (hlk : meth.locks = false) (hR : 6 ≤ R.frames ∧ 146 ≤ R.locals) {σ : Sg} {x1 : Int32} {res : Int32 × Sg} (hf : f_X9_mend σ x1 = some res) {H : Heap} {locs : List Loc} (hP : va_P D vwCl (WX ad cs σ) H) (hS : va_S (AX ad) s.heap H locs) {ls : Array Slot} (hl : lv_has ls 3 [(0, .ref (ad 0)), (1, .int x1)]) : W p l e R s m args below meth c H locs 0 0 (MQ below (QI D (TYX cs) (WX ad cs) (AX ad) res.1 res.2) args s 0 0 (AX ad)) (F0 m 0 ls []) := by
  have hx := C.1.1
  have hb := C.1.2.1
  unfold f_X9_mend at hf
  refine lv_aload_n hx hb dX9_mend_0 rfl (lv_at hl 0 rfl) ?_
  refine lv_iload_n hx hb dX9_mend_1 rfl (lv_at hl 1 rfl) ?_
  refine lv_iconst (v := 1) hx hb dX9_mend_2 (by decide) ?_
  obtain ⟨r2, hg1, hf⟩ := zb hf
  try dsimp only at hf
  refine q_calli C hS (q_runV C hP (c_X9_refusalOf (l := l) C.2.2.1 hg1) (ci := 8) (As := [.int x1, .int 1]) (rest := []) ⟨gd_V k_422 k_424 k_5 k_44 k_425, ⟨rfl, rfl⟩, kd_X9_refusalOf, ⟨Nat.le_trans (Nat.le_of_ble_eq_true rfl) hR.1, Nat.le_trans (Nat.le_of_ble_eq_true rfl) hR.2⟩⟩ (o := 0) rfl rfl rfl rfl rfl (Nat.le_of_ble_eq_true rfl) hl.1 dX9_mend_3) (fun H locs hP hS => ?_)
  refine lv_istore_n (lv' := [(2, .int r2), (0, .ref (ad 0)), (1, .int x1)]) hx hb dX9_mend_6 rfl hl (by decide) rfl (fun ls hl => ?_)
  refine lv_iload_n hx hb dX9_mend_7 rfl (lv_at hl 0 rfl) ?_
  refine lv_if_eq (tgt := 13) hx hb dX9_mend_8 (by decide) (fun c3 => ?_) (fun c3 => ?_)
  · replace hf := zt c3 hf
    refine lv_aload_n hx hb dX9_mend_13 rfl (lv_at hl 1 rfl) ?_
    refine gX9_5 C hP k_266 dX9_mend_14 ?_
    obtain ⟨σ5, hg4, hf⟩ := zb hf
    try dsimp only at hf
    refine q_callv C hS (q_runV C hP (c_X8_seekMend (l := l) C.2.2.1 hg4) (ci := 7) (As := []) (rest := []) ⟨gd_V k_496 k_497 k_498 k_50 k_499, ⟨rfl, rfl⟩, kd_X8_seekMend, ⟨Nat.le_trans (Nat.le_of_ble_eq_true rfl) hR.1, Nat.le_trans (Nat.le_of_ble_eq_true rfl) hR.2⟩⟩ (o := 22) rfl rfl rfl rfl rfl (Nat.le_of_ble_eq_true rfl) hl.1 dX9_mend_17) (fun H locs hP hS => ?_)
    refine lv_iload_n hx hb dX9_mend_20 rfl (lv_at hl 2 rfl) ?_
    refine lv_if_ne (tgt := 34) hx hb dX9_mend_21 (by decide) (fun c6 => ?_) (fun c6 => ?_)
    · replace hf := zf c6 hf
      refine lv_aload_n hx hb dX9_mend_34 rfl (lv_at hl 1 rfl) ?_
      refine gX9_5 C hP k_266 dX9_mend_35 ?_
      refine gX8_5N C hP k_203 dX9_mend_38 ?_
      exact q_iret C hr hlk hP hS (Option.some.inj hf) dX9_mend_41
    · replace hf := zt c6 hf
      refine lv_aload_n hx hb dX9_mend_24 rfl (lv_at hl 1 rfl) ?_
      refine gX9_5 C hP k_266 dX9_mend_25 ?_
      refine gX8_4N C hP k_201 dX9_mend_28 ?_
      refine lv_goto (tgt := 41) hx hb dX9_mend_31 (by decide) ?_
      exact q_iret C hr hlk hP hS (Option.some.inj hf) dX9_mend_41
  · replace hf := zf c3 hf
    refine lv_iload_n hx hb dX9_mend_11 rfl (lv_at hl 0 rfl) ?_
    exact q_iret C hr hlk hP hS (Option.some.inj hf) dX9_mend_12
theorem kd_X9_mend : yX9_mend.cls = RX9 ∧ yX9_mend.cls ≠ "java/lang/invoke/MethodHandle" ∧ yX9_mend.cls ≠ "java/lang/invoke/VarHandle" ∧ (parseMethodDescriptor yX9_mend.desc).map (fun d => d.parameters.length) = some 1 := by decide +kernel
def r_X9_mend : Room := { frames := 6, cells := 0, slots := 0, locals := 146 }
set_option maxRecDepth 100000 in
set_option maxHeartbeats 4000000 in
theorem c_X9_mend {l : Launch} {D : va_G} {ad : Nat → Nat} {cs : Nat → ClassId} (hD : ∀ σ, va_D (AX ad) (WX ad cs σ)) {σ : Sg} {x1 : Int32} {res : Int32 × Sg} (hf : f_X9_mend σ x1 = some res) : Met l yX9_mend (wm yX9_mend cX9_mend 3 (some .int)) r_X9_mend (va_Pc [.ref (ad 0), .int x1] (BW D (TYX cs) (WX ad cs) σ)) (QI D (TYX cs) (WX ad cs) (AX ad) res.1 res.2) 0 0 (AX ad) := by
  refine q_enter (by decide) hD (Nat.le_of_ble_eq_true rfl) ?_
  intro p e s m below meth c C hr hlk hP hS ls hl
  exact w_X9_mend C hr hlk ⟨Nat.le_of_ble_eq_true rfl, Nat.le_of_ble_eq_true rfl⟩ hf hP hS hl

set_option maxRecDepth 100000 in
set_option maxHeartbeats 4000000 in
theorem w_X9_wave (C : CX p m c cX9_wave 4 s args RX9 D (TYX cs) (WX ad cs) (AX ad)) (hr : meth.sig.returnType = (some .int)) (hlk : meth.locks = false) (hR : 4 ≤ R.frames ∧ 99 ≤ R.locals) {σ : Sg} {x1 : Int32} {res : Int32 × Sg} (hf : f_X9_wave σ x1 = some res) {H : Heap} {locs : List Loc} (hP : va_P D vwCl (WX ad cs σ) H) (hS : va_S (AX ad) s.heap H locs) {ls : Array Slot} (hl : lv_has ls 4 [(0, .ref (ad 0)), (1, .int x1)]) : W p l e R s m args below meth c H locs 0 0 (MQ below (QI D (TYX cs) (WX ad cs) (AX ad) res.1 res.2) args s 0 0 (AX ad)) (F0 m 0 ls []) := by
  have hx := C.1.1
  have hb := C.1.2.1
  unfold f_X9_wave at hf
  refine lv_aload_n hx hb dX9_wave_0 rfl (lv_at hl 0 rfl) ?_
  refine gX9_1 C hP k_262 dX9_wave_1 ?_
  refine lv_iload_n hx hb dX9_wave_4 rfl (lv_at hl 1 rfl) ?_
  obtain ⟨r2, hg1, hf⟩ := zb hf
  try dsimp only at hf
  refine q_callr C hS (q_runV C hP (c_X7_thingAt (l := l) C.2.2.1 hg1) (ci := 6) (As := [.int x1]) (rest := []) ⟨gd_V k_357 k_340 k_341 k_45 k_342, ⟨rfl, rfl⟩, kd_X7_thingAt, ⟨Nat.le_trans (Nat.le_of_ble_eq_true rfl) hR.1, Nat.le_trans (Nat.le_of_ble_eq_true rfl) hR.2⟩⟩ (o := 2) rfl rfl rfl rfl rfl (Nat.le_of_ble_eq_true rfl) hl.1 dX9_wave_5) (fun H locs hP hS => ?_)
  rcases r2 with _ | t3
  · refine lv_ifnonnullN hx hb dX9_wave_8 ?_
    try dsimp only at hf
    refine lv_iconst (v := (-1)) hx hb dX9_wave_11 (by decide) ?_
    exact q_iret C hr hlk hP hS (Option.some.inj hf) dX9_wave_12
  · refine lv_ifnonnull (tgt := 13) hx hb dX9_wave_8 (by decide) ?_
    try dsimp only at hf
    refine lv_aload_n hx hb dX9_wave_13 rfl (lv_at hl 0 rfl) ?_
    refine gX9_2 C hP k_263 dX9_wave_14 ?_
    refine lv_iconst (v := 0) hx hb dX9_wave_17 (by decide) ?_
    obtain ⟨r5, hg4, hf⟩ := zb hf
    try dsimp only at hf
    refine q_calli C hS (q_runV C hP (c_X1_brokenIn (l := l) C.2.2.1 hg4) (ci := 1) (As := [.int 0]) (rest := []) ⟨gd_V k_452 k_394 k_395 k_47 k_396, ⟨rfl, rfl⟩, kd_X1_brokenIn, ⟨Nat.le_trans (Nat.le_of_ble_eq_true rfl) hR.1, Nat.le_trans (Nat.le_of_ble_eq_true rfl) hR.2⟩⟩ (o := 12) rfl rfl rfl rfl rfl (Nat.le_of_ble_eq_true rfl) hl.1 dX9_wave_18) (fun H locs hP hS => ?_)
    refine lv_istore_n (lv' := [(2, .int r5), (0, .ref (ad 0)), (1, .int x1)]) hx hb dX9_wave_21 rfl hl (by decide) rfl (fun ls hl => ?_)
    refine lv_aload_n hx hb dX9_wave_22 rfl (lv_at hl 1 rfl) ?_
    refine gX9_4 C hP k_265 dX9_wave_23 ?_
    refine lv_aload_n hx hb dX9_wave_26 rfl (lv_at hl 1 rfl) ?_
    refine gX9_1 C hP k_262 dX9_wave_27 ?_
    refine gX7_2N C hP k_123 dX9_wave_30 ?_
    refine lv_iload_n hx hb dX9_wave_33 rfl (lv_at hl 0 rfl) ?_
    obtain ⟨σ7, hg6, hf⟩ := zb hf
    try dsimp only at hf
    refine q_callv C hS (q_runV C hP (c_X3_workHourZero (l := l) C.2.2.1 hg6) (ci := 3) (As := [.int (σ 2 2), .int r5]) (rest := []) ⟨gd_V k_510 k_476 k_477 k_49 k_478, ⟨rfl, rfl⟩, kd_X3_workHourZero, ⟨Nat.le_trans (Nat.le_of_ble_eq_true rfl) hR.1, Nat.le_trans (Nat.le_of_ble_eq_true rfl) hR.2⟩⟩ (o := 19) rfl rfl rfl rfl rfl (Nat.le_of_ble_eq_true rfl) hl.1 dX9_wave_34) (fun H locs hP hS => ?_)
    refine lv_aload_n hx hb dX9_wave_37 rfl (lv_at hl 1 rfl) ?_
    refine gX9_4 C hP k_265 dX9_wave_38 ?_
    obtain ⟨r9, hg8, hf⟩ := zb hf
    try dsimp only at hf
    refine q_calli C hS (q_runV C hP (c_X3_points (l := l) C.2.2.1 hg8) (ci := 3) (As := []) (rest := []) ⟨gd_V k_434 k_435 k_436 k_49 k_437, ⟨rfl, rfl⟩, kd_X3_points, ⟨Nat.le_trans (Nat.le_of_ble_eq_true rfl) hR.1, Nat.le_trans (Nat.le_of_ble_eq_true rfl) hR.2⟩⟩ (o := 19) rfl rfl rfl rfl rfl (Nat.le_of_ble_eq_true rfl) hl.1 dX9_wave_41) (fun H locs hP hS => ?_)
    refine lv_istore_n (lv' := [(3, .int r9), (2, .int r5), (0, .ref (ad 0)), (1, .int x1)]) hx hb dX9_wave_44 rfl hl (by decide) rfl (fun ls hl => ?_)
    refine lv_aload_n hx hb dX9_wave_45 rfl (lv_at hl 2 rfl) ?_
    refine gX9_4 C hP k_265 dX9_wave_46 ?_
    refine lv_aload_n hx hb dX9_wave_49 rfl (lv_at hl 2 rfl) ?_
    refine gX9_1 C hP k_262 dX9_wave_50 ?_
    refine gX7_2N C hP k_123 dX9_wave_53 ?_
    refine lv_iload_n hx hb dX9_wave_56 rfl (lv_at hl 1 rfl) ?_
    refine lv_iconst (v := 1) hx hb dX9_wave_57 (by decide) ?_
    refine lv_iload_n hx hb dX9_wave_58 rfl (lv_at hl 3 rfl) ?_
    refine lv_ishl hx hb dX9_wave_59 ?_
    refine lv_ior hx hb dX9_wave_60 ?_
    obtain ⟨σ11, hg10, hf⟩ := zb hf
    try dsimp only at hf
    refine q_callv C hS (q_runV C hP (c_X3_workHourZero (l := l) C.2.2.1 hg10) (ci := 3) (As := [.int (σ7 2 2), .int (r5 ||| ((1 : Int32) <<< (x1 &&& 31)))]) (rest := []) ⟨gd_V k_510 k_476 k_477 k_49 k_478, ⟨rfl, rfl⟩, kd_X3_workHourZero, ⟨Nat.le_trans (Nat.le_of_ble_eq_true rfl) hR.1, Nat.le_trans (Nat.le_of_ble_eq_true rfl) hR.2⟩⟩ (o := 19) rfl rfl rfl rfl rfl (Nat.le_of_ble_eq_true rfl) hl.1 dX9_wave_61) (fun H locs hP hS => ?_)
    refine lv_iload_n hx hb dX9_wave_64 rfl (lv_at hl 0 rfl) ?_
    refine lv_aload_n hx hb dX9_wave_65 rfl (lv_at hl 2 rfl) ?_
    refine gX9_4 C hP k_265 dX9_wave_66 ?_
    obtain ⟨r13, hg12, hf⟩ := zb hf
    try dsimp only at hf
    refine q_calli C hS (q_runV C hP (c_X3_points (l := l) C.2.2.1 hg12) (ci := 3) (As := []) (rest := [.int r9]) ⟨gd_V k_434 k_435 k_436 k_49 k_437, ⟨rfl, rfl⟩, kd_X3_points, ⟨Nat.le_trans (Nat.le_of_ble_eq_true rfl) hR.1, Nat.le_trans (Nat.le_of_ble_eq_true rfl) hR.2⟩⟩ (o := 19) rfl rfl rfl rfl rfl (Nat.le_of_ble_eq_true rfl) hl.1 dX9_wave_69) (fun H locs hP hS => ?_)
    refine lv_isub hx hb dX9_wave_72 ?_
    refine lv_sipush (v := 1000) hx hb dX9_wave_73 (by decide) ?_
    refine lv_iadd hx hb dX9_wave_76 ?_
    exact q_iret C hr hlk hP hS (Option.some.inj hf) dX9_wave_77
theorem kd_X9_wave : yX9_wave.cls = RX9 ∧ yX9_wave.cls ≠ "java/lang/invoke/MethodHandle" ∧ yX9_wave.cls ≠ "java/lang/invoke/VarHandle" ∧ (parseMethodDescriptor yX9_wave.desc).map (fun d => d.parameters.length) = some 1 := by decide +kernel
def r_X9_wave : Room := { frames := 4, cells := 0, slots := 0, locals := 99 }
set_option maxRecDepth 100000 in
set_option maxHeartbeats 4000000 in
theorem c_X9_wave {l : Launch} {D : va_G} {ad : Nat → Nat} {cs : Nat → ClassId} (hD : ∀ σ, va_D (AX ad) (WX ad cs σ)) {σ : Sg} {x1 : Int32} {res : Int32 × Sg} (hf : f_X9_wave σ x1 = some res) : Met l yX9_wave (wm yX9_wave cX9_wave 4 (some .int)) r_X9_wave (va_Pc [.ref (ad 0), .int x1] (BW D (TYX cs) (WX ad cs) σ)) (QI D (TYX cs) (WX ad cs) (AX ad) res.1 res.2) 0 0 (AX ad) := by
  refine q_enter (by decide) hD (Nat.le_of_ble_eq_true rfl) ?_
  intro p e s m below meth c C hr hlk hP hS ls hl
  exact w_X9_wave C hr hlk ⟨Nat.le_of_ble_eq_true rfl, Nat.le_of_ble_eq_true rfl⟩ hf hP hS hl

set_option maxRecDepth 100000 in
set_option maxHeartbeats 4000000 in
theorem w_X9_namesThings_2 (C : CX p m c cX9_namesThings 5 s args RX9 D (TYX cs) (WX ad cs) (AX ad)) (hr : meth.sig.returnType = (some .boolean)) (hlk : meth.locks = false) (hR : 1 ≤ R.frames ∧ 21 ≤ R.locals) {σ : Sg} {x1 : Nat} {x2 : Int32} {x3 : Int32} {res : Int32} {ag2 : Int32 → Option (Int32)} (hag2 : ∀ (x3 : Int32) (H : Heap) (locs : List Loc) (ls : Array Slot), ag2 x3 = some res → va_P D vwCl (WX ad cs σ) H → va_S (AX ad) s.heap H locs → lv_has ls 5 [(0, .ref (ad 0)), (1, .ref (ad (24 + x1))), (2, .int x2), (3, .int x3)] → W p l e R s m args below meth c H locs 0 0 (MQ below (QI D (TYX cs) (WX ad cs) (AX ad) res σ) args s 0 0 (AX ad)) (F0 m 2 ls [])) (hf : f_X9_namesThings_2 ag2 σ x1 x2 x3 = some res) {H : Heap} {locs : List Loc} (hP : va_P D vwCl (WX ad cs σ) H) (hS : va_S (AX ad) s.heap H locs) {ls : Array Slot} (hl : lv_has ls 5 [(0, .ref (ad 0)), (1, .ref (ad (24 + x1))), (2, .int x2), (3, .int x3)]) : W p l e R s m args below meth c H locs 0 0 (MQ below (QI D (TYX cs) (WX ad cs) (AX ad) res σ) args s 0 0 (AX ad)) (F0 m 2 ls []) := by
  have hx := C.1.1
  have hb := C.1.2.1
  unfold f_X9_namesThings_2 at hf
  refine lv_iload_n hx hb dX9_namesThings_2 rfl (lv_at hl 3 rfl) ?_
  refine lv_aload_n hx hb dX9_namesThings_3 rfl (lv_at hl 0 rfl) ?_
  refine gX9_1 C hP k_262 dX9_namesThings_4 ?_
  refine gX7_1N C hP k_117 dX9_namesThings_7 ?_
  refine lv_icmp_ge (tgt := 49) hx hb dX9_namesThings_10 (by decide) (fun c1 => ?_) (fun c1 => ?_)
  · replace hf := zt c1 hf
    refine lv_iconst (v := 1) hx hb dX9_namesThings_49 (by decide) ?_
    exact q_zret C hr hlk hP hS (congrArg (fun q => (q, σ)) (Option.some.inj hf)) (by decide) dX9_namesThings_50
  · replace hf := zf c1 hf
    refine lv_aload_n hx hb dX9_namesThings_13 rfl (lv_at hl 1 rfl) ?_
    refine lv_iload_n hx hb dX9_namesThings_14 rfl (lv_at hl 2 rfl) ?_
    refine lv_iload_n hx hb dX9_namesThings_15 rfl (lv_at hl 3 rfl) ?_
    refine lv_iadd hx hb dX9_namesThings_16 ?_
    obtain ⟨h3, hf⟩ := zc hf
    obtain ⟨r4, hg2, hf⟩ := zb hf
    try dsimp only at hf
    refine q_calli C hS (q_runV C hP (c_X4_cellAt (l := l) C.2.2.1 hg2) (ci := 4) (As := [.int (x2 + x3)]) (rest := []) ⟨gd_V k_519 k_313 k_314 k_52 k_315, ⟨rfl, rfl⟩, kd_X4_cellAt, ⟨Nat.le_trans (Nat.le_of_ble_eq_true rfl) hR.1, Nat.le_trans (Nat.le_of_ble_eq_true rfl) hR.2⟩⟩ (oX_X4 h3) rfl rfl rfl rfl (Nat.le_of_ble_eq_true rfl) hl.1 dX9_namesThings_17) (fun H locs hP hS => ?_)
    refine lv_istore (lv' := [(4, .int r4), (0, .ref (ad 0)), (1, .ref (ad (24 + x1))), (2, .int x2), (3, .int x3)]) hx hb dX9_namesThings_20 hl (by decide) rfl (fun ls hl => ?_)
    refine lv_iload hx hb dX9_namesThings_22 (lv_at hl 0 rfl) ?_
    refine lv_bipush (v := (-9)) hx hb dX9_namesThings_24 (by decide) ?_
    refine lv_icmp_eq (tgt := 43) hx hb dX9_namesThings_26 (by decide) (fun c5 => ?_) (fun c5 => ?_)
    · replace hf := zt c5 hf
      refine lv_iinc (v := x3 + 1) (lv' := [(3, .int (x3 + 1)), (4, .int r4), (0, .ref (ad 0)), (1, .ref (ad (24 + x1))), (2, .int x2)]) hx hb dX9_namesThings_43 hl (k := 4) rfl rfl (by decide) rfl (fun ls hl => ?_)
      refine lv_goto (tgt := 2) hx hb dX9_namesThings_46 (by decide) ?_
      exact hag2 _ _ _ _ hf hP hS (lv_sub hl [2, 3, 4, 0] rfl)
    · replace hf := zf c5 hf
      refine lv_aload_n hx hb dX9_namesThings_29 rfl (lv_at hl 1 rfl) ?_
      refine gX9_1 C hP k_262 dX9_namesThings_30 ?_
      refine lv_iload hx hb dX9_namesThings_33 (lv_at hl 0 rfl) ?_
      obtain ⟨r7, hg6, hf⟩ := zb hf
      try dsimp only at hf
      refine q_callr C hS (q_runV C hP (c_X7_thingAt (l := l) C.2.2.1 hg6) (ci := 6) (As := [.int r4]) (rest := []) ⟨gd_V k_357 k_340 k_341 k_45 k_342, ⟨rfl, rfl⟩, kd_X7_thingAt, ⟨Nat.le_trans (Nat.le_of_ble_eq_true rfl) hR.1, Nat.le_trans (Nat.le_of_ble_eq_true rfl) hR.2⟩⟩ (o := 2) rfl rfl rfl rfl rfl (Nat.le_of_ble_eq_true rfl) hl.1 dX9_namesThings_35) (fun H locs hP hS => ?_)
      rcases r7 with _ | t8
      · refine lv_ifnonnullN hx hb dX9_namesThings_38 ?_
        try dsimp only at hf
        refine lv_iconst (v := 0) hx hb dX9_namesThings_41 (by decide) ?_
        exact q_zret C hr hlk hP hS (congrArg (fun q => (q, σ)) (Option.some.inj hf)) (by decide) dX9_namesThings_42
      · refine lv_ifnonnull (tgt := 43) hx hb dX9_namesThings_38 (by decide) ?_
        try dsimp only at hf
        refine lv_iinc (v := x3 + 1) (lv' := [(3, .int (x3 + 1)), (4, .int r4), (0, .ref (ad 0)), (1, .ref (ad (24 + x1))), (2, .int x2)]) hx hb dX9_namesThings_43 hl (k := 4) rfl rfl (by decide) rfl (fun ls hl => ?_)
        refine lv_goto (tgt := 2) hx hb dX9_namesThings_46 (by decide) ?_
        exact hag2 _ _ _ _ hf hP hS (lv_sub hl [2, 3, 4, 0] rfl)
set_option maxRecDepth 100000 in
set_option maxHeartbeats 4000000 in
theorem wl_X9_namesThings_2 (C : CX p m c cX9_namesThings 5 s args RX9 D (TYX cs) (WX ad cs) (AX ad)) (hr : meth.sig.returnType = (some .boolean)) (hlk : meth.locks = false) (hR : 1 ≤ R.frames ∧ 21 ≤ R.locals) {σ : Sg} {x1 : Nat} {x2 : Int32} {res : Int32} : ∀ n : Nat, ∀ (x3 : Int32) (H : Heap) (locs : List Loc) (ls : Array Slot), l_X9_namesThings_2 σ x1 x2 n x3 = some res → va_P D vwCl (WX ad cs σ) H → va_S (AX ad) s.heap H locs → lv_has ls 5 [(0, .ref (ad 0)), (1, .ref (ad (24 + x1))), (2, .int x2), (3, .int x3)] → W p l e R s m args below meth c H locs 0 0 (MQ below (QI D (TYX cs) (WX ad cs) (AX ad) res σ) args s 0 0 (AX ad)) (F0 m 2 ls []) := by
  intro n
  induction n with
  | zero => intro x3 H locs ls hf; cases hf
  | succ n ih =>
    intro x3 H locs ls hf hP hS hl
    exact w_X9_namesThings_2 C hr hlk hR (ag2 := l_X9_namesThings_2 σ x1 x2 n) ih hf hP hS hl
set_option maxRecDepth 100000 in
set_option maxHeartbeats 4000000 in
theorem w_X9_namesThings (C : CX p m c cX9_namesThings 5 s args RX9 D (TYX cs) (WX ad cs) (AX ad)) (hr : meth.sig.returnType = (some .boolean)) (hlk : meth.locks = false) (hR : 1 ≤ R.frames ∧ 21 ≤ R.locals) {σ : Sg} {x1 : Nat} {x2 : Int32} {res : Int32} (hf : f_X9_namesThings σ x1 x2 = some res) {H : Heap} {locs : List Loc} (hP : va_P D vwCl (WX ad cs σ) H) (hS : va_S (AX ad) s.heap H locs) {ls : Array Slot} (hl : lv_has ls 5 [(0, .ref (ad 0)), (1, .ref (ad (24 + x1))), (2, .int x2)]) : W p l e R s m args below meth c H locs 0 0 (MQ below (QI D (TYX cs) (WX ad cs) (AX ad) res σ) args s 0 0 (AX ad)) (F0 m 0 ls []) := by
  have hx := C.1.1
  have hb := C.1.2.1
  unfold f_X9_namesThings at hf
  refine lv_iconst (v := 0) hx hb dX9_namesThings_0 (by decide) ?_
  refine lv_istore_n (lv' := [(3, .int 0), (0, .ref (ad 0)), (1, .ref (ad (24 + x1))), (2, .int x2)]) hx hb dX9_namesThings_1 rfl hl (by decide) rfl (fun ls hl => ?_)
  exact wl_X9_namesThings_2 C hr hlk hR fu _ _ _ _ hf hP hS (lv_sub hl [1, 2, 3, 0] rfl)
theorem kd_X9_namesThings : yX9_namesThings.cls = RX9 ∧ yX9_namesThings.cls ≠ "java/lang/invoke/MethodHandle" ∧ yX9_namesThings.cls ≠ "java/lang/invoke/VarHandle" ∧ (parseMethodDescriptor yX9_namesThings.desc).map (fun d => d.parameters.length) = some 2 := by decide +kernel
def r_X9_namesThings : Room := { frames := 1, cells := 0, slots := 0, locals := 21 }
set_option maxRecDepth 100000 in
set_option maxHeartbeats 4000000 in
theorem c_X9_namesThings {l : Launch} {D : va_G} {ad : Nat → Nat} {cs : Nat → ClassId} (hD : ∀ σ, va_D (AX ad) (WX ad cs σ)) {σ : Sg} {x1 : Nat} {x2 : Int32} {res : Int32} (hf : f_X9_namesThings σ x1 x2 = some res) : Met l yX9_namesThings (wm yX9_namesThings cX9_namesThings 5 (some .boolean)) r_X9_namesThings (va_Pc [.ref (ad 0), .ref (ad (24 + x1)), .int x2] (BW D (TYX cs) (WX ad cs) σ)) (QI D (TYX cs) (WX ad cs) (AX ad) res σ) 0 0 (AX ad) := by
  refine q_enter (by decide) hD (Nat.le_of_ble_eq_true rfl) ?_
  intro p e s m below meth c C hr hlk hP hS ls hl
  exact w_X9_namesThings C hr hlk ⟨Nat.le_of_ble_eq_true rfl, Nat.le_of_ble_eq_true rfl⟩ hf hP hS hl

set_option maxRecDepth 100000 in
set_option maxHeartbeats 4000000 in
theorem w_X9_firstUnlike_24 (C : CX p m c cX9_firstUnlike 4 s args RX9 D (TYX cs) (WX ad cs) (AX ad)) (hr : meth.sig.returnType = (some .int)) (hlk : meth.locks = false) (hR : 4 ≤ R.frames ∧ 99 ≤ R.locals) {σ : Sg} {x1 : Nat} {x2 : Int32} {x3 : Int32} {res : Int32 × Sg} {ag24 : Int32 → Option (Int32 × Sg)} (hag24 : ∀ (x3 : Int32) (H : Heap) (locs : List Loc) (ls : Array Slot), ag24 x3 = some res → va_P D vwCl (WX ad cs σ) H → va_S (AX ad) s.heap H locs → lv_has ls 4 [(0, .ref (ad 0)), (1, .ref (ad (24 + x1))), (2, .int x2), (3, .int x3)] → W p l e R s m args below meth c H locs 0 0 (MQ below (QI D (TYX cs) (WX ad cs) (AX ad) res.1 res.2) args s 0 0 (AX ad)) (F0 m 24 ls [])) (hf : f_X9_firstUnlike_24 ag24 σ x1 x2 x3 = some res) {H : Heap} {locs : List Loc} (hP : va_P D vwCl (WX ad cs σ) H) (hS : va_S (AX ad) s.heap H locs) {ls : Array Slot} (hl : lv_has ls 4 [(0, .ref (ad 0)), (1, .ref (ad (24 + x1))), (2, .int x2), (3, .int x3)]) : W p l e R s m args below meth c H locs 0 0 (MQ below (QI D (TYX cs) (WX ad cs) (AX ad) res.1 res.2) args s 0 0 (AX ad)) (F0 m 24 ls []) := by
  have hx := C.1.1
  have hb := C.1.2.1
  unfold f_X9_firstUnlike_24 at hf
  refine lv_iload_n hx hb dX9_firstUnlike_24 rfl (lv_at hl 3 rfl) ?_
  refine lv_aload_n hx hb dX9_firstUnlike_25 rfl (lv_at hl 0 rfl) ?_
  refine gX9_1 C hP k_262 dX9_firstUnlike_26 ?_
  refine gX7_1N C hP k_117 dX9_firstUnlike_29 ?_
  refine lv_icmp_ge (tgt := 61) hx hb dX9_firstUnlike_32 (by decide) (fun c1 => ?_) (fun c1 => ?_)
  · replace hf := zt c1 hf
    refine lv_bipush (v := (-9)) hx hb dX9_firstUnlike_61 (by decide) ?_
    exact q_iret C hr hlk hP hS (Option.some.inj hf) dX9_firstUnlike_63
  · replace hf := zf c1 hf
    refine lv_aload_n hx hb dX9_firstUnlike_35 rfl (lv_at hl 1 rfl) ?_
    refine lv_iload_n hx hb dX9_firstUnlike_36 rfl (lv_at hl 2 rfl) ?_
    refine lv_iload_n hx hb dX9_firstUnlike_37 rfl (lv_at hl 3 rfl) ?_
    refine lv_iadd hx hb dX9_firstUnlike_38 ?_
    obtain ⟨h3, hf⟩ := zc hf
    obtain ⟨r4, hg2, hf⟩ := zb hf
    try dsimp only at hf
    refine q_calli C hS (q_runV C hP (c_X4_cellAt (l := l) C.2.2.1 hg2) (ci := 4) (As := [.int (x2 + x3)]) (rest := []) ⟨gd_V k_519 k_313 k_314 k_52 k_315, ⟨rfl, rfl⟩, kd_X4_cellAt, ⟨Nat.le_trans (Nat.le_of_ble_eq_true rfl) hR.1, Nat.le_trans (Nat.le_of_ble_eq_true rfl) hR.2⟩⟩ (oX_X4 h3) rfl rfl rfl rfl (Nat.le_of_ble_eq_true rfl) hl.1 dX9_firstUnlike_39) (fun H locs hP hS => ?_)
    refine lv_aload_n hx hb dX9_firstUnlike_42 rfl (lv_at hl 0 rfl) ?_
    refine gX9_4 C hP k_265 dX9_firstUnlike_43 ?_
    refine lv_iload_n hx hb dX9_firstUnlike_46 rfl (lv_at hl 3 rfl) ?_
    obtain ⟨r6, hg5, hf⟩ := zb hf
    try dsimp only at hf
    refine q_calli C hS (q_runV C hP (c_X3_serverOf (l := l) C.2.2.1 hg5) (ci := 3) (As := [.int x3]) (rest := [.int r4]) ⟨gd_V k_414 k_415 k_416 k_49 k_417, ⟨rfl, rfl⟩, kd_X3_serverOf, ⟨Nat.le_trans (Nat.le_of_ble_eq_true rfl) hR.1, Nat.le_trans (Nat.le_of_ble_eq_true rfl) hR.2⟩⟩ (o := 19) rfl rfl rfl rfl rfl (Nat.le_of_ble_eq_true rfl) hl.1 dX9_firstUnlike_47) (fun H locs hP hS => ?_)
    refine lv_icmp_eq (tgt := 55) hx hb dX9_firstUnlike_50 (by decide) (fun c7 => ?_) (fun c7 => ?_)
    · replace hf := zt c7 hf
      refine lv_iinc (v := x3 + 1) (lv' := [(3, .int (x3 + 1)), (0, .ref (ad 0)), (1, .ref (ad (24 + x1))), (2, .int x2)]) hx hb dX9_firstUnlike_55 hl (k := 3) rfl rfl (by decide) rfl (fun ls hl => ?_)
      refine lv_goto (tgt := 24) hx hb dX9_firstUnlike_58 (by decide) ?_
      exact hag24 _ _ _ _ hf hP hS (lv_sub hl [1, 2, 3, 0] rfl)
    · replace hf := zf c7 hf
      refine lv_iload_n hx hb dX9_firstUnlike_53 rfl (lv_at hl 3 rfl) ?_
      exact q_iret C hr hlk hP hS (Option.some.inj hf) dX9_firstUnlike_54
set_option maxRecDepth 100000 in
set_option maxHeartbeats 4000000 in
theorem wl_X9_firstUnlike_24 (C : CX p m c cX9_firstUnlike 4 s args RX9 D (TYX cs) (WX ad cs) (AX ad)) (hr : meth.sig.returnType = (some .int)) (hlk : meth.locks = false) (hR : 4 ≤ R.frames ∧ 99 ≤ R.locals) {σ : Sg} {x1 : Nat} {x2 : Int32} {res : Int32 × Sg} : ∀ n : Nat, ∀ (x3 : Int32) (H : Heap) (locs : List Loc) (ls : Array Slot), l_X9_firstUnlike_24 σ x1 x2 n x3 = some res → va_P D vwCl (WX ad cs σ) H → va_S (AX ad) s.heap H locs → lv_has ls 4 [(0, .ref (ad 0)), (1, .ref (ad (24 + x1))), (2, .int x2), (3, .int x3)] → W p l e R s m args below meth c H locs 0 0 (MQ below (QI D (TYX cs) (WX ad cs) (AX ad) res.1 res.2) args s 0 0 (AX ad)) (F0 m 24 ls []) := by
  intro n
  induction n with
  | zero => intro x3 H locs ls hf; cases hf
  | succ n ih =>
    intro x3 H locs ls hf hP hS hl
    exact w_X9_firstUnlike_24 C hr hlk hR (ag24 := l_X9_firstUnlike_24 σ x1 x2 n) ih hf hP hS hl
set_option maxRecDepth 100000 in
set_option maxHeartbeats 4000000 in
theorem w_X9_firstUnlike (C : CX p m c cX9_firstUnlike 4 s args RX9 D (TYX cs) (WX ad cs) (AX ad)) (hr : meth.sig.returnType = (some .int)) (hlk : meth.locks = false) (hR : 4 ≤ R.frames ∧ 99 ≤ R.locals) {σ : Sg} {x1 : Nat} {x2 : Int32} {res : Int32 × Sg} (hf : f_X9_firstUnlike σ x1 x2 = some res) {H : Heap} {locs : List Loc} (hP : va_P D vwCl (WX ad cs σ) H) (hS : va_S (AX ad) s.heap H locs) {ls : Array Slot} (hl : lv_has ls 4 [(0, .ref (ad 0)), (1, .ref (ad (24 + x1))), (2, .int x2)]) : W p l e R s m args below meth c H locs 0 0 (MQ below (QI D (TYX cs) (WX ad cs) (AX ad) res.1 res.2) args s 0 0 (AX ad)) (F0 m 0 ls []) := by
  have hx := C.1.1
  have hb := C.1.2.1
  unfold f_X9_firstUnlike at hf
  refine lv_aload_n hx hb dX9_firstUnlike_0 rfl (lv_at hl 0 rfl) ?_
  refine gX9_4 C hP k_265 dX9_firstUnlike_1 ?_
  refine lv_aload_n hx hb dX9_firstUnlike_4 rfl (lv_at hl 0 rfl) ?_
  refine gX9_1 C hP k_262 dX9_firstUnlike_5 ?_
  refine gX7_2N C hP k_123 dX9_firstUnlike_8 ?_
  refine lv_aload_n hx hb dX9_firstUnlike_11 rfl (lv_at hl 0 rfl) ?_
  refine gX9_2 C hP k_263 dX9_firstUnlike_12 ?_
  refine lv_iconst (v := 0) hx hb dX9_firstUnlike_15 (by decide) ?_
  obtain ⟨r2, hg1, hf⟩ := zb hf
  try dsimp only at hf
  refine q_calli C hS (q_runV C hP (c_X1_brokenIn (l := l) C.2.2.1 hg1) (ci := 1) (As := [.int 0]) (rest := [.int (σ 2 2), .ref (ad 19)]) ⟨gd_V k_452 k_394 k_395 k_47 k_396, ⟨rfl, rfl⟩, kd_X1_brokenIn, ⟨Nat.le_trans (Nat.le_of_ble_eq_true rfl) hR.1, Nat.le_trans (Nat.le_of_ble_eq_true rfl) hR.2⟩⟩ (o := 12) rfl rfl rfl rfl rfl (Nat.le_of_ble_eq_true rfl) hl.1 dX9_firstUnlike_16) (fun H locs hP hS => ?_)
  obtain ⟨σ4, hg3, hf⟩ := zb hf
  try dsimp only at hf
  refine q_callv C hS (q_runV C hP (c_X3_workHourZero (l := l) C.2.2.1 hg3) (ci := 3) (As := [.int (σ 2 2), .int r2]) (rest := []) ⟨gd_V k_510 k_476 k_477 k_49 k_478, ⟨rfl, rfl⟩, kd_X3_workHourZero, ⟨Nat.le_trans (Nat.le_of_ble_eq_true rfl) hR.1, Nat.le_trans (Nat.le_of_ble_eq_true rfl) hR.2⟩⟩ (o := 19) rfl rfl rfl rfl rfl (Nat.le_of_ble_eq_true rfl) hl.1 dX9_firstUnlike_19) (fun H locs hP hS => ?_)
  refine lv_iconst (v := 0) hx hb dX9_firstUnlike_22 (by decide) ?_
  refine lv_istore_n (lv' := [(3, .int 0), (0, .ref (ad 0)), (1, .ref (ad (24 + x1))), (2, .int x2)]) hx hb dX9_firstUnlike_23 rfl hl (by decide) rfl (fun ls hl => ?_)
  exact wl_X9_firstUnlike_24 C hr hlk hR fu _ _ _ _ hf hP hS (lv_sub hl [1, 2, 3, 0] rfl)
theorem kd_X9_firstUnlike : yX9_firstUnlike.cls = RX9 ∧ yX9_firstUnlike.cls ≠ "java/lang/invoke/MethodHandle" ∧ yX9_firstUnlike.cls ≠ "java/lang/invoke/VarHandle" ∧ (parseMethodDescriptor yX9_firstUnlike.desc).map (fun d => d.parameters.length) = some 2 := by decide +kernel
def r_X9_firstUnlike : Room := { frames := 4, cells := 0, slots := 0, locals := 99 }
set_option maxRecDepth 100000 in
set_option maxHeartbeats 4000000 in
theorem c_X9_firstUnlike {l : Launch} {D : va_G} {ad : Nat → Nat} {cs : Nat → ClassId} (hD : ∀ σ, va_D (AX ad) (WX ad cs σ)) {σ : Sg} {x1 : Nat} {x2 : Int32} {res : Int32 × Sg} (hf : f_X9_firstUnlike σ x1 x2 = some res) : Met l yX9_firstUnlike (wm yX9_firstUnlike cX9_firstUnlike 4 (some .int)) r_X9_firstUnlike (va_Pc [.ref (ad 0), .ref (ad (24 + x1)), .int x2] (BW D (TYX cs) (WX ad cs) σ)) (QI D (TYX cs) (WX ad cs) (AX ad) res.1 res.2) 0 0 (AX ad) := by
  refine q_enter (by decide) hD (Nat.le_of_ble_eq_true rfl) ?_
  intro p e s m below meth c C hr hlk hP hS ls hl
  exact w_X9_firstUnlike C hr hlk ⟨Nat.le_of_ble_eq_true rfl, Nat.le_of_ble_eq_true rfl⟩ hf hP hS hl

set_option maxRecDepth 100000 in
set_option maxHeartbeats 4000000 in
theorem w_X9_roster (C : CX p m c cX9_roster 7 s args RX9 D (TYX cs) (WX ad cs) (AX ad)) (hr : meth.sig.returnType = (some .int)) (hlk : meth.locks = false) (hR : 5 ≤ R.frames ∧ 122 ≤ R.locals) {σ : Sg} {x1 : Int32} {x2 : Int32} {x3 : Int32} {x4 : Int32} {res : Int32 × Sg} (hf : f_X9_roster σ x1 x2 x3 x4 = some res) {H : Heap} {locs : List Loc} (hP : va_P D vwCl (WX ad cs σ) H) (hS : va_S (AX ad) s.heap H locs) {ls : Array Slot} (hl : lv_has ls 7 [(0, .ref (ad 0)), (1, .int x1), (2, .int x2), (3, .int x3), (4, .int x4)]) : W p l e R s m args below meth c H locs 0 0 (MQ below (QI D (TYX cs) (WX ad cs) (AX ad) res.1 res.2) args s 0 0 (AX ad)) (F0 m 0 ls []) := by
  have hx := C.1.1
  have hb := C.1.2.1
  unfold f_X9_roster at hf
  refine lv_aload_n hx hb dX9_roster_0 rfl (lv_at hl 0 rfl) ?_
  refine lv_iconst (v := 0) hx hb dX9_roster_1 (by decide) ?_
  refine pX9_7 C hP hS k_268 dX9_roster_2 (fun H locs hP hS => ?_)
  refine lv_aload_n hx hb dX9_roster_5 rfl (lv_at hl 0 rfl) ?_
  refine lv_iload_n hx hb dX9_roster_6 rfl (lv_at hl 1 rfl) ?_
  obtain ⟨r2, hg1, hf⟩ := zb hf
  try dsimp only at hf
  refine q_callr C hS (q_runV C hP (c_X9_sheetAt (l := l) C.2.2.1 hg1) (ci := 8) (As := [.int x1]) (rest := []) ⟨gd_V k_290 k_292 k_0 k_44 k_293, ⟨rfl, rfl⟩, kd_X9_sheetAt, ⟨Nat.le_trans (Nat.le_of_ble_eq_true rfl) hR.1, Nat.le_trans (Nat.le_of_ble_eq_true rfl) hR.2⟩⟩ (o := 0) rfl rfl rfl rfl rfl (Nat.le_of_ble_eq_true rfl) hl.1 dX9_roster_7) (fun H locs hP hS => ?_)
  refine q_astoreq (lv' := [(5, va_rf (Option.map (fun t => ad (24 + t)) r2)), (0, .ref (ad 0)), (1, .int x1), (2, .int x2), (3, .int x3), (4, .int x4)]) C dX9_roster_10 hl (by decide) rfl (fun ls hl => ?_)
  refine q_aloadq C dX9_roster_12 (lv_at hl 0 rfl) ?_
  rcases r2 with _ | t3
  · refine lv_ifnonnullN hx hb dX9_roster_14 ?_
    try dsimp only at hf
    refine lv_iconst (v := (-1)) hx hb dX9_roster_17 (by decide) ?_
    exact q_iret C hr hlk hP hS (Option.some.inj hf) dX9_roster_18
  · refine lv_ifnonnull (tgt := 19) hx hb dX9_roster_14 (by decide) ?_
    try dsimp only at hf
    refine lv_iload_n hx hb dX9_roster_19 rfl (lv_at hl 3 rfl) ?_
    refine lv_iconst (v := 2) hx hb dX9_roster_20 (by decide) ?_
    obtain ⟨r5, hg4, hf⟩ := zb hf
    try dsimp only at hf
    refine q_calli C hS (q_runS C hP (c_X9_isBeyond (l := l) C.2.2.1 hg4) (As := [.int x2, .int 2]) (rest := []) ⟨gd_S k_294 k_295 k_44 k_296, ⟨rfl, rfl⟩, kd_X9_isBeyond, ⟨Nat.le_trans (Nat.le_of_ble_eq_true rfl) hR.1, Nat.le_trans (Nat.le_of_ble_eq_true rfl) hR.2⟩⟩ rfl rfl (Nat.le_of_ble_eq_true rfl) hl.1 dX9_roster_21) (fun H locs hP hS => ?_)
    refine lv_if_eq (tgt := 30) hx hb dX9_roster_24 (by decide) (fun c6 => ?_) (fun c6 => ?_)
    · replace hf := zt c6 hf
      refine lv_aload_n hx hb dX9_roster_30 rfl (lv_at hl 1 rfl) ?_
      refine gX9_1 C hP k_262 dX9_roster_31 ?_
      refine gX7_1N C hP k_117 dX9_roster_34 ?_
      refine lv_if_ne (tgt := 43) hx hb dX9_roster_37 (by decide) (fun c7 => ?_) (fun c7 => ?_)
      · replace hf := zf c7 hf
        refine lv_aload hx hb dX9_roster_43 (lv_at hl 0 rfl) ?_
        refine lv_iload_n hx hb dX9_roster_45 rfl (lv_at hl 3 rfl) ?_
        refine lv_iload_n hx hb dX9_roster_46 rfl (lv_at hl 4 rfl) ?_
        refine lv_iload hx hb dX9_roster_47 (lv_at hl 5 rfl) ?_
        obtain ⟨h9, hf⟩ := zc hf
        obtain ⟨r10, hg8, hf⟩ := zb hf
        try dsimp only at hf
        refine q_calli C hS (q_runV C hP (c_X4_rangeFault (l := l) C.2.2.1 hg8) (ci := 4) (As := [.int x2, .int x3, .int x4]) (rest := []) ⟨gd_V k_297 k_298 k_299 k_52 k_300, ⟨rfl, rfl⟩, kd_X4_rangeFault, ⟨Nat.le_trans (Nat.le_of_ble_eq_true rfl) hR.1, Nat.le_trans (Nat.le_of_ble_eq_true rfl) hR.2⟩⟩ (oX_X4 h9) rfl rfl rfl rfl (Nat.le_of_ble_eq_true rfl) hl.1 dX9_roster_49) (fun H locs hP hS => ?_)
        refine lv_istore (lv' := [(6, .int r10), (5, .ref (ad (24 + t3))), (0, .ref (ad 0)), (1, .int x1), (2, .int x2), (3, .int x3), (4, .int x4)]) hx hb dX9_roster_52 hl (by decide) rfl (fun ls hl => ?_)
        refine lv_iload hx hb dX9_roster_54 (lv_at hl 0 rfl) ?_
        refine lv_if_eq (tgt := 66) hx hb dX9_roster_56 (by decide) (fun c11 => ?_) (fun c11 => ?_)
        · replace hf := zt c11 hf
          refine lv_iload hx hb dX9_roster_66 (lv_at hl 6 rfl) ?_
          refine lv_aload_n hx hb dX9_roster_68 rfl (lv_at hl 2 rfl) ?_
          refine gX9_1 C hP k_262 dX9_roster_69 ?_
          refine gX7_1N C hP k_117 dX9_roster_72 ?_
          refine lv_icmp_eq (tgt := 81) hx hb dX9_roster_75 (by decide) (fun c12 => ?_) (fun c12 => ?_)
          · replace hf := zt c12 hf
            refine lv_aload_n hx hb dX9_roster_81 rfl (lv_at hl 2 rfl) ?_
            refine lv_aload hx hb dX9_roster_82 (lv_at hl 1 rfl) ?_
            refine lv_iload_n hx hb dX9_roster_84 rfl (lv_at hl 5 rfl) ?_
            obtain ⟨r14, hg13, hf⟩ := zb hf
            try dsimp only at hf
            refine q_calli C hS (q_runV C hP (c_X9_namesThings (l := l) C.2.2.1 hg13) (ci := 8) (As := [.ref (ad (24 + t3)), .int x3]) (rest := []) ⟨gd_V k_515 k_517 k_7 k_44 k_518, ⟨rfl, rfl⟩, kd_X9_namesThings, ⟨Nat.le_trans (Nat.le_of_ble_eq_true rfl) hR.1, Nat.le_trans (Nat.le_of_ble_eq_true rfl) hR.2⟩⟩ (o := 0) rfl rfl rfl rfl rfl (Nat.le_of_ble_eq_true rfl) hl.1 dX9_roster_85) (fun H locs hP hS => ?_)
            refine lv_if_ne (tgt := 93) hx hb dX9_roster_88 (by decide) (fun c15 => ?_) (fun c15 => ?_)
            · replace hf := zf c15 hf
              refine lv_aload_n hx hb dX9_roster_93 rfl (lv_at hl 2 rfl) ?_
              refine lv_aload hx hb dX9_roster_94 (lv_at hl 1 rfl) ?_
              refine lv_iload_n hx hb dX9_roster_96 rfl (lv_at hl 5 rfl) ?_
              obtain ⟨⟨r17, σ18⟩, hg16, hf⟩ := zb hf
              try dsimp only at hf
              refine q_calli C hS (q_runV C hP (c_X9_firstUnlike (l := l) C.2.2.1 hg16) (ci := 8) (As := [.ref (ad (24 + t3)), .int x3]) (rest := []) ⟨gd_V k_520 k_522 k_8 k_44 k_523, ⟨rfl, rfl⟩, kd_X9_firstUnlike, ⟨Nat.le_trans (Nat.le_of_ble_eq_true rfl) hR.1, Nat.le_trans (Nat.le_of_ble_eq_true rfl) hR.2⟩⟩ (o := 0) rfl rfl rfl rfl rfl (Nat.le_of_ble_eq_true rfl) hl.1 dX9_roster_97) (fun H locs hP hS => ?_)
              exact q_iret C hr hlk hP hS (Option.some.inj hf) dX9_roster_100
            · replace hf := zt c15 hf
              refine lv_iconst (v := (-1)) hx hb dX9_roster_91 (by decide) ?_
              exact q_iret C hr hlk hP hS (Option.some.inj hf) dX9_roster_92
          · replace hf := zf c12 hf
            refine lv_bipush (v := (-2)) hx hb dX9_roster_78 (by decide) ?_
            exact q_iret C hr hlk hP hS (Option.some.inj hf) dX9_roster_80
        · replace hf := zf c11 hf
          refine lv_aload_n hx hb dX9_roster_59 rfl (lv_at hl 2 rfl) ?_
          refine lv_iload hx hb dX9_roster_60 (lv_at hl 0 rfl) ?_
          obtain ⟨⟨r20, σ21⟩, hg19, hf⟩ := zb hf
          try dsimp only at hf
          refine q_calli C hS (q_runV C hP (c_X9_cameTo (l := l) C.2.2.1 hg19) (ci := 8) (As := [.int r10]) (rest := []) ⟨gd_V k_305 k_307 k_1 k_44 k_308, ⟨rfl, rfl⟩, kd_X9_cameTo, ⟨Nat.le_trans (Nat.le_of_ble_eq_true rfl) hR.1, Nat.le_trans (Nat.le_of_ble_eq_true rfl) hR.2⟩⟩ (o := 0) rfl rfl rfl rfl rfl (Nat.le_of_ble_eq_true rfl) hl.1 dX9_roster_62) (fun H locs hP hS => ?_)
          exact q_iret C hr hlk hP hS (Option.some.inj hf) dX9_roster_65
      · replace hf := zt c7 hf
        refine lv_bipush (v := (-3)) hx hb dX9_roster_40 (by decide) ?_
        exact q_iret C hr hlk hP hS (Option.some.inj hf) dX9_roster_42
    · replace hf := zf c6 hf
      refine lv_bipush (v := (-2)) hx hb dX9_roster_27 (by decide) ?_
      exact q_iret C hr hlk hP hS (Option.some.inj hf) dX9_roster_29
theorem kd_X9_roster : yX9_roster.cls = RX9 ∧ yX9_roster.cls ≠ "java/lang/invoke/MethodHandle" ∧ yX9_roster.cls ≠ "java/lang/invoke/VarHandle" ∧ (parseMethodDescriptor yX9_roster.desc).map (fun d => d.parameters.length) = some 4 := by decide +kernel
def r_X9_roster : Room := { frames := 5, cells := 0, slots := 0, locals := 122 }
set_option maxRecDepth 100000 in
set_option maxHeartbeats 4000000 in
theorem c_X9_roster {l : Launch} {D : va_G} {ad : Nat → Nat} {cs : Nat → ClassId} (hD : ∀ σ, va_D (AX ad) (WX ad cs σ)) {σ : Sg} {x1 : Int32} {x2 : Int32} {x3 : Int32} {x4 : Int32} {res : Int32 × Sg} (hf : f_X9_roster σ x1 x2 x3 x4 = some res) : Met l yX9_roster (wm yX9_roster cX9_roster 7 (some .int)) r_X9_roster (va_Pc [.ref (ad 0), .int x1, .int x2, .int x3, .int x4] (BW D (TYX cs) (WX ad cs) σ)) (QI D (TYX cs) (WX ad cs) (AX ad) res.1 res.2) 0 0 (AX ad) := by
  refine q_enter (by decide) hD (Nat.le_of_ble_eq_true rfl) ?_
  intro p e s m below meth c C hr hlk hP hS ls hl
  exact w_X9_roster C hr hlk ⟨Nat.le_of_ble_eq_true rfl, Nat.le_of_ble_eq_true rfl⟩ hf hP hS hl

set_option maxRecDepth 100000 in
set_option maxHeartbeats 4000000 in
theorem w_X9_reading_30 (C : CX p m c cX9_reading 3 s args RX9 D (TYX cs) (WX ad cs) (AX ad)) (hr : meth.sig.returnType = (some .int)) (hlk : meth.locks = false) (hR : 1 ≤ R.frames ∧ 22 ≤ R.locals) {σ : Sg} {x1 : Int32} {x2 : Int32} {res : Int32 × Sg} (hf : f_X9_reading_30 σ x1 x2 = some res) {H : Heap} {locs : List Loc} (hP : va_P D vwCl (WX ad cs σ) H) (hS : va_S (AX ad) s.heap H locs) {ls : Array Slot} (hl : lv_has ls 3 [(0, .ref (ad 0)), (1, .int x1), (2, .int x2)]) : W p l e R s m args below meth c H locs 0 0 (MQ below (QI D (TYX cs) (WX ad cs) (AX ad) res.1 res.2) args s 0 0 (AX ad)) (F0 m 30 ls []) := by
  have hx := C.1.1
  have hb := C.1.2.1
  unfold f_X9_reading_30 at hf
  refine lv_aload_n hx hb dX9_reading_30 rfl (lv_at hl 0 rfl) ?_
  refine gX9_3 C hP k_264 dX9_reading_31 ?_
  refine lv_iload_n hx hb dX9_reading_34 rfl (lv_at hl 1 rfl) ?_
  refine lv_iload_n hx hb dX9_reading_35 rfl (lv_at hl 2 rfl) ?_
  obtain ⟨⟨r2, σ3⟩, hg1, hf⟩ := zb hf
  try dsimp only at hf
  refine q_calli C hS (q_runV C hP (c_X2_add (l := l) C.2.2.1 hg1) (ci := 2) (As := [.int x1, .int x2]) (rest := []) ⟨gd_V k_528 k_529 k_530 k_48 k_531, ⟨rfl, rfl⟩, kd_X2_add, ⟨Nat.le_trans (Nat.le_of_ble_eq_true rfl) hR.1, Nat.le_trans (Nat.le_of_ble_eq_true rfl) hR.2⟩⟩ (o := 16) rfl rfl rfl rfl rfl (Nat.le_of_ble_eq_true rfl) hl.1 dX9_reading_36) (fun H locs hP hS => ?_)
  exact q_iret C hr hlk hP hS (Option.some.inj hf) dX9_reading_39
set_option maxRecDepth 100000 in
set_option maxHeartbeats 4000000 in
theorem w_X9_reading (C : CX p m c cX9_reading 3 s args RX9 D (TYX cs) (WX ad cs) (AX ad)) (hr : meth.sig.returnType = (some .int)) (hlk : meth.locks = false) (hR : 1 ≤ R.frames ∧ 22 ≤ R.locals) {σ : Sg} {x1 : Int32} {x2 : Int32} {res : Int32 × Sg} (hf : f_X9_reading σ x1 x2 = some res) {H : Heap} {locs : List Loc} (hP : va_P D vwCl (WX ad cs σ) H) (hS : va_S (AX ad) s.heap H locs) {ls : Array Slot} (hl : lv_has ls 3 [(0, .ref (ad 0)), (1, .int x1), (2, .int x2)]) : W p l e R s m args below meth c H locs 0 0 (MQ below (QI D (TYX cs) (WX ad cs) (AX ad) res.1 res.2) args s 0 0 (AX ad)) (F0 m 0 ls []) := by
  have hx := C.1.1
  have hb := C.1.2.1
  unfold f_X9_reading at hf
  refine lv_aload_n hx hb dX9_reading_0 rfl (lv_at hl 0 rfl) ?_
  refine gX9_1 C hP k_262 dX9_reading_1 ?_
  refine lv_iload_n hx hb dX9_reading_4 rfl (lv_at hl 1 rfl) ?_
  obtain ⟨r2, hg1, hf⟩ := zb hf
  try dsimp only at hf
  refine q_callr C hS (q_runV C hP (c_X7_thingAt (l := l) C.2.2.1 hg1) (ci := 6) (As := [.int x1]) (rest := []) ⟨gd_V k_357 k_340 k_341 k_45 k_342, ⟨rfl, rfl⟩, kd_X7_thingAt, ⟨Nat.le_trans (Nat.le_of_ble_eq_true rfl) hR.1, Nat.le_trans (Nat.le_of_ble_eq_true rfl) hR.2⟩⟩ (o := 2) rfl rfl rfl rfl rfl (Nat.le_of_ble_eq_true rfl) hl.1 dX9_reading_5) (fun H locs hP hS => ?_)
  rcases r2 with _ | t3
  · refine lv_ifnullN (tgt := 28) hx hb dX9_reading_8 (by decide) ?_
    try dsimp only at hf
    refine lv_iconst (v := (-1)) hx hb dX9_reading_28 (by decide) ?_
    exact q_iret C hr hlk hP hS (Option.some.inj hf) dX9_reading_29
  · refine lv_ifnull hx hb dX9_reading_8 ?_
    try dsimp only at hf
    refine lv_iload_n hx hb dX9_reading_11 rfl (lv_at hl 2 rfl) ?_
    refine lv_bipush (v := (-9)) hx hb dX9_reading_12 (by decide) ?_
    refine lv_icmp_eq (tgt := 30) hx hb dX9_reading_14 (by decide) (fun c4 => ?_) (fun c4 => ?_)
    · replace hf := zt c4 hf
      exact w_X9_reading_30 C hr hlk hR hf hP hS (lv_sub hl [0, 1, 2] rfl)
    · replace hf := zf c4 hf
      refine lv_aload_n hx hb dX9_reading_17 rfl (lv_at hl 0 rfl) ?_
      refine gX9_1 C hP k_262 dX9_reading_18 ?_
      refine lv_iload_n hx hb dX9_reading_21 rfl (lv_at hl 2 rfl) ?_
      obtain ⟨r6, hg5, hf⟩ := zb hf
      try dsimp only at hf
      refine q_callr C hS (q_runV C hP (c_X7_thingAt (l := l) C.2.2.1 hg5) (ci := 6) (As := [.int x2]) (rest := []) ⟨gd_V k_357 k_340 k_341 k_45 k_342, ⟨rfl, rfl⟩, kd_X7_thingAt, ⟨Nat.le_trans (Nat.le_of_ble_eq_true rfl) hR.1, Nat.le_trans (Nat.le_of_ble_eq_true rfl) hR.2⟩⟩ (o := 2) rfl rfl rfl rfl rfl (Nat.le_of_ble_eq_true rfl) hl.1 dX9_reading_22) (fun H locs hP hS => ?_)
      rcases r6 with _ | t7
      · refine lv_ifnonnullN hx hb dX9_reading_25 ?_
        try dsimp only at hf
        refine lv_iconst (v := (-1)) hx hb dX9_reading_28 (by decide) ?_
        exact q_iret C hr hlk hP hS (Option.some.inj hf) dX9_reading_29
      · refine lv_ifnonnull (tgt := 30) hx hb dX9_reading_25 (by decide) ?_
        try dsimp only at hf
        exact w_X9_reading_30 C hr hlk hR hf hP hS (lv_sub hl [0, 1, 2] rfl)
theorem kd_X9_reading : yX9_reading.cls = RX9 ∧ yX9_reading.cls ≠ "java/lang/invoke/MethodHandle" ∧ yX9_reading.cls ≠ "java/lang/invoke/VarHandle" ∧ (parseMethodDescriptor yX9_reading.desc).map (fun d => d.parameters.length) = some 2 := by decide +kernel
def r_X9_reading : Room := { frames := 1, cells := 0, slots := 0, locals := 22 }
set_option maxRecDepth 100000 in
set_option maxHeartbeats 4000000 in
theorem c_X9_reading {l : Launch} {D : va_G} {ad : Nat → Nat} {cs : Nat → ClassId} (hD : ∀ σ, va_D (AX ad) (WX ad cs σ)) {σ : Sg} {x1 : Int32} {x2 : Int32} {res : Int32 × Sg} (hf : f_X9_reading σ x1 x2 = some res) : Met l yX9_reading (wm yX9_reading cX9_reading 3 (some .int)) r_X9_reading (va_Pc [.ref (ad 0), .int x1, .int x2] (BW D (TYX cs) (WX ad cs) σ)) (QI D (TYX cs) (WX ad cs) (AX ad) res.1 res.2) 0 0 (AX ad) := by
  refine q_enter (by decide) hD (Nat.le_of_ble_eq_true rfl) ?_
  intro p e s m below meth c C hr hlk hP hS ls hl
  exact w_X9_reading C hr hlk ⟨Nat.le_of_ble_eq_true rfl, Nat.le_of_ble_eq_true rfl⟩ hf hP hS hl

set_option maxRecDepth 100000 in
set_option maxHeartbeats 4000000 in
theorem w_X9_back (C : CX p m c cX9_back 2 s args RX9 D (TYX cs) (WX ad cs) (AX ad)) (hr : meth.sig.returnType = (some .int)) (hlk : meth.locks = false) (hR : 1 ≤ R.frames ∧ 21 ≤ R.locals) {σ : Sg} {x1 : Int32} {res : Int32 × Sg} (hf : f_X9_back σ x1 = some res) {H : Heap} {locs : List Loc} (hP : va_P D vwCl (WX ad cs σ) H) (hS : va_S (AX ad) s.heap H locs) {ls : Array Slot} (hl : lv_has ls 2 [(0, .ref (ad 0)), (1, .int x1)]) : W p l e R s m args below meth c H locs 0 0 (MQ below (QI D (TYX cs) (WX ad cs) (AX ad) res.1 res.2) args s 0 0 (AX ad)) (F0 m 0 ls []) := by
  have hx := C.1.1
  have hb := C.1.2.1
  unfold f_X9_back at hf
  refine lv_iload_n hx hb dX9_back_0 rfl (lv_at hl 1 rfl) ?_
  refine lv_aload_n hx hb dX9_back_1 rfl (lv_at hl 0 rfl) ?_
  refine gX9_3 C hP k_264 dX9_back_2 ?_
  refine gX2_2N C hP k_161 dX9_back_5 ?_
  obtain ⟨r2, hg1, hf⟩ := zb hf
  try dsimp only at hf
  refine q_calli C hS (q_runS C hP (c_X9_isBeyond (l := l) C.2.2.1 hg1) (As := [.int x1, .int (σ 16 2)]) (rest := []) ⟨gd_S k_294 k_295 k_44 k_296, ⟨rfl, rfl⟩, kd_X9_isBeyond, ⟨Nat.le_trans (Nat.le_of_ble_eq_true rfl) hR.1, Nat.le_trans (Nat.le_of_ble_eq_true rfl) hR.2⟩⟩ rfl rfl (Nat.le_of_ble_eq_true rfl) hl.1 dX9_back_8) (fun H locs hP hS => ?_)
  refine lv_if_eq (tgt := 17) hx hb dX9_back_11 (by decide) (fun c3 => ?_) (fun c3 => ?_)
  · replace hf := zt c3 hf
    refine lv_aload_n hx hb dX9_back_17 rfl (lv_at hl 0 rfl) ?_
    refine gX9_3 C hP k_264 dX9_back_18 ?_
    refine lv_dup hx hb dX9_back_21 rfl ?_
    refine gX2_2N C hP k_161 dX9_back_22 ?_
    refine lv_iload_n hx hb dX9_back_25 rfl (lv_at hl 1 rfl) ?_
    refine lv_isub hx hb dX9_back_26 ?_
    refine pX2_2N C hP hS k_161 dX9_back_27 (fun H locs hP hS => ?_)
    refine lv_aload_n hx hb dX9_back_30 rfl (lv_at hl 0 rfl) ?_
    refine gX9_3 C hP k_264 dX9_back_31 ?_
    refine gX2_2N C hP k_161 dX9_back_34 ?_
    exact q_iret C hr hlk hP hS (Option.some.inj hf) dX9_back_37
  · replace hf := zf c3 hf
    refine lv_bipush (v := (-2)) hx hb dX9_back_14 (by decide) ?_
    exact q_iret C hr hlk hP hS (Option.some.inj hf) dX9_back_16
theorem kd_X9_back : yX9_back.cls = RX9 ∧ yX9_back.cls ≠ "java/lang/invoke/MethodHandle" ∧ yX9_back.cls ≠ "java/lang/invoke/VarHandle" ∧ (parseMethodDescriptor yX9_back.desc).map (fun d => d.parameters.length) = some 1 := by decide +kernel
def r_X9_back : Room := { frames := 1, cells := 0, slots := 0, locals := 21 }
set_option maxRecDepth 100000 in
set_option maxHeartbeats 4000000 in
theorem c_X9_back {l : Launch} {D : va_G} {ad : Nat → Nat} {cs : Nat → ClassId} (hD : ∀ σ, va_D (AX ad) (WX ad cs σ)) {σ : Sg} {x1 : Int32} {res : Int32 × Sg} (hf : f_X9_back σ x1 = some res) : Met l yX9_back (wm yX9_back cX9_back 2 (some .int)) r_X9_back (va_Pc [.ref (ad 0), .int x1] (BW D (TYX cs) (WX ad cs) σ)) (QI D (TYX cs) (WX ad cs) (AX ad) res.1 res.2) 0 0 (AX ad) := by
  refine q_enter (by decide) hD (Nat.le_of_ble_eq_true rfl) ?_
  intro p e s m below meth c C hr hlk hP hS ls hl
  exact w_X9_back C hr hlk ⟨Nat.le_of_ble_eq_true rfl, Nat.le_of_ble_eq_true rfl⟩ hf hP hS hl

end

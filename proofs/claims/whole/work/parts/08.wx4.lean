section
variable {p : Program} {l : Launch} {e : Env} {R : Room} {s : State} {m : MethodId} {args : Array Value} {below : List Frame} {meth : Method} {c : Code} {D : va_G} {ad : Nat → Nat} {cs : Nat → ClassId}
set_option maxRecDepth 100000 in
set_option maxHeartbeats 4000000 in
theorem w_X9_failed (C : CX p m c cX9_failed 3 s args RX9 D (TYX cs) (WX ad cs) (AX ad)) (hr : meth.sig.returnType = (some .int)) (hlk : meth.locks = false) (hR : 5 ≤ R.frames ∧ 121 ≤ R.locals) {σ : Sg} {x1 : Int32} {res : Int32 × Sg} (hf : f_X9_failed σ x1 = some res) {H : Heap} {locs : List Loc} (hP : va_P D vwCl (WX ad cs σ) H) (hS : va_S (AX ad) s.heap H locs) {ls : Array Slot} (hl : lv_has ls 3 [(0, .ref (ad 0)), (1, .int x1)]) : W p l e R s m args below meth c H locs 0 0 (MQ below (QI D (TYX cs) (WX ad cs) (AX ad) res.1 res.2) args s 0 0 (AX ad)) (F0 m 0 ls []) := by
  have hx := C.1.1
  have hb := C.1.2.1
  unfold f_X9_failed at hf
  refine lv_aload_n hx hb dX9_failed_0 rfl (lv_at hl 0 rfl) ?_
  refine lv_iload_n hx hb dX9_failed_1 rfl (lv_at hl 1 rfl) ?_
  refine lv_iconst (v := 2) hx hb dX9_failed_2 (by decide) ?_
  obtain ⟨r2, hg1, hf⟩ := zb hf
  try dsimp only at hf
  refine q_calli C hS (q_runV C hP (c_X9_refusalOf (l := l) C.2.2.1 hg1) (ci := 8) (As := [.int x1, .int 2]) (rest := []) ⟨gd_V k_422 k_424 k_5 k_44 k_425, ⟨rfl, rfl⟩, kd_X9_refusalOf, ⟨Nat.le_trans (Nat.le_of_ble_eq_true rfl) hR.1, Nat.le_trans (Nat.le_of_ble_eq_true rfl) hR.2⟩⟩ (o := 0) rfl rfl rfl rfl rfl (Nat.le_of_ble_eq_true rfl) hl.1 dX9_failed_3) (fun H locs hP hS => ?_)
  refine lv_istore_n (lv' := [(2, .int r2), (0, .ref (ad 0)), (1, .int x1)]) hx hb dX9_failed_6 rfl hl (by decide) rfl (fun ls hl => ?_)
  refine lv_iload_n hx hb dX9_failed_7 rfl (lv_at hl 0 rfl) ?_
  refine lv_if_eq (tgt := 13) hx hb dX9_failed_8 (by decide) (fun c3 => ?_) (fun c3 => ?_)
  · replace hf := zt c3 hf
    refine lv_aload_n hx hb dX9_failed_13 rfl (lv_at hl 1 rfl) ?_
    refine gX9_5 C hP k_266 dX9_failed_14 ?_
    refine lv_aload_n hx hb dX9_failed_17 rfl (lv_at hl 1 rfl) ?_
    refine gX9_3 C hP k_264 dX9_failed_18 ?_
    obtain ⟨σ5, hg4, hf⟩ := zb hf
    try dsimp only at hf
    refine q_callv C hS (q_runV C hP (c_X8_seekFailed (l := l) C.2.2.1 hg4) (ci := 7) (As := [.ref (ad 16)]) (rest := []) ⟨gd_V k_540 k_541 k_542 k_50 k_543, ⟨rfl, rfl⟩, kd_X8_seekFailed, ⟨Nat.le_trans (Nat.le_of_ble_eq_true rfl) hR.1, Nat.le_trans (Nat.le_of_ble_eq_true rfl) hR.2⟩⟩ (o := 22) rfl rfl rfl rfl rfl (Nat.le_of_ble_eq_true rfl) hl.1 dX9_failed_21) (fun H locs hP hS => ?_)
    refine lv_iload_n hx hb dX9_failed_24 rfl (lv_at hl 2 rfl) ?_
    by_cases c6 : x1 = 0
    · replace hf := zt c6 hf
      refine lv_lookup (off := 27) (tgt := 52) hx hb dX9_failed_25 (by decide) (by rw [c6]; rfl) (by decide) ?_
      refine lv_aload_n hx hb dX9_failed_52 rfl (lv_at hl 1 rfl) ?_
      refine gX9_5 C hP k_266 dX9_failed_53 ?_
      refine gX8_6N C hP k_205 dX9_failed_56 ?_
      exact q_iret C hr hlk hP hS (Option.some.inj hf) dX9_failed_59
    · replace hf := zf c6 hf
      by_cases c7 : x1 = 1
      · replace hf := zt c7 hf
        refine lv_lookup (off := 35) (tgt := 60) hx hb dX9_failed_25 (by decide) (by rw [c7]; rfl) (by decide) ?_
        refine lv_aload_n hx hb dX9_failed_60 rfl (lv_at hl 1 rfl) ?_
        refine gX9_5 C hP k_266 dX9_failed_61 ?_
        refine gX8_7N C hP k_207 dX9_failed_64 ?_
        exact q_iret C hr hlk hP hS (Option.some.inj hf) dX9_failed_67
      · replace hf := zf c7 hf
        refine lv_lookup (off := 43) (tgt := 68) hx hb dX9_failed_25 (by decide) ((lv_osw c6 rfl).trans ((lv_osw c7 rfl).trans rfl)) (by decide) ?_
        refine lv_aload_n hx hb dX9_failed_68 rfl (lv_at hl 1 rfl) ?_
        refine gX9_5 C hP k_266 dX9_failed_69 ?_
        refine gX8_8N C hP k_209 dX9_failed_72 ?_
        exact q_iret C hr hlk hP hS (Option.some.inj hf) dX9_failed_75
  · replace hf := zf c3 hf
    refine lv_iload_n hx hb dX9_failed_11 rfl (lv_at hl 0 rfl) ?_
    exact q_iret C hr hlk hP hS (Option.some.inj hf) dX9_failed_12
theorem kd_X9_failed : yX9_failed.cls = RX9 ∧ yX9_failed.cls ≠ "java/lang/invoke/MethodHandle" ∧ yX9_failed.cls ≠ "java/lang/invoke/VarHandle" ∧ (parseMethodDescriptor yX9_failed.desc).map (fun d => d.parameters.length) = some 1 := by decide +kernel
def r_X9_failed : Room := { frames := 5, cells := 0, slots := 0, locals := 121 }
set_option maxRecDepth 100000 in
set_option maxHeartbeats 4000000 in
theorem c_X9_failed {l : Launch} {D : va_G} {ad : Nat → Nat} {cs : Nat → ClassId} (hD : ∀ σ, va_D (AX ad) (WX ad cs σ)) {σ : Sg} {x1 : Int32} {res : Int32 × Sg} (hf : f_X9_failed σ x1 = some res) : Met l yX9_failed (wm yX9_failed cX9_failed 3 (some .int)) r_X9_failed (va_Pc [.ref (ad 0), .int x1] (BW D (TYX cs) (WX ad cs) σ)) (QI D (TYX cs) (WX ad cs) (AX ad) res.1 res.2) 0 0 (AX ad) := by
  refine q_enter (by decide) hD (Nat.le_of_ble_eq_true rfl) ?_
  intro p e s m below meth c C hr hlk hP hS ls hl
  exact w_X9_failed C hr hlk ⟨Nat.le_of_ble_eq_true rfl, Nat.le_of_ble_eq_true rfl⟩ hf hP hS hl

set_option maxRecDepth 100000 in
set_option maxHeartbeats 4000000 in
theorem w_X9_laws_17 (C : CX p m c cX9_laws 3 s args RX9 D (TYX cs) (WX ad cs) (AX ad)) (hr : meth.sig.returnType = (some .int)) (hlk : meth.locks = false) (hR : 4 ≤ R.frames ∧ 99 ≤ R.locals) {σ : Sg} {x1 : Int32} {x2 : Int32} {res : Int32 × Sg} {ag17 : Int32 → Int32 → Sg → Option (Int32 × Sg)} (hag17 : ∀ (x1 : Int32) (x2 : Int32) (σ : Sg) (H : Heap) (locs : List Loc) (ls : Array Slot), ag17 x1 x2 σ = some res → va_P D vwCl (WX ad cs σ) H → va_S (AX ad) s.heap H locs → lv_has ls 3 [(0, .ref (ad 0)), (1, .int x1), (2, .int x2)] → W p l e R s m args below meth c H locs 0 0 (MQ below (QI D (TYX cs) (WX ad cs) (AX ad) res.1 res.2) args s 0 0 (AX ad)) (F0 m 17 ls [])) (hf : f_X9_laws_17 ag17 σ x1 x2 = some res) {H : Heap} {locs : List Loc} (hP : va_P D vwCl (WX ad cs σ) H) (hS : va_S (AX ad) s.heap H locs) {ls : Array Slot} (hl : lv_has ls 3 [(0, .ref (ad 0)), (1, .int x1), (2, .int x2)]) : W p l e R s m args below meth c H locs 0 0 (MQ below (QI D (TYX cs) (WX ad cs) (AX ad) res.1 res.2) args s 0 0 (AX ad)) (F0 m 17 ls []) := by
  have hx := C.1.1
  have hb := C.1.2.1
  unfold f_X9_laws_17 at hf
  refine lv_iload_n hx hb dX9_laws_17 rfl (lv_at hl 2 rfl) ?_
  refine lv_iconst (v := 2) hx hb dX9_laws_18 (by decide) ?_
  refine lv_icmp_gt (tgt := 64) hx hb dX9_laws_19 (by decide) (fun c1 => ?_) (fun c1 => ?_)
  · replace hf := zt c1 hf
    refine lv_iload_n hx hb dX9_laws_64 rfl (lv_at hl 1 rfl) ?_
    exact q_iret C hr hlk hP hS (Option.some.inj hf) dX9_laws_65
  · replace hf := zf c1 hf
    refine lv_aload_n hx hb dX9_laws_22 rfl (lv_at hl 0 rfl) ?_
    refine gX9_4 C hP k_265 dX9_laws_23 ?_
    refine lv_iload_n hx hb dX9_laws_26 rfl (lv_at hl 2 rfl) ?_
    refine lv_aload_n hx hb dX9_laws_27 rfl (lv_at hl 0 rfl) ?_
    refine gX9_2 C hP k_263 dX9_laws_28 ?_
    refine lv_iconst (v := 0) hx hb dX9_laws_31 (by decide) ?_
    obtain ⟨r3, hg2, hf⟩ := zb hf
    try dsimp only at hf
    refine q_calli C hS (q_runV C hP (c_X1_brokenIn (l := l) C.2.2.1 hg2) (ci := 1) (As := [.int 0]) (rest := [.int x2, .ref (ad 19)]) ⟨gd_V k_452 k_394 k_395 k_47 k_396, ⟨rfl, rfl⟩, kd_X1_brokenIn, ⟨Nat.le_trans (Nat.le_of_ble_eq_true rfl) hR.1, Nat.le_trans (Nat.le_of_ble_eq_true rfl) hR.2⟩⟩ (o := 12) rfl rfl rfl rfl rfl (Nat.le_of_ble_eq_true rfl) hl.1 dX9_laws_32) (fun H locs hP hS => ?_)
    obtain ⟨σ5, hg4, hf⟩ := zb hf
    try dsimp only at hf
    refine q_callv C hS (q_runV C hP (c_X3_workHourZero (l := l) C.2.2.1 hg4) (ci := 3) (As := [.int x2, .int r3]) (rest := []) ⟨gd_V k_510 k_476 k_477 k_49 k_478, ⟨rfl, rfl⟩, kd_X3_workHourZero, ⟨Nat.le_trans (Nat.le_of_ble_eq_true rfl) hR.1, Nat.le_trans (Nat.le_of_ble_eq_true rfl) hR.2⟩⟩ (o := 19) rfl rfl rfl rfl rfl (Nat.le_of_ble_eq_true rfl) hl.1 dX9_laws_35) (fun H locs hP hS => ?_)
    refine lv_aload_n hx hb dX9_laws_38 rfl (lv_at hl 0 rfl) ?_
    refine gX9_3 C hP k_264 dX9_laws_39 ?_
    refine lv_aload_n hx hb dX9_laws_42 rfl (lv_at hl 0 rfl) ?_
    refine gX9_4 C hP k_265 dX9_laws_43 ?_
    obtain ⟨r7, hg6, hf⟩ := zb hf
    try dsimp only at hf
    refine q_calli C hS (q_runV C hP (c_X2_areSo (l := l) C.2.2.1 hg6) (ci := 2) (As := [.ref (ad 19)]) (rest := []) ⟨gd_V k_553 k_545 k_546 k_48 k_547, ⟨rfl, rfl⟩, kd_X2_areSo, ⟨Nat.le_trans (Nat.le_of_ble_eq_true rfl) hR.1, Nat.le_trans (Nat.le_of_ble_eq_true rfl) hR.2⟩⟩ (o := 16) rfl rfl rfl rfl rfl (Nat.le_of_ble_eq_true rfl) hl.1 dX9_laws_46) (fun H locs hP hS => ?_)
    refine lv_if_eq (tgt := 58) hx hb dX9_laws_49 (by decide) (fun c8 => ?_) (fun c8 => ?_)
    · replace hf := zt c8 hf
      refine lv_iinc (v := x2 + 1) (lv' := [(2, .int (x2 + 1)), (0, .ref (ad 0)), (1, .int x1)]) hx hb dX9_laws_58 hl (k := 2) rfl rfl (by decide) rfl (fun ls hl => ?_)
      refine lv_goto (tgt := 17) hx hb dX9_laws_61 (by decide) ?_
      exact hag17 _ _ _ _ _ _ hf hP hS (lv_sub hl [1, 2, 0] rfl)
    · replace hf := zf c8 hf
      refine lv_iload_n hx hb dX9_laws_52 rfl (lv_at hl 1 rfl) ?_
      refine lv_iconst (v := 1) hx hb dX9_laws_53 (by decide) ?_
      refine lv_iload_n hx hb dX9_laws_54 rfl (lv_at hl 2 rfl) ?_
      refine lv_ishl hx hb dX9_laws_55 ?_
      refine lv_ior hx hb dX9_laws_56 ?_
      refine lv_istore_n (lv' := [(1, .int (x1 ||| ((1 : Int32) <<< (x2 &&& 31)))), (0, .ref (ad 0)), (2, .int x2)]) hx hb dX9_laws_57 rfl hl (by decide) rfl (fun ls hl => ?_)
      refine lv_iinc (v := x2 + 1) (lv' := [(2, .int (x2 + 1)), (1, .int (x1 ||| ((1 : Int32) <<< (x2 &&& 31)))), (0, .ref (ad 0))]) hx hb dX9_laws_58 hl (k := 2) rfl rfl (by decide) rfl (fun ls hl => ?_)
      refine lv_goto (tgt := 17) hx hb dX9_laws_61 (by decide) ?_
      exact hag17 _ _ _ _ _ _ hf hP hS (lv_sub hl [2, 1, 0] rfl)
set_option maxRecDepth 100000 in
set_option maxHeartbeats 4000000 in
theorem wl_X9_laws_17 (C : CX p m c cX9_laws 3 s args RX9 D (TYX cs) (WX ad cs) (AX ad)) (hr : meth.sig.returnType = (some .int)) (hlk : meth.locks = false) (hR : 4 ≤ R.frames ∧ 99 ≤ R.locals)  {res : Int32 × Sg} : ∀ n : Nat, ∀ (x1 : Int32) (x2 : Int32) (σ : Sg) (H : Heap) (locs : List Loc) (ls : Array Slot), l_X9_laws_17 n x1 x2 σ = some res → va_P D vwCl (WX ad cs σ) H → va_S (AX ad) s.heap H locs → lv_has ls 3 [(0, .ref (ad 0)), (1, .int x1), (2, .int x2)] → W p l e R s m args below meth c H locs 0 0 (MQ below (QI D (TYX cs) (WX ad cs) (AX ad) res.1 res.2) args s 0 0 (AX ad)) (F0 m 17 ls []) := by
  intro n
  induction n with
  | zero => intro x1 x2 σ H locs ls hf; cases hf
  | succ n ih =>
    intro x1 x2 σ H locs ls hf hP hS hl
    exact w_X9_laws_17 C hr hlk hR (ag17 := l_X9_laws_17 n) ih hf hP hS hl
set_option maxRecDepth 100000 in
set_option maxHeartbeats 4000000 in
theorem w_X9_laws (C : CX p m c cX9_laws 3 s args RX9 D (TYX cs) (WX ad cs) (AX ad)) (hr : meth.sig.returnType = (some .int)) (hlk : meth.locks = false) (hR : 4 ≤ R.frames ∧ 99 ≤ R.locals) {σ : Sg}  {res : Int32 × Sg} (hf : f_X9_laws σ = some res) {H : Heap} {locs : List Loc} (hP : va_P D vwCl (WX ad cs σ) H) (hS : va_S (AX ad) s.heap H locs) {ls : Array Slot} (hl : lv_has ls 3 [(0, .ref (ad 0))]) : W p l e R s m args below meth c H locs 0 0 (MQ below (QI D (TYX cs) (WX ad cs) (AX ad) res.1 res.2) args s 0 0 (AX ad)) (F0 m 0 ls []) := by
  have hx := C.1.1
  have hb := C.1.2.1
  unfold f_X9_laws at hf
  refine lv_aload_n hx hb dX9_laws_0 rfl (lv_at hl 0 rfl) ?_
  refine gX9_1 C hP k_262 dX9_laws_1 ?_
  refine gX7_1N C hP k_117 dX9_laws_4 ?_
  refine lv_if_ne (tgt := 13) hx hb dX9_laws_7 (by decide) (fun c1 => ?_) (fun c1 => ?_)
  · replace hf := zf c1 hf
    refine lv_iconst (v := 0) hx hb dX9_laws_13 (by decide) ?_
    refine lv_istore_n (lv' := [(1, .int 0), (0, .ref (ad 0))]) hx hb dX9_laws_14 rfl hl (by decide) rfl (fun ls hl => ?_)
    refine lv_iconst (v := 0) hx hb dX9_laws_15 (by decide) ?_
    refine lv_istore_n (lv' := [(2, .int 0), (1, .int 0), (0, .ref (ad 0))]) hx hb dX9_laws_16 rfl hl (by decide) rfl (fun ls hl => ?_)
    exact wl_X9_laws_17 C hr hlk hR fu _ _ _ _ _ _ hf hP hS (lv_sub hl [2, 1, 0] rfl)
  · replace hf := zt c1 hf
    refine lv_bipush (v := (-3)) hx hb dX9_laws_10 (by decide) ?_
    exact q_iret C hr hlk hP hS (Option.some.inj hf) dX9_laws_12
theorem kd_X9_laws : yX9_laws.cls = RX9 ∧ yX9_laws.cls ≠ "java/lang/invoke/MethodHandle" ∧ yX9_laws.cls ≠ "java/lang/invoke/VarHandle" ∧ (parseMethodDescriptor yX9_laws.desc).map (fun d => d.parameters.length) = some 0 := by decide +kernel
def r_X9_laws : Room := { frames := 4, cells := 0, slots := 0, locals := 99 }
set_option maxRecDepth 100000 in
set_option maxHeartbeats 4000000 in
theorem c_X9_laws {l : Launch} {D : va_G} {ad : Nat → Nat} {cs : Nat → ClassId} (hD : ∀ σ, va_D (AX ad) (WX ad cs σ)) {σ : Sg}  {res : Int32 × Sg} (hf : f_X9_laws σ = some res) : Met l yX9_laws (wm yX9_laws cX9_laws 3 (some .int)) r_X9_laws (va_Pc [.ref (ad 0)] (BW D (TYX cs) (WX ad cs) σ)) (QI D (TYX cs) (WX ad cs) (AX ad) res.1 res.2) 0 0 (AX ad) := by
  refine q_enter (by decide) hD (Nat.le_of_ble_eq_true rfl) ?_
  intro p e s m below meth c C hr hlk hP hS ls hl
  exact w_X9_laws C hr hlk ⟨Nat.le_of_ble_eq_true rfl, Nat.le_of_ble_eq_true rfl⟩ hf hP hS hl

set_option maxRecDepth 100000 in
set_option maxHeartbeats 4000000 in
theorem w_X9_odds_79 (C : CX p m c cX9_odds 6 s args RX9 D (TYX cs) (WX ad cs) (AX ad)) (hr : meth.sig.returnType = (some .long)) (hlk : meth.locks = false) (hR : 5 ≤ R.frames ∧ 122 ≤ R.locals) {σ : Sg} {x2 : Int32} {x3 : Int32} {x4 : Int32} {res : Int64 × Sg} (hf : f_X9_odds_79 σ x2 x3 x4 = some res) {H : Heap} {locs : List Loc} (hP : va_P D vwCl (WX ad cs σ) H) (hS : va_S (AX ad) s.heap H locs) {ls : Array Slot} (hl : lv_has ls 6 [(2, .int x2), (3, .int x3), (4, .int x4)]) : W p l e R s m args below meth c H locs 0 0 (MQ below (QL D (TYX cs) (WX ad cs) (AX ad) res.1 res.2) args s 0 0 (AX ad)) (F0 m 79 ls []) := by
  have hx := C.1.1
  have hb := C.1.2.1
  unfold f_X9_odds_79 at hf
  refine lv_iload_n hx hb dX9_odds_79 rfl (lv_at hl 0 rfl) ?_
  refine lv_if_ne (tgt := 88) hx hb dX9_odds_80 (by decide) (fun c1 => ?_) (fun c1 => ?_)
  · replace hf := zf c1 hf
    refine lv_iload hx hb dX9_odds_88 (lv_at hl 2 rfl) ?_
    refine lv_i2l hx hb dX9_odds_90 rfl ?_
    exact q_lret C hr hlk hP hS (Option.some.inj hf) dX9_odds_91
  · replace hf := zt c1 hf
    refine lv_iload_n hx hb dX9_odds_83 rfl (lv_at hl 1 rfl) ?_
    refine lv_i2l hx hb dX9_odds_84 rfl ?_
    refine lv_goto (tgt := 91) hx hb dX9_odds_85 (by decide) ?_
    exact q_lret C hr hlk hP hS (Option.some.inj hf) dX9_odds_91
set_option maxRecDepth 100000 in
set_option maxHeartbeats 4000000 in
theorem w_X9_odds_44 (C : CX p m c cX9_odds 6 s args RX9 D (TYX cs) (WX ad cs) (AX ad)) (hr : meth.sig.returnType = (some .long)) (hlk : meth.locks = false) (hR : 5 ≤ R.frames ∧ 122 ≤ R.locals) {σ : Sg} {x2 : Int32} {x3 : Int32} {x4 : Int32} {x5 : Int32} {res : Int64 × Sg} {ag44 : Int32 → Int32 → Int32 → Option (Int64 × Sg)} (hag44 : ∀ (x3 : Int32) (x4 : Int32) (x5 : Int32) (H : Heap) (locs : List Loc) (ls : Array Slot), ag44 x3 x4 x5 = some res → va_P D vwCl (WX ad cs σ) H → va_S (AX ad) s.heap H locs → lv_has ls 6 [(2, .int x2), (3, .int x3), (4, .int x4), (5, .int x5)] → W p l e R s m args below meth c H locs 0 0 (MQ below (QL D (TYX cs) (WX ad cs) (AX ad) res.1 res.2) args s 0 0 (AX ad)) (F0 m 44 ls [])) (hf : f_X9_odds_44 ag44 σ x2 x3 x4 x5 = some res) {H : Heap} {locs : List Loc} (hP : va_P D vwCl (WX ad cs σ) H) (hS : va_S (AX ad) s.heap H locs) {ls : Array Slot} (hl : lv_has ls 6 [(2, .int x2), (3, .int x3), (4, .int x4), (5, .int x5)]) : W p l e R s m args below meth c H locs 0 0 (MQ below (QL D (TYX cs) (WX ad cs) (AX ad) res.1 res.2) args s 0 0 (AX ad)) (F0 m 44 ls []) := by
  have hx := C.1.1
  have hb := C.1.2.1
  unfold f_X9_odds_44 at hf
  refine lv_iload hx hb dX9_odds_44 (lv_at hl 3 rfl) ?_
  refine lv_bipush (v := 8) hx hb dX9_odds_46 (by decide) ?_
  refine lv_icmp_ge (tgt := 79) hx hb dX9_odds_48 (by decide) (fun c1 => ?_) (fun c1 => ?_)
  · replace hf := zt c1 hf
    exact w_X9_odds_79 C hr hlk hR hf hP hS (lv_sub hl [0, 1, 2] rfl)
  · replace hf := zf c1 hf
    refine lv_iload hx hb dX9_odds_51 (lv_at hl 2 rfl) ?_
    refine lv_iconst (v := 1) hx hb dX9_odds_53 (by decide) ?_
    refine lv_icmp_le (tgt := 79) hx hb dX9_odds_54 (by decide) (fun c2 => ?_) (fun c2 => ?_)
    · replace hf := zt c2 hf
      exact w_X9_odds_79 C hr hlk hR hf hP hS (lv_sub hl [0, 1, 2] rfl)
    · replace hf := zf c2 hf
      refine lv_iload_n hx hb dX9_odds_57 rfl (lv_at hl 1 rfl) ?_
      refine lv_iconst (v := 2) hx hb dX9_odds_58 (by decide) ?_
      refine lv_irem hx hb dX9_odds_59 (by decide) ?_
      refine lv_if_ne (tgt := 79) hx hb dX9_odds_60 (by decide) (fun c3 => ?_) (fun c3 => ?_)
      · replace hf := zf c3 hf
        exact w_X9_odds_79 C hr hlk hR hf hP hS (lv_sub hl [0, 1, 2] rfl)
      · replace hf := zt c3 hf
        refine lv_iload_n hx hb dX9_odds_63 rfl (lv_at hl 1 rfl) ?_
        refine lv_iconst (v := 2) hx hb dX9_odds_64 (by decide) ?_
        refine lv_idiv hx hb dX9_odds_65 (by decide) ?_
        refine lv_istore_n (lv' := [(3, .int (x3 / 2)), (2, .int x2), (4, .int x4), (5, .int x5)]) hx hb dX9_odds_66 rfl hl (by decide) rfl (fun ls hl => ?_)
        refine lv_iload hx hb dX9_odds_67 (lv_at hl 2 rfl) ?_
        refine lv_iconst (v := 2) hx hb dX9_odds_69 (by decide) ?_
        refine lv_idiv hx hb dX9_odds_70 (by decide) ?_
        refine lv_istore (lv' := [(4, .int (x4 / 2)), (3, .int (x3 / 2)), (2, .int x2), (5, .int x5)]) hx hb dX9_odds_71 hl (by decide) rfl (fun ls hl => ?_)
        refine lv_iinc (v := x5 + 1) (lv' := [(5, .int (x5 + 1)), (4, .int (x4 / 2)), (3, .int (x3 / 2)), (2, .int x2)]) hx hb dX9_odds_73 hl (k := 3) rfl rfl (by decide) rfl (fun ls hl => ?_)
        refine lv_goto (tgt := 44) hx hb dX9_odds_76 (by decide) ?_
        exact hag44 _ _ _ _ _ _ hf hP hS (lv_sub hl [3, 2, 1, 0] rfl)
set_option maxRecDepth 100000 in
set_option maxHeartbeats 4000000 in
theorem wl_X9_odds_44 (C : CX p m c cX9_odds 6 s args RX9 D (TYX cs) (WX ad cs) (AX ad)) (hr : meth.sig.returnType = (some .long)) (hlk : meth.locks = false) (hR : 5 ≤ R.frames ∧ 122 ≤ R.locals) {σ : Sg} {x2 : Int32} {res : Int64 × Sg} : ∀ n : Nat, ∀ (x3 : Int32) (x4 : Int32) (x5 : Int32) (H : Heap) (locs : List Loc) (ls : Array Slot), l_X9_odds_44 σ x2 n x3 x4 x5 = some res → va_P D vwCl (WX ad cs σ) H → va_S (AX ad) s.heap H locs → lv_has ls 6 [(2, .int x2), (3, .int x3), (4, .int x4), (5, .int x5)] → W p l e R s m args below meth c H locs 0 0 (MQ below (QL D (TYX cs) (WX ad cs) (AX ad) res.1 res.2) args s 0 0 (AX ad)) (F0 m 44 ls []) := by
  intro n
  induction n with
  | zero => intro x3 x4 x5 H locs ls hf; cases hf
  | succ n ih =>
    intro x3 x4 x5 H locs ls hf hP hS hl
    exact w_X9_odds_44 C hr hlk hR (ag44 := l_X9_odds_44 σ x2 n) ih hf hP hS hl
set_option maxRecDepth 100000 in
set_option maxHeartbeats 4000000 in
theorem w_X9_odds (C : CX p m c cX9_odds 6 s args RX9 D (TYX cs) (WX ad cs) (AX ad)) (hr : meth.sig.returnType = (some .long)) (hlk : meth.locks = false) (hR : 5 ≤ R.frames ∧ 122 ≤ R.locals) {σ : Sg} {x1 : Int32} {x2 : Int32} {res : Int64 × Sg} (hf : f_X9_odds σ x1 x2 = some res) {H : Heap} {locs : List Loc} (hP : va_P D vwCl (WX ad cs σ) H) (hS : va_S (AX ad) s.heap H locs) {ls : Array Slot} (hl : lv_has ls 6 [(0, .ref (ad 0)), (1, .int x1), (2, .int x2)]) : W p l e R s m args below meth c H locs 0 0 (MQ below (QL D (TYX cs) (WX ad cs) (AX ad) res.1 res.2) args s 0 0 (AX ad)) (F0 m 0 ls []) := by
  have hx := C.1.1
  have hb := C.1.2.1
  unfold f_X9_odds at hf
  refine lv_aload_n hx hb dX9_odds_0 rfl (lv_at hl 0 rfl) ?_
  refine gX9_1 C hP k_262 dX9_odds_1 ?_
  refine lv_iload_n hx hb dX9_odds_4 rfl (lv_at hl 1 rfl) ?_
  obtain ⟨r2, hg1, hf⟩ := zb hf
  try dsimp only at hf
  refine q_callr C hS (q_runV C hP (c_X7_thingAt (l := l) C.2.2.1 hg1) (ci := 6) (As := [.int x1]) (rest := []) ⟨gd_V k_357 k_340 k_341 k_45 k_342, ⟨rfl, rfl⟩, kd_X7_thingAt, ⟨Nat.le_trans (Nat.le_of_ble_eq_true rfl) hR.1, Nat.le_trans (Nat.le_of_ble_eq_true rfl) hR.2⟩⟩ (o := 2) rfl rfl rfl rfl rfl (Nat.le_of_ble_eq_true rfl) hl.1 dX9_odds_5) (fun H locs hP hS => ?_)
  rcases r2 with _ | t3
  · refine lv_ifnullN (tgt := 19) hx hb dX9_odds_8 (by decide) ?_
    try dsimp only at hf
    refine lv_ldc2 (v := (-9223372036854775808)) hx hb C.1.2.2.2.1 (C.1.2.2.2.2 _ k_558) dX9_odds_19 ?_
    exact q_lret C hr hlk hP hS (Option.some.inj hf) dX9_odds_22
  · refine lv_ifnull hx hb dX9_odds_8 ?_
    try dsimp only at hf
    refine lv_iload_n hx hb dX9_odds_11 rfl (lv_at hl 2 rfl) ?_
    refine lv_iconst (v := 1) hx hb dX9_odds_12 (by decide) ?_
    obtain ⟨r5, hg4, hf⟩ := zb hf
    try dsimp only at hf
    refine q_calli C hS (q_runS C hP (c_X9_isBeyond (l := l) C.2.2.1 hg4) (As := [.int x2, .int 1]) (rest := []) ⟨gd_S k_294 k_295 k_44 k_296, ⟨rfl, rfl⟩, kd_X9_isBeyond, ⟨Nat.le_trans (Nat.le_of_ble_eq_true rfl) hR.1, Nat.le_trans (Nat.le_of_ble_eq_true rfl) hR.2⟩⟩ rfl rfl (Nat.le_of_ble_eq_true rfl) hl.1 dX9_odds_13) (fun H locs hP hS => ?_)
    refine lv_if_eq (tgt := 23) hx hb dX9_odds_16 (by decide) (fun c6 => ?_) (fun c6 => ?_)
    · replace hf := zt c6 hf
      refine lv_aload_n hx hb dX9_odds_23 rfl (lv_at hl 0 rfl) ?_
      refine gX9_5 C hP k_266 dX9_odds_24 ?_
      refine lv_iload_n hx hb dX9_odds_27 rfl (lv_at hl 1 rfl) ?_
      obtain ⟨⟨r8, σ9⟩, hg7, hf⟩ := zb hf
      try dsimp only at hf
      refine q_calli C hS (q_runV C hP (c_X8_setsThatServe (l := l) C.2.2.1 hg7) (ci := 7) (As := [.int x1]) (rest := []) ⟨gd_V k_559 k_560 k_561 k_50 k_562, ⟨rfl, rfl⟩, kd_X8_setsThatServe, ⟨Nat.le_trans (Nat.le_of_ble_eq_true rfl) hR.1, Nat.le_trans (Nat.le_of_ble_eq_true rfl) hR.2⟩⟩ (o := 22) rfl rfl rfl rfl rfl (Nat.le_of_ble_eq_true rfl) hl.1 dX9_odds_28) (fun H locs hP hS => ?_)
      refine lv_istore_n (lv' := [(3, .int r8), (0, .ref (ad 0)), (1, .int x1), (2, .int x2)]) hx hb dX9_odds_31 rfl hl (by decide) rfl (fun ls hl => ?_)
      refine lv_aload_n hx hb dX9_odds_32 rfl (lv_at hl 1 rfl) ?_
      refine gX9_1 C hP k_262 dX9_odds_33 ?_
      obtain ⟨r11, hg10, hf⟩ := zb hf
      try dsimp only at hf
      refine q_calli C hS (q_runV C hP (c_X7_sets (l := l) C.2.2.1 hg10) (ci := 6) (As := []) (rest := []) ⟨gd_V k_563 k_466 k_467 k_45 k_468, ⟨rfl, rfl⟩, kd_X7_sets, ⟨Nat.le_trans (Nat.le_of_ble_eq_true rfl) hR.1, Nat.le_trans (Nat.le_of_ble_eq_true rfl) hR.2⟩⟩ (o := 2) rfl rfl rfl rfl rfl (Nat.le_of_ble_eq_true rfl) hl.1 dX9_odds_36) (fun H locs hP hS => ?_)
      refine lv_istore (lv' := [(4, .int r11), (3, .int r8), (0, .ref (ad 0)), (1, .int x1), (2, .int x2)]) hx hb dX9_odds_39 hl (by decide) rfl (fun ls hl => ?_)
      refine lv_iconst (v := 0) hx hb dX9_odds_41 (by decide) ?_
      refine lv_istore (lv' := [(5, .int 0), (4, .int r11), (3, .int r8), (0, .ref (ad 0)), (1, .int x1), (2, .int x2)]) hx hb dX9_odds_42 hl (by decide) rfl (fun ls hl => ?_)
      exact wl_X9_odds_44 C hr hlk hR fu _ _ _ _ _ _ hf hP hS (lv_sub hl [5, 2, 1, 0] rfl)
    · replace hf := zf c6 hf
      refine lv_ldc2 (v := (-9223372036854775808)) hx hb C.1.2.2.2.1 (C.1.2.2.2.2 _ k_558) dX9_odds_19 ?_
      exact q_lret C hr hlk hP hS (Option.some.inj hf) dX9_odds_22
theorem kd_X9_odds : yX9_odds.cls = RX9 ∧ yX9_odds.cls ≠ "java/lang/invoke/MethodHandle" ∧ yX9_odds.cls ≠ "java/lang/invoke/VarHandle" ∧ (parseMethodDescriptor yX9_odds.desc).map (fun d => d.parameters.length) = some 2 := by decide +kernel
def r_X9_odds : Room := { frames := 5, cells := 0, slots := 0, locals := 122 }
set_option maxRecDepth 100000 in
set_option maxHeartbeats 4000000 in
theorem c_X9_odds {l : Launch} {D : va_G} {ad : Nat → Nat} {cs : Nat → ClassId} (hD : ∀ σ, va_D (AX ad) (WX ad cs σ)) {σ : Sg} {x1 : Int32} {x2 : Int32} {res : Int64 × Sg} (hf : f_X9_odds σ x1 x2 = some res) : Met l yX9_odds (wm yX9_odds cX9_odds 6 (some .long)) r_X9_odds (va_Pc [.ref (ad 0), .int x1, .int x2] (BW D (TYX cs) (WX ad cs) σ)) (QL D (TYX cs) (WX ad cs) (AX ad) res.1 res.2) 0 0 (AX ad) := by
  refine q_enter (by decide) hD (Nat.le_of_ble_eq_true rfl) ?_
  intro p e s m below meth c C hr hlk hP hS ls hl
  exact w_X9_odds C hr hlk ⟨Nat.le_of_ble_eq_true rfl, Nat.le_of_ble_eq_true rfl⟩ hf hP hS hl

set_option maxRecDepth 100000 in
set_option maxHeartbeats 4000000 in
theorem w_X9_sheet (C : CX p m c cX9_sheet 5 s args RX9 D (TYX cs) (WX ad cs) (AX ad)) (hr : meth.sig.returnType = (some .int)) (hlk : meth.locks = false) (hR : 2 ≤ R.frames ∧ 45 ≤ R.locals) {σ : Sg} {x1 : Int32} {x2 : Int32} {x3 : Int32} {res : Int32 × Sg} (hf : f_X9_sheet σ x1 x2 x3 = some res) {H : Heap} {locs : List Loc} (hP : va_P D vwCl (WX ad cs σ) H) (hS : va_S (AX ad) s.heap H locs) {ls : Array Slot} (hl : lv_has ls 5 [(0, .ref (ad 0)), (1, .int x1), (2, .int x2), (3, .int x3)]) : W p l e R s m args below meth c H locs 0 0 (MQ below (QI D (TYX cs) (WX ad cs) (AX ad) res.1 res.2) args s 0 0 (AX ad)) (F0 m 0 ls []) := by
  have hx := C.1.1
  have hb := C.1.2.1
  unfold f_X9_sheet at hf
  refine lv_aload_n hx hb dX9_sheet_0 rfl (lv_at hl 0 rfl) ?_
  refine lv_iconst (v := 0) hx hb dX9_sheet_1 (by decide) ?_
  refine pX9_7 C hP hS k_268 dX9_sheet_2 (fun H locs hP hS => ?_)
  refine lv_aload_n hx hb dX9_sheet_5 rfl (lv_at hl 0 rfl) ?_
  refine lv_iload_n hx hb dX9_sheet_6 rfl (lv_at hl 1 rfl) ?_
  obtain ⟨r2, hg1, hf⟩ := zb hf
  try dsimp only at hf
  refine q_callr C hS (q_runV C hP (c_X9_sheetAt (l := l) C.2.2.1 hg1) (ci := 8) (As := [.int x1]) (rest := []) ⟨gd_V k_290 k_292 k_0 k_44 k_293, ⟨rfl, rfl⟩, kd_X9_sheetAt, ⟨Nat.le_trans (Nat.le_of_ble_eq_true rfl) hR.1, Nat.le_trans (Nat.le_of_ble_eq_true rfl) hR.2⟩⟩ (o := 0) rfl rfl rfl rfl rfl (Nat.le_of_ble_eq_true rfl) hl.1 dX9_sheet_7) (fun H locs hP hS => ?_)
  refine q_astoreq (lv' := [(4, va_rf (Option.map (fun t => ad (24 + t)) r2)), (0, .ref (ad 0)), (1, .int x1), (2, .int x2), (3, .int x3)]) C dX9_sheet_10 hl (by decide) rfl (fun ls hl => ?_)
  refine q_aloadq C dX9_sheet_12 (lv_at hl 0 rfl) ?_
  rcases r2 with _ | t3
  · refine lv_ifnonnullN hx hb dX9_sheet_14 ?_
    try dsimp only at hf
    refine lv_iconst (v := (-1)) hx hb dX9_sheet_17 (by decide) ?_
    exact q_iret C hr hlk hP hS (Option.some.inj hf) dX9_sheet_18
  · refine lv_ifnonnull (tgt := 19) hx hb dX9_sheet_14 (by decide) ?_
    try dsimp only at hf
    refine lv_iload_n hx hb dX9_sheet_19 rfl (lv_at hl 3 rfl) ?_
    refine lv_iconst (v := 2) hx hb dX9_sheet_20 (by decide) ?_
    obtain ⟨r5, hg4, hf⟩ := zb hf
    try dsimp only at hf
    refine q_calli C hS (q_runS C hP (c_X9_isBeyond (l := l) C.2.2.1 hg4) (As := [.int x2, .int 2]) (rest := []) ⟨gd_S k_294 k_295 k_44 k_296, ⟨rfl, rfl⟩, kd_X9_isBeyond, ⟨Nat.le_trans (Nat.le_of_ble_eq_true rfl) hR.1, Nat.le_trans (Nat.le_of_ble_eq_true rfl) hR.2⟩⟩ rfl rfl (Nat.le_of_ble_eq_true rfl) hl.1 dX9_sheet_21) (fun H locs hP hS => ?_)
    refine lv_if_ne (tgt := 33) hx hb dX9_sheet_24 (by decide) (fun c6 => ?_) (fun c6 => ?_)
    · replace hf := zf c6 hf
      refine lv_bipush (v := (-2)) hx hb dX9_sheet_33 (by decide) ?_
      exact q_iret C hr hlk hP hS (Option.some.inj hf) dX9_sheet_35
    · replace hf := zt c6 hf
      refine lv_iload_n hx hb dX9_sheet_27 rfl (lv_at hl 4 rfl) ?_
      refine lv_bipush (v := 60) hx hb dX9_sheet_28 (by decide) ?_
      refine lv_icmp_le (tgt := 36) hx hb dX9_sheet_30 (by decide) (fun c7 => ?_) (fun c7 => ?_)
      · replace hf := zt c7 hf
        refine lv_iload_n hx hb dX9_sheet_36 rfl (lv_at hl 4 rfl) ?_
        refine lv_if_ge (tgt := 46) hx hb dX9_sheet_37 (by decide) (fun c8 => ?_) (fun c8 => ?_)
        · replace hf := zt c8 hf
          refine lv_aload hx hb dX9_sheet_46 (lv_at hl 0 rfl) ?_
          refine lv_iload_n hx hb dX9_sheet_48 rfl (lv_at hl 3 rfl) ?_
          refine lv_iload_n hx hb dX9_sheet_49 rfl (lv_at hl 4 rfl) ?_
          obtain ⟨h10, hf⟩ := zc hf
          obtain ⟨σ11, hg9, hf⟩ := zb hf
          try dsimp only at hf
          refine q_callv C hS (q_runV C hP (c_X4_renew (l := l) C.2.2.1 hg9) (ci := 4) (As := [.int x2, .int x3]) (rest := []) ⟨gd_V k_568 k_569 k_570 k_52 k_571, ⟨rfl, rfl⟩, kd_X4_renew, ⟨Nat.le_trans (Nat.le_of_ble_eq_true rfl) hR.1, Nat.le_trans (Nat.le_of_ble_eq_true rfl) hR.2⟩⟩ (oX_X4 h10) rfl rfl rfl rfl (Nat.le_of_ble_eq_true rfl) hl.1 dX9_sheet_50) (fun H locs hP hS => ?_)
          refine lv_iconst (v := 1) hx hb dX9_sheet_53 (by decide) ?_
          exact q_iret C hr hlk hP hS (Option.some.inj hf) dX9_sheet_54
        · replace hf := zf c8 hf
          refine lv_aload_n hx hb dX9_sheet_40 rfl (lv_at hl 1 rfl) ?_
          refine lv_iconst (v := 4) hx hb dX9_sheet_41 (by decide) ?_
          obtain ⟨⟨r13, σ14⟩, hg12, hf⟩ := zb hf
          try dsimp only at hf
          refine q_calli C hS (q_runV C hP (c_X9_cameTo (l := l) C.2.2.1 hg12) (ci := 8) (As := [.int 4]) (rest := []) ⟨gd_V k_305 k_307 k_1 k_44 k_308, ⟨rfl, rfl⟩, kd_X9_cameTo, ⟨Nat.le_trans (Nat.le_of_ble_eq_true rfl) hR.1, Nat.le_trans (Nat.le_of_ble_eq_true rfl) hR.2⟩⟩ (o := 0) rfl rfl rfl rfl rfl (Nat.le_of_ble_eq_true rfl) hl.1 dX9_sheet_42) (fun H locs hP hS => ?_)
          exact q_iret C hr hlk hP hS (Option.some.inj hf) dX9_sheet_45
      · replace hf := zf c7 hf
        refine lv_bipush (v := (-2)) hx hb dX9_sheet_33 (by decide) ?_
        exact q_iret C hr hlk hP hS (Option.some.inj hf) dX9_sheet_35
theorem kd_X9_sheet : yX9_sheet.cls = RX9 ∧ yX9_sheet.cls ≠ "java/lang/invoke/MethodHandle" ∧ yX9_sheet.cls ≠ "java/lang/invoke/VarHandle" ∧ (parseMethodDescriptor yX9_sheet.desc).map (fun d => d.parameters.length) = some 3 := by decide +kernel
def r_X9_sheet : Room := { frames := 2, cells := 0, slots := 0, locals := 45 }
set_option maxRecDepth 100000 in
set_option maxHeartbeats 4000000 in
theorem c_X9_sheet {l : Launch} {D : va_G} {ad : Nat → Nat} {cs : Nat → ClassId} (hD : ∀ σ, va_D (AX ad) (WX ad cs σ)) {σ : Sg} {x1 : Int32} {x2 : Int32} {x3 : Int32} {res : Int32 × Sg} (hf : f_X9_sheet σ x1 x2 x3 = some res) : Met l yX9_sheet (wm yX9_sheet cX9_sheet 5 (some .int)) r_X9_sheet (va_Pc [.ref (ad 0), .int x1, .int x2, .int x3] (BW D (TYX cs) (WX ad cs) σ)) (QI D (TYX cs) (WX ad cs) (AX ad) res.1 res.2) 0 0 (AX ad) := by
  refine q_enter (by decide) hD (Nat.le_of_ble_eq_true rfl) ?_
  intro p e s m below meth c C hr hlk hP hS ls hl
  exact w_X9_sheet C hr hlk ⟨Nat.le_of_ble_eq_true rfl, Nat.le_of_ble_eq_true rfl⟩ hf hP hS hl

set_option maxRecDepth 100000 in
set_option maxHeartbeats 4000000 in
theorem w_X9_lose_24 (C : CX p m c cX9_lose 4 s args RX9 D (TYX cs) (WX ad cs) (AX ad)) (hr : meth.sig.returnType = (some .int)) (hlk : meth.locks = false) (hR : 1 ≤ R.frames ∧ 21 ≤ R.locals) {σ : Sg} {x2 : Nat} {s0 : Int32} {res : Int32 × Sg} (hf : f_X9_lose_24 σ x2 s0 = some res) {H : Heap} {locs : List Loc} (hP : va_P D vwCl (WX ad cs σ) H) (hS : va_S (AX ad) s.heap H locs) {ls : Array Slot} (hl : lv_has ls 4 [(2, .ref (ad (24 + x2)))]) : W p l e R s m args below meth c H locs 0 0 (MQ below (QI D (TYX cs) (WX ad cs) (AX ad) res.1 res.2) args s 0 0 (AX ad)) (F0 m 24 ls [.int s0]) := by
  have hx := C.1.1
  have hb := C.1.2.1
  unfold f_X9_lose_24 at hf
  refine lv_istore_n (lv' := [(3, .int s0), (2, .ref (ad (24 + x2)))]) hx hb dX9_lose_24 rfl hl (by decide) rfl (fun ls hl => ?_)
  refine lv_aload_n hx hb dX9_lose_25 rfl (lv_at hl 1 rfl) ?_
  refine lv_iconst (v := 0) hx hb dX9_lose_26 (by decide) ?_
  obtain ⟨h1, hf⟩ := zc hf
  refine pX4_1N C hP h1 hS (by decide) k_248 dX9_lose_27 (fun H locs hP hS => ?_)
  refine lv_iload_n hx hb dX9_lose_30 rfl (lv_at hl 0 rfl) ?_
  exact q_iret C hr hlk hP hS (Option.some.inj hf) dX9_lose_31
set_option maxRecDepth 100000 in
set_option maxHeartbeats 4000000 in
theorem w_X9_lose (C : CX p m c cX9_lose 4 s args RX9 D (TYX cs) (WX ad cs) (AX ad)) (hr : meth.sig.returnType = (some .int)) (hlk : meth.locks = false) (hR : 1 ≤ R.frames ∧ 21 ≤ R.locals) {σ : Sg} {x1 : Int32} {res : Int32 × Sg} (hf : f_X9_lose σ x1 = some res) {H : Heap} {locs : List Loc} (hP : va_P D vwCl (WX ad cs σ) H) (hS : va_S (AX ad) s.heap H locs) {ls : Array Slot} (hl : lv_has ls 4 [(0, .ref (ad 0)), (1, .int x1)]) : W p l e R s m args below meth c H locs 0 0 (MQ below (QI D (TYX cs) (WX ad cs) (AX ad) res.1 res.2) args s 0 0 (AX ad)) (F0 m 0 ls []) := by
  have hx := C.1.1
  have hb := C.1.2.1
  unfold f_X9_lose at hf
  refine lv_aload_n hx hb dX9_lose_0 rfl (lv_at hl 0 rfl) ?_
  refine lv_iload_n hx hb dX9_lose_1 rfl (lv_at hl 1 rfl) ?_
  obtain ⟨r2, hg1, hf⟩ := zb hf
  try dsimp only at hf
  refine q_callr C hS (q_runV C hP (c_X9_sheetAt (l := l) C.2.2.1 hg1) (ci := 8) (As := [.int x1]) (rest := []) ⟨gd_V k_290 k_292 k_0 k_44 k_293, ⟨rfl, rfl⟩, kd_X9_sheetAt, ⟨Nat.le_trans (Nat.le_of_ble_eq_true rfl) hR.1, Nat.le_trans (Nat.le_of_ble_eq_true rfl) hR.2⟩⟩ (o := 0) rfl rfl rfl rfl rfl (Nat.le_of_ble_eq_true rfl) hl.1 dX9_lose_2) (fun H locs hP hS => ?_)
  refine q_astoreq_n (lv' := [(2, va_rf (Option.map (fun t => ad (24 + t)) r2)), (0, .ref (ad 0)), (1, .int x1)]) C dX9_lose_5 rfl hl (by decide) rfl (fun ls hl => ?_)
  refine q_aloadq_n C dX9_lose_6 rfl (lv_at hl 0 rfl) ?_
  rcases r2 with _ | t3
  · refine lv_ifnonnullN hx hb dX9_lose_7 ?_
    try dsimp only at hf
    refine lv_iconst (v := (-1)) hx hb dX9_lose_10 (by decide) ?_
    exact q_iret C hr hlk hP hS (Option.some.inj hf) dX9_lose_11
  · refine lv_ifnonnull (tgt := 12) hx hb dX9_lose_7 (by decide) ?_
    try dsimp only at hf
    refine lv_aload_n hx hb dX9_lose_12 rfl (lv_at hl 0 rfl) ?_
    obtain ⟨h4, hf⟩ := zc hf
    refine gX4_1N C hP h4 k_248 dX9_lose_13 ?_
    refine lv_if_eq (tgt := 23) hx hb dX9_lose_16 (by decide) (fun c5 => ?_) (fun c5 => ?_)
    · replace hf := zt c5 hf
      refine lv_iconst (v := 0) hx hb dX9_lose_23 (by decide) ?_
      exact w_X9_lose_24 C hr hlk hR hf hP hS (lv_sub hl [0] rfl)
    · replace hf := zf c5 hf
      refine lv_iconst (v := 1) hx hb dX9_lose_19 (by decide) ?_
      refine lv_goto (tgt := 24) hx hb dX9_lose_20 (by decide) ?_
      exact w_X9_lose_24 C hr hlk hR hf hP hS (lv_sub hl [0] rfl)
theorem kd_X9_lose : yX9_lose.cls = RX9 ∧ yX9_lose.cls ≠ "java/lang/invoke/MethodHandle" ∧ yX9_lose.cls ≠ "java/lang/invoke/VarHandle" ∧ (parseMethodDescriptor yX9_lose.desc).map (fun d => d.parameters.length) = some 1 := by decide +kernel
def r_X9_lose : Room := { frames := 1, cells := 0, slots := 0, locals := 21 }
set_option maxRecDepth 100000 in
set_option maxHeartbeats 4000000 in
theorem c_X9_lose {l : Launch} {D : va_G} {ad : Nat → Nat} {cs : Nat → ClassId} (hD : ∀ σ, va_D (AX ad) (WX ad cs σ)) {σ : Sg} {x1 : Int32} {res : Int32 × Sg} (hf : f_X9_lose σ x1 = some res) : Met l yX9_lose (wm yX9_lose cX9_lose 4 (some .int)) r_X9_lose (va_Pc [.ref (ad 0), .int x1] (BW D (TYX cs) (WX ad cs) σ)) (QI D (TYX cs) (WX ad cs) (AX ad) res.1 res.2) 0 0 (AX ad) := by
  refine q_enter (by decide) hD (Nat.le_of_ble_eq_true rfl) ?_
  intro p e s m below meth c C hr hlk hP hS ls hl
  exact w_X9_lose C hr hlk ⟨Nat.le_of_ble_eq_true rfl, Nat.le_of_ble_eq_true rfl⟩ hf hP hS hl

set_option maxRecDepth 100000 in
set_option maxHeartbeats 4000000 in
theorem w_X9_put (C : CX p m c cX9_put 6 s args RX9 D (TYX cs) (WX ad cs) (AX ad)) (hr : meth.sig.returnType = (some .int)) (hlk : meth.locks = false) (hR : 2 ≤ R.frames ∧ 45 ≤ R.locals) {σ : Sg} {x1 : Int32} {x2 : Int32} {x3 : Int32} {res : Int32 × Sg} (hf : f_X9_put σ x1 x2 x3 = some res) {H : Heap} {locs : List Loc} (hP : va_P D vwCl (WX ad cs σ) H) (hS : va_S (AX ad) s.heap H locs) {ls : Array Slot} (hl : lv_has ls 6 [(0, .ref (ad 0)), (1, .int x1), (2, .int x2), (3, .int x3)]) : W p l e R s m args below meth c H locs 0 0 (MQ below (QI D (TYX cs) (WX ad cs) (AX ad) res.1 res.2) args s 0 0 (AX ad)) (F0 m 0 ls []) := by
  have hx := C.1.1
  have hb := C.1.2.1
  unfold f_X9_put at hf
  refine lv_aload_n hx hb dX9_put_0 rfl (lv_at hl 0 rfl) ?_
  refine lv_iconst (v := 0) hx hb dX9_put_1 (by decide) ?_
  refine pX9_7 C hP hS k_268 dX9_put_2 (fun H locs hP hS => ?_)
  refine lv_aload_n hx hb dX9_put_5 rfl (lv_at hl 0 rfl) ?_
  refine lv_iload_n hx hb dX9_put_6 rfl (lv_at hl 1 rfl) ?_
  obtain ⟨r2, hg1, hf⟩ := zb hf
  try dsimp only at hf
  refine q_callr C hS (q_runV C hP (c_X9_sheetAt (l := l) C.2.2.1 hg1) (ci := 8) (As := [.int x1]) (rest := []) ⟨gd_V k_290 k_292 k_0 k_44 k_293, ⟨rfl, rfl⟩, kd_X9_sheetAt, ⟨Nat.le_trans (Nat.le_of_ble_eq_true rfl) hR.1, Nat.le_trans (Nat.le_of_ble_eq_true rfl) hR.2⟩⟩ (o := 0) rfl rfl rfl rfl rfl (Nat.le_of_ble_eq_true rfl) hl.1 dX9_put_7) (fun H locs hP hS => ?_)
  refine q_astoreq (lv' := [(4, va_rf (Option.map (fun t => ad (24 + t)) r2)), (0, .ref (ad 0)), (1, .int x1), (2, .int x2), (3, .int x3)]) C dX9_put_10 hl (by decide) rfl (fun ls hl => ?_)
  refine q_aloadq C dX9_put_12 (lv_at hl 0 rfl) ?_
  rcases r2 with _ | t3
  · refine lv_ifnonnullN hx hb dX9_put_14 ?_
    try dsimp only at hf
    refine lv_iconst (v := (-1)) hx hb dX9_put_17 (by decide) ?_
    exact q_iret C hr hlk hP hS (Option.some.inj hf) dX9_put_18
  · refine lv_ifnonnull (tgt := 19) hx hb dX9_put_14 (by decide) ?_
    try dsimp only at hf
    refine lv_aload hx hb dX9_put_19 (lv_at hl 0 rfl) ?_
    refine lv_aload hx hb dX9_put_21 (lv_at hl 0 rfl) ?_
    obtain ⟨h4, hf⟩ := zc hf
    refine gX4_2N C hP h4 k_250 dX9_put_23 ?_
    refine lv_iload_n hx hb dX9_put_26 rfl (lv_at hl 3 rfl) ?_
    refine lv_iconst (v := 1) hx hb dX9_put_27 (by decide) ?_
    obtain ⟨r6, hg5, hf⟩ := zb hf
    try dsimp only at hf
    refine q_calli C hS (q_runV C hP (c_X4_rangeFault (l := l) C.2.2.1 hg5) (ci := 4) (As := [.int ((st σ 0 7 0) (24 + t3) 2), .int x2, .int 1]) (rest := []) ⟨gd_V k_297 k_298 k_299 k_52 k_300, ⟨rfl, rfl⟩, kd_X4_rangeFault, ⟨Nat.le_trans (Nat.le_of_ble_eq_true rfl) hR.1, Nat.le_trans (Nat.le_of_ble_eq_true rfl) hR.2⟩⟩ (oX_X4 h4) rfl rfl rfl rfl (Nat.le_of_ble_eq_true rfl) hl.1 dX9_put_28) (fun H locs hP hS => ?_)
    refine lv_istore (lv' := [(5, .int r6), (4, .ref (ad (24 + t3))), (0, .ref (ad 0)), (1, .int x1), (2, .int x2), (3, .int x3)]) hx hb dX9_put_31 hl (by decide) rfl (fun ls hl => ?_)
    refine lv_iload hx hb dX9_put_33 (lv_at hl 0 rfl) ?_
    refine lv_if_eq (tgt := 45) hx hb dX9_put_35 (by decide) (fun c7 => ?_) (fun c7 => ?_)
    · replace hf := zt c7 hf
      refine lv_aload hx hb dX9_put_45 (lv_at hl 1 rfl) ?_
      refine lv_iload_n hx hb dX9_put_47 rfl (lv_at hl 4 rfl) ?_
      refine lv_iload_n hx hb dX9_put_48 rfl (lv_at hl 5 rfl) ?_
      obtain ⟨σ9, hg8, hf⟩ := zb hf
      try dsimp only at hf
      refine q_callv C hS (q_runV C hP (c_X4_setCell (l := l) C.2.2.1 hg8) (ci := 4) (As := [.int x2, .int x3]) (rest := []) ⟨gd_V k_582 k_583 k_584 k_52 k_585, ⟨rfl, rfl⟩, kd_X4_setCell, ⟨Nat.le_trans (Nat.le_of_ble_eq_true rfl) hR.1, Nat.le_trans (Nat.le_of_ble_eq_true rfl) hR.2⟩⟩ (oX_X4 h4) rfl rfl rfl rfl (Nat.le_of_ble_eq_true rfl) hl.1 dX9_put_49) (fun H locs hP hS => ?_)
      refine lv_iconst (v := 1) hx hb dX9_put_52 (by decide) ?_
      exact q_iret C hr hlk hP hS (Option.some.inj hf) dX9_put_53
    · replace hf := zf c7 hf
      refine lv_aload_n hx hb dX9_put_38 rfl (lv_at hl 2 rfl) ?_
      refine lv_iload hx hb dX9_put_39 (lv_at hl 0 rfl) ?_
      obtain ⟨⟨r11, σ12⟩, hg10, hf⟩ := zb hf
      try dsimp only at hf
      refine q_calli C hS (q_runV C hP (c_X9_cameTo (l := l) C.2.2.1 hg10) (ci := 8) (As := [.int r6]) (rest := []) ⟨gd_V k_305 k_307 k_1 k_44 k_308, ⟨rfl, rfl⟩, kd_X9_cameTo, ⟨Nat.le_trans (Nat.le_of_ble_eq_true rfl) hR.1, Nat.le_trans (Nat.le_of_ble_eq_true rfl) hR.2⟩⟩ (o := 0) rfl rfl rfl rfl rfl (Nat.le_of_ble_eq_true rfl) hl.1 dX9_put_41) (fun H locs hP hS => ?_)
      exact q_iret C hr hlk hP hS (Option.some.inj hf) dX9_put_44
theorem kd_X9_put : yX9_put.cls = RX9 ∧ yX9_put.cls ≠ "java/lang/invoke/MethodHandle" ∧ yX9_put.cls ≠ "java/lang/invoke/VarHandle" ∧ (parseMethodDescriptor yX9_put.desc).map (fun d => d.parameters.length) = some 3 := by decide +kernel
def r_X9_put : Room := { frames := 2, cells := 0, slots := 0, locals := 45 }
set_option maxRecDepth 100000 in
set_option maxHeartbeats 4000000 in
theorem c_X9_put {l : Launch} {D : va_G} {ad : Nat → Nat} {cs : Nat → ClassId} (hD : ∀ σ, va_D (AX ad) (WX ad cs σ)) {σ : Sg} {x1 : Int32} {x2 : Int32} {x3 : Int32} {res : Int32 × Sg} (hf : f_X9_put σ x1 x2 x3 = some res) : Met l yX9_put (wm yX9_put cX9_put 6 (some .int)) r_X9_put (va_Pc [.ref (ad 0), .int x1, .int x2, .int x3] (BW D (TYX cs) (WX ad cs) σ)) (QI D (TYX cs) (WX ad cs) (AX ad) res.1 res.2) 0 0 (AX ad) := by
  refine q_enter (by decide) hD (Nat.le_of_ble_eq_true rfl) ?_
  intro p e s m below meth c C hr hlk hP hS ls hl
  exact w_X9_put C hr hlk ⟨Nat.le_of_ble_eq_true rfl, Nat.le_of_ble_eq_true rfl⟩ hf hP hS hl

set_option maxRecDepth 100000 in
set_option maxHeartbeats 4000000 in
theorem w_X9_cell (C : CX p m c cX9_cell 5 s args RX9 D (TYX cs) (WX ad cs) (AX ad)) (hr : meth.sig.returnType = (some .long)) (hlk : meth.locks = false) (hR : 2 ≤ R.frames ∧ 45 ≤ R.locals) {σ : Sg} {x1 : Int32} {x2 : Int32} {x3 : Int32} {res : Int64 × Sg} (hf : f_X9_cell σ x1 x2 x3 = some res) {H : Heap} {locs : List Loc} (hP : va_P D vwCl (WX ad cs σ) H) (hS : va_S (AX ad) s.heap H locs) {ls : Array Slot} (hl : lv_has ls 5 [(0, .ref (ad 0)), (1, .int x1), (2, .int x2), (3, .int x3)]) : W p l e R s m args below meth c H locs 0 0 (MQ below (QL D (TYX cs) (WX ad cs) (AX ad) res.1 res.2) args s 0 0 (AX ad)) (F0 m 0 ls []) := by
  have hx := C.1.1
  have hb := C.1.2.1
  unfold f_X9_cell at hf
  refine lv_aload_n hx hb dX9_cell_0 rfl (lv_at hl 0 rfl) ?_
  refine lv_iconst (v := 0) hx hb dX9_cell_1 (by decide) ?_
  refine pX9_7 C hP hS k_268 dX9_cell_2 (fun H locs hP hS => ?_)
  refine lv_aload_n hx hb dX9_cell_5 rfl (lv_at hl 0 rfl) ?_
  refine lv_iload_n hx hb dX9_cell_6 rfl (lv_at hl 1 rfl) ?_
  obtain ⟨r2, hg1, hf⟩ := zb hf
  try dsimp only at hf
  refine q_callr C hS (q_runV C hP (c_X9_sheetAt (l := l) C.2.2.1 hg1) (ci := 8) (As := [.int x1]) (rest := []) ⟨gd_V k_290 k_292 k_0 k_44 k_293, ⟨rfl, rfl⟩, kd_X9_sheetAt, ⟨Nat.le_trans (Nat.le_of_ble_eq_true rfl) hR.1, Nat.le_trans (Nat.le_of_ble_eq_true rfl) hR.2⟩⟩ (o := 0) rfl rfl rfl rfl rfl (Nat.le_of_ble_eq_true rfl) hl.1 dX9_cell_7) (fun H locs hP hS => ?_)
  refine q_astoreq (lv' := [(4, va_rf (Option.map (fun t => ad (24 + t)) r2)), (0, .ref (ad 0)), (1, .int x1), (2, .int x2), (3, .int x3)]) C dX9_cell_10 hl (by decide) rfl (fun ls hl => ?_)
  refine q_aloadq C dX9_cell_12 (lv_at hl 0 rfl) ?_
  rcases r2 with _ | t3
  · refine lv_ifnullN (tgt := 25) hx hb dX9_cell_14 (by decide) ?_
    try dsimp only at hf
    refine lv_ldc2 (v := (-9223372036854775808)) hx hb C.1.2.2.2.1 (C.1.2.2.2.2 _ k_558) dX9_cell_25 ?_
    exact q_lret C hr hlk hP hS (Option.some.inj hf) dX9_cell_28
  · refine lv_ifnull hx hb dX9_cell_14 ?_
    try dsimp only at hf
    refine lv_iload_n hx hb dX9_cell_17 rfl (lv_at hl 4 rfl) ?_
    refine lv_iconst (v := 2) hx hb dX9_cell_18 (by decide) ?_
    obtain ⟨r5, hg4, hf⟩ := zb hf
    try dsimp only at hf
    refine q_calli C hS (q_runS C hP (c_X9_isBeyond (l := l) C.2.2.1 hg4) (As := [.int x3, .int 2]) (rest := []) ⟨gd_S k_294 k_295 k_44 k_296, ⟨rfl, rfl⟩, kd_X9_isBeyond, ⟨Nat.le_trans (Nat.le_of_ble_eq_true rfl) hR.1, Nat.le_trans (Nat.le_of_ble_eq_true rfl) hR.2⟩⟩ rfl rfl (Nat.le_of_ble_eq_true rfl) hl.1 dX9_cell_19) (fun H locs hP hS => ?_)
    refine lv_if_eq (tgt := 29) hx hb dX9_cell_22 (by decide) (fun c6 => ?_) (fun c6 => ?_)
    · replace hf := zt c6 hf
      refine lv_aload_n hx hb dX9_cell_29 rfl (lv_at hl 1 rfl) ?_
      refine lv_aload hx hb dX9_cell_30 (lv_at hl 0 rfl) ?_
      refine lv_iload_n hx hb dX9_cell_32 rfl (lv_at hl 4 rfl) ?_
      refine lv_iload_n hx hb dX9_cell_33 rfl (lv_at hl 3 rfl) ?_
      refine lv_iconst (v := 1) hx hb dX9_cell_34 (by decide) ?_
      obtain ⟨h8, hf⟩ := zc hf
      obtain ⟨r9, hg7, hf⟩ := zb hf
      try dsimp only at hf
      refine q_calli C hS (q_runV C hP (c_X4_rangeFault (l := l) C.2.2.1 hg7) (ci := 4) (As := [.int x3, .int x2, .int 1]) (rest := [.ref (ad 0)]) ⟨gd_V k_297 k_298 k_299 k_52 k_300, ⟨rfl, rfl⟩, kd_X4_rangeFault, ⟨Nat.le_trans (Nat.le_of_ble_eq_true rfl) hR.1, Nat.le_trans (Nat.le_of_ble_eq_true rfl) hR.2⟩⟩ (oX_X4 h8) rfl rfl rfl rfl (Nat.le_of_ble_eq_true rfl) hl.1 dX9_cell_35) (fun H locs hP hS => ?_)
      refine pX9_7 C hP hS k_268 dX9_cell_38 (fun H locs hP hS => ?_)
      refine lv_aload_n hx hb dX9_cell_41 rfl (lv_at hl 1 rfl) ?_
      refine gX9_7 C hP k_268 dX9_cell_42 ?_
      refine lv_if_ne (tgt := 58) hx hb dX9_cell_45 (by decide) (fun c10 => ?_) (fun c10 => ?_)
      · replace hf := zf c10 hf
        refine lv_ldc2 (v := (-9223372036854775808)) hx hb C.1.2.2.2.1 (C.1.2.2.2.2 _ k_558) dX9_cell_58 ?_
        exact q_lret C hr hlk hP hS (Option.some.inj hf) dX9_cell_61
      · replace hf := zt c10 hf
        refine lv_aload hx hb dX9_cell_48 (lv_at hl 0 rfl) ?_
        refine lv_iload_n hx hb dX9_cell_50 rfl (lv_at hl 3 rfl) ?_
        obtain ⟨r12, hg11, hf⟩ := zb hf
        try dsimp only at hf
        refine q_calli C hS (q_runV C hP (c_X4_cellAt (l := l) C.2.2.1 hg11) (ci := 4) (As := [.int x2]) (rest := []) ⟨gd_V k_519 k_313 k_314 k_52 k_315, ⟨rfl, rfl⟩, kd_X4_cellAt, ⟨Nat.le_trans (Nat.le_of_ble_eq_true rfl) hR.1, Nat.le_trans (Nat.le_of_ble_eq_true rfl) hR.2⟩⟩ (oX_X4 h8) rfl rfl rfl rfl (Nat.le_of_ble_eq_true rfl) hl.1 dX9_cell_51) (fun H locs hP hS => ?_)
        refine lv_i2l hx hb dX9_cell_54 rfl ?_
        refine lv_goto (tgt := 61) hx hb dX9_cell_55 (by decide) ?_
        exact q_lret C hr hlk hP hS (Option.some.inj hf) dX9_cell_61
    · replace hf := zf c6 hf
      refine lv_ldc2 (v := (-9223372036854775808)) hx hb C.1.2.2.2.1 (C.1.2.2.2.2 _ k_558) dX9_cell_25 ?_
      exact q_lret C hr hlk hP hS (Option.some.inj hf) dX9_cell_28
theorem kd_X9_cell : yX9_cell.cls = RX9 ∧ yX9_cell.cls ≠ "java/lang/invoke/MethodHandle" ∧ yX9_cell.cls ≠ "java/lang/invoke/VarHandle" ∧ (parseMethodDescriptor yX9_cell.desc).map (fun d => d.parameters.length) = some 3 := by decide +kernel
def r_X9_cell : Room := { frames := 2, cells := 0, slots := 0, locals := 45 }
set_option maxRecDepth 100000 in
set_option maxHeartbeats 4000000 in
theorem c_X9_cell {l : Launch} {D : va_G} {ad : Nat → Nat} {cs : Nat → ClassId} (hD : ∀ σ, va_D (AX ad) (WX ad cs σ)) {σ : Sg} {x1 : Int32} {x2 : Int32} {x3 : Int32} {res : Int64 × Sg} (hf : f_X9_cell σ x1 x2 x3 = some res) : Met l yX9_cell (wm yX9_cell cX9_cell 5 (some .long)) r_X9_cell (va_Pc [.ref (ad 0), .int x1, .int x2, .int x3] (BW D (TYX cs) (WX ad cs) σ)) (QL D (TYX cs) (WX ad cs) (AX ad) res.1 res.2) 0 0 (AX ad) := by
  refine q_enter (by decide) hD (Nat.le_of_ble_eq_true rfl) ?_
  intro p e s m below meth c C hr hlk hP hS ls hl
  exact w_X9_cell C hr hlk ⟨Nat.le_of_ble_eq_true rfl, Nat.le_of_ble_eq_true rfl⟩ hf hP hS hl

set_option maxRecDepth 100000 in
set_option maxHeartbeats 4000000 in
theorem w_X9_copy_47 (C : CX p m c cX9_copy 8 s args RX9 D (TYX cs) (WX ad cs) (AX ad)) (hr : meth.sig.returnType = (some .int)) (hlk : meth.locks = false) (hR : 1 ≤ R.frames ∧ 48 ≤ R.locals) {σ : Sg}  {res : Int32 × Sg} (hf : f_X9_copy_47 σ = some res) {H : Heap} {locs : List Loc} (hP : va_P D vwCl (WX ad cs σ) H) (hS : va_S (AX ad) s.heap H locs) {ls : Array Slot} (hl : lv_has ls 8 [(0, .ref (ad 0))]) : W p l e R s m args below meth c H locs 0 0 (MQ below (QI D (TYX cs) (WX ad cs) (AX ad) res.1 res.2) args s 0 0 (AX ad)) (F0 m 47 ls []) := by
  have hx := C.1.1
  have hb := C.1.2.1
  unfold f_X9_copy_47 at hf
  refine lv_aload_n hx hb dX9_copy_47 rfl (lv_at hl 0 rfl) ?_
  refine lv_iconst (v := 1) hx hb dX9_copy_48 (by decide) ?_
  obtain ⟨⟨r2, σ3⟩, hg1, hf⟩ := zb hf
  try dsimp only at hf
  refine q_calli C hS (q_runV C hP (c_X9_cameTo (l := l) C.2.2.1 hg1) (ci := 8) (As := [.int 1]) (rest := []) ⟨gd_V k_305 k_307 k_1 k_44 k_308, ⟨rfl, rfl⟩, kd_X9_cameTo, ⟨Nat.le_trans (Nat.le_of_ble_eq_true rfl) hR.1, Nat.le_trans (Nat.le_of_ble_eq_true rfl) hR.2⟩⟩ (o := 0) rfl rfl rfl rfl rfl (Nat.le_of_ble_eq_true rfl) hl.1 dX9_copy_49) (fun H locs hP hS => ?_)
  exact q_iret C hr hlk hP hS (Option.some.inj hf) dX9_copy_52
set_option maxRecDepth 100000 in
set_option maxHeartbeats 4000000 in
theorem w_X9_copy_100 (C : CX p m c cX9_copy 8 s args RX9 D (TYX cs) (WX ad cs) (AX ad)) (hr : meth.sig.returnType = (some .int)) (hlk : meth.locks = false) (hR : 1 ≤ R.frames ∧ 48 ≤ R.locals) {σ : Sg}  {res : Int32 × Sg} (hf : f_X9_copy_100 σ = some res) {H : Heap} {locs : List Loc} (hP : va_P D vwCl (WX ad cs σ) H) (hS : va_S (AX ad) s.heap H locs) {ls : Array Slot} (hl : lv_has ls 8 [(0, .ref (ad 0))]) : W p l e R s m args below meth c H locs 0 0 (MQ below (QI D (TYX cs) (WX ad cs) (AX ad) res.1 res.2) args s 0 0 (AX ad)) (F0 m 100 ls []) := by
  have hx := C.1.1
  have hb := C.1.2.1
  unfold f_X9_copy_100 at hf
  refine lv_aload_n hx hb dX9_copy_100 rfl (lv_at hl 0 rfl) ?_
  refine lv_iconst (v := 3) hx hb dX9_copy_101 (by decide) ?_
  obtain ⟨⟨r2, σ3⟩, hg1, hf⟩ := zb hf
  try dsimp only at hf
  refine q_calli C hS (q_runV C hP (c_X9_cameTo (l := l) C.2.2.1 hg1) (ci := 8) (As := [.int 3]) (rest := []) ⟨gd_V k_305 k_307 k_1 k_44 k_308, ⟨rfl, rfl⟩, kd_X9_cameTo, ⟨Nat.le_trans (Nat.le_of_ble_eq_true rfl) hR.1, Nat.le_trans (Nat.le_of_ble_eq_true rfl) hR.2⟩⟩ (o := 0) rfl rfl rfl rfl rfl (Nat.le_of_ble_eq_true rfl) hl.1 dX9_copy_102) (fun H locs hP hS => ?_)
  exact q_iret C hr hlk hP hS (Option.some.inj hf) dX9_copy_105
set_option maxRecDepth 100000 in
set_option maxHeartbeats 4000000 in
theorem w_X9_copy (C : CX p m c cX9_copy 8 s args RX9 D (TYX cs) (WX ad cs) (AX ad)) (hr : meth.sig.returnType = (some .int)) (hlk : meth.locks = false) (hR : 1 ≤ R.frames ∧ 48 ≤ R.locals) {σ : Sg} {x1 : Int32} {x2 : Int32} {x3 : Int32} {x4 : Int32} {x5 : Int32} {res : Int32 × Sg} (hf : f_X9_copy σ x1 x2 x3 x4 x5 = some res) {H : Heap} {locs : List Loc} (hP : va_P D vwCl (WX ad cs σ) H) (hS : va_S (AX ad) s.heap H locs) {ls : Array Slot} (hl : lv_has ls 8 [(0, .ref (ad 0)), (1, .int x1), (2, .int x2), (3, .int x3), (4, .int x4), (5, .int x5)]) : W p l e R s m args below meth c H locs 0 0 (MQ below (QI D (TYX cs) (WX ad cs) (AX ad) res.1 res.2) args s 0 0 (AX ad)) (F0 m 0 ls []) := by
  have hx := C.1.1
  have hb := C.1.2.1
  unfold f_X9_copy at hf
  refine lv_aload_n hx hb dX9_copy_0 rfl (lv_at hl 0 rfl) ?_
  refine lv_iconst (v := 0) hx hb dX9_copy_1 (by decide) ?_
  refine pX9_7 C hP hS k_268 dX9_copy_2 (fun H locs hP hS => ?_)
  refine lv_aload_n hx hb dX9_copy_5 rfl (lv_at hl 0 rfl) ?_
  refine lv_iload_n hx hb dX9_copy_6 rfl (lv_at hl 1 rfl) ?_
  obtain ⟨r2, hg1, hf⟩ := zb hf
  try dsimp only at hf
  refine q_callr C hS (q_runV C hP (c_X9_sheetAt (l := l) C.2.2.1 hg1) (ci := 8) (As := [.int x1]) (rest := []) ⟨gd_V k_290 k_292 k_0 k_44 k_293, ⟨rfl, rfl⟩, kd_X9_sheetAt, ⟨Nat.le_trans (Nat.le_of_ble_eq_true rfl) hR.1, Nat.le_trans (Nat.le_of_ble_eq_true rfl) hR.2⟩⟩ (o := 0) rfl rfl rfl rfl rfl (Nat.le_of_ble_eq_true rfl) hl.1 dX9_copy_7) (fun H locs hP hS => ?_)
  refine q_astoreq (lv' := [(6, va_rf (Option.map (fun t => ad (24 + t)) r2)), (0, .ref (ad 0)), (1, .int x1), (2, .int x2), (3, .int x3), (4, .int x4), (5, .int x5)]) C dX9_copy_10 hl (by decide) rfl (fun ls hl => ?_)
  refine lv_aload_n hx hb dX9_copy_12 rfl (lv_at hl 1 rfl) ?_
  refine lv_iload_n hx hb dX9_copy_13 rfl (lv_at hl 4 rfl) ?_
  obtain ⟨r4, hg3, hf⟩ := zb hf
  try dsimp only at hf
  refine q_callr C hS (q_runV C hP (c_X9_sheetAt (l := l) C.2.2.1 hg3) (ci := 8) (As := [.int x3]) (rest := []) ⟨gd_V k_290 k_292 k_0 k_44 k_293, ⟨rfl, rfl⟩, kd_X9_sheetAt, ⟨Nat.le_trans (Nat.le_of_ble_eq_true rfl) hR.1, Nat.le_trans (Nat.le_of_ble_eq_true rfl) hR.2⟩⟩ (o := 0) rfl rfl rfl rfl rfl (Nat.le_of_ble_eq_true rfl) hl.1 dX9_copy_14) (fun H locs hP hS => ?_)
  refine q_astoreq (lv' := [(7, va_rf (Option.map (fun t => ad (24 + t)) r4)), (6, va_rf (Option.map (fun t => ad (24 + t)) r2)), (0, .ref (ad 0)), (1, .int x1), (2, .int x2), (3, .int x3), (4, .int x4), (5, .int x5)]) C dX9_copy_17 hl (by decide) (by cases r2 <;> rfl) (fun ls hl => ?_)
  refine q_aloadq C dX9_copy_19 (lv_at hl 1 rfl) ?_
  rcases r2 with _ | t5
  · refine lv_ifnullN (tgt := 29) hx hb dX9_copy_21 (by decide) ?_
    try dsimp only at hf
    refine lv_iconst (v := (-1)) hx hb dX9_copy_29 (by decide) ?_
    exact q_iret C hr hlk hP hS (Option.some.inj hf) dX9_copy_30
  · refine lv_ifnull hx hb dX9_copy_21 ?_
    try dsimp only at hf
    refine q_aloadq C dX9_copy_24 (lv_at hl 0 rfl) ?_
    rcases r4 with _ | t6
    · refine lv_ifnonnullN hx hb dX9_copy_26 ?_
      try dsimp only at hf
      refine lv_iconst (v := (-1)) hx hb dX9_copy_29 (by decide) ?_
      exact q_iret C hr hlk hP hS (Option.some.inj hf) dX9_copy_30
    · refine lv_ifnonnull (tgt := 31) hx hb dX9_copy_26 (by decide) ?_
      try dsimp only at hf
      refine lv_aload hx hb dX9_copy_31 (lv_at hl 1 rfl) ?_
      obtain ⟨h7, hf⟩ := zc hf
      refine gX4_1N C hP h7 k_248 dX9_copy_33 ?_
      refine lv_if_eq (tgt := 47) hx hb dX9_copy_36 (by decide) (fun c8 => ?_) (fun c8 => ?_)
      · replace hf := zt c8 hf
        exact w_X9_copy_47 C hr hlk hR hf hP hS (lv_sub hl [2] rfl)
      · replace hf := zf c8 hf
        refine lv_aload hx hb dX9_copy_39 (lv_at hl 0 rfl) ?_
        obtain ⟨h9, hf⟩ := zc hf
        refine gX4_1N C hP h9 k_248 dX9_copy_41 ?_
        refine lv_if_ne (tgt := 53) hx hb dX9_copy_44 (by decide) (fun c10 => ?_) (fun c10 => ?_)
        · replace hf := zf c10 hf
          refine lv_aload hx hb dX9_copy_53 (lv_at hl 1 rfl) ?_
          refine gX4_2N C hP h7 k_250 dX9_copy_55 ?_
          refine lv_aload hx hb dX9_copy_58 (lv_at hl 0 rfl) ?_
          refine gX4_2N C hP h9 k_250 dX9_copy_60 ?_
          refine lv_icmp_eq (tgt := 72) hx hb dX9_copy_63 (by decide) (fun c11 => ?_) (fun c11 => ?_)
          · replace hf := zt c11 hf
            refine lv_iload hx hb dX9_copy_72 (lv_at hl 7 rfl) ?_
            refine lv_if_lt (tgt := 100) hx hb dX9_copy_74 (by decide) (fun c12 => ?_) (fun c12 => ?_)
            · replace hf := zt c12 hf
              exact w_X9_copy_100 C hr hlk hR hf hP hS (lv_sub hl [2] rfl)
            · replace hf := zf c12 hf
              refine lv_aload hx hb dX9_copy_77 (lv_at hl 1 rfl) ?_
              refine lv_iload_n hx hb dX9_copy_79 rfl (lv_at hl 4 rfl) ?_
              refine lv_iload hx hb dX9_copy_80 (lv_at hl 7 rfl) ?_
              obtain ⟨r14, hg13, hf⟩ := zb hf
              try dsimp only at hf
              refine q_calli C hS (q_runV C hP (c_X4_isOver (l := l) C.2.2.1 hg13) (ci := 4) (As := [.int x2, .int x5]) (rest := []) ⟨gd_V k_598 k_302 k_303 k_52 k_304, ⟨rfl, rfl⟩, kd_X4_isOver, ⟨Nat.le_trans (Nat.le_of_ble_eq_true rfl) hR.1, Nat.le_trans (Nat.le_of_ble_eq_true rfl) hR.2⟩⟩ (oX_X4 h7) rfl rfl rfl rfl (Nat.le_of_ble_eq_true rfl) hl.1 dX9_copy_82) (fun H locs hP hS => ?_)
              refine lv_if_ne (tgt := 100) hx hb dX9_copy_85 (by decide) (fun c15 => ?_) (fun c15 => ?_)
              · replace hf := zf c15 hf
                exact w_X9_copy_100 C hr hlk hR hf hP hS (lv_sub hl [2] rfl)
              · replace hf := zt c15 hf
                refine lv_aload hx hb dX9_copy_88 (lv_at hl 0 rfl) ?_
                refine lv_iload hx hb dX9_copy_90 (lv_at hl 6 rfl) ?_
                refine lv_iload hx hb dX9_copy_92 (lv_at hl 7 rfl) ?_
                obtain ⟨r17, hg16, hf⟩ := zb hf
                try dsimp only at hf
                refine q_calli C hS (q_runV C hP (c_X4_isOver (l := l) C.2.2.1 hg16) (ci := 4) (As := [.int x4, .int x5]) (rest := []) ⟨gd_V k_598 k_302 k_303 k_52 k_304, ⟨rfl, rfl⟩, kd_X4_isOver, ⟨Nat.le_trans (Nat.le_of_ble_eq_true rfl) hR.1, Nat.le_trans (Nat.le_of_ble_eq_true rfl) hR.2⟩⟩ (oX_X4 h9) rfl rfl rfl rfl (Nat.le_of_ble_eq_true rfl) hl.1 dX9_copy_94) (fun H locs hP hS => ?_)
                refine lv_if_eq (tgt := 106) hx hb dX9_copy_97 (by decide) (fun c18 => ?_) (fun c18 => ?_)
                · replace hf := zt c18 hf
                  refine lv_aload hx hb dX9_copy_106 (lv_at hl 1 rfl) ?_
                  refine gX4_0N C hP h7 k_246 dX9_copy_108 ?_
                  refine lv_iload_n hx hb dX9_copy_111 rfl (lv_at hl 4 rfl) ?_
                  refine lv_aload hx hb dX9_copy_112 (lv_at hl 0 rfl) ?_
                  refine gX4_0N C hP h9 k_246 dX9_copy_114 ?_
                  refine lv_iload hx hb dX9_copy_117 (lv_at hl 6 rfl) ?_
                  refine lv_iload hx hb dX9_copy_119 (lv_at hl 7 rfl) ?_
                  obtain ⟨h19, hf⟩ := zc hf
                  refine q_copy C hP hS hl.1 k_599 k_601 k_600 k_58 h7 h9 h19 ⟨Nat.le_trans (Nat.le_of_ble_eq_true rfl) hR.1, Nat.le_trans (Nat.le_of_ble_eq_true rfl) hR.2⟩ dX9_copy_121 (fun H locs hP hS => ?_)
                  refine lv_iload hx hb dX9_copy_124 (lv_at hl 7 rfl) ?_
                  exact q_iret C hr hlk hP hS (Option.some.inj hf) dX9_copy_126
                · replace hf := zf c18 hf
                  exact w_X9_copy_100 C hr hlk hR hf hP hS (lv_sub hl [2] rfl)
          · replace hf := zf c11 hf
            refine lv_aload_n hx hb dX9_copy_66 rfl (lv_at hl 2 rfl) ?_
            refine lv_iconst (v := 2) hx hb dX9_copy_67 (by decide) ?_
            obtain ⟨⟨r21, σ22⟩, hg20, hf⟩ := zb hf
            try dsimp only at hf
            refine q_calli C hS (q_runV C hP (c_X9_cameTo (l := l) C.2.2.1 hg20) (ci := 8) (As := [.int 2]) (rest := []) ⟨gd_V k_305 k_307 k_1 k_44 k_308, ⟨rfl, rfl⟩, kd_X9_cameTo, ⟨Nat.le_trans (Nat.le_of_ble_eq_true rfl) hR.1, Nat.le_trans (Nat.le_of_ble_eq_true rfl) hR.2⟩⟩ (o := 0) rfl rfl rfl rfl rfl (Nat.le_of_ble_eq_true rfl) hl.1 dX9_copy_68) (fun H locs hP hS => ?_)
            exact q_iret C hr hlk hP hS (Option.some.inj hf) dX9_copy_71
        · replace hf := zt c10 hf
          exact w_X9_copy_47 C hr hlk hR hf hP hS (lv_sub hl [2] rfl)
theorem kd_X9_copy : yX9_copy.cls = RX9 ∧ yX9_copy.cls ≠ "java/lang/invoke/MethodHandle" ∧ yX9_copy.cls ≠ "java/lang/invoke/VarHandle" ∧ (parseMethodDescriptor yX9_copy.desc).map (fun d => d.parameters.length) = some 5 := by decide +kernel
def r_X9_copy : Room := { frames := 1, cells := 0, slots := 0, locals := 48 }
set_option maxRecDepth 100000 in
set_option maxHeartbeats 4000000 in
theorem c_X9_copy {l : Launch} {D : va_G} {ad : Nat → Nat} {cs : Nat → ClassId} (hD : ∀ σ, va_D (AX ad) (WX ad cs σ)) {σ : Sg} {x1 : Int32} {x2 : Int32} {x3 : Int32} {x4 : Int32} {x5 : Int32} {res : Int32 × Sg} (hf : f_X9_copy σ x1 x2 x3 x4 x5 = some res) : Met l yX9_copy (wm yX9_copy cX9_copy 8 (some .int)) r_X9_copy (va_Pc [.ref (ad 0), .int x1, .int x2, .int x3, .int x4, .int x5] (BW D (TYX cs) (WX ad cs) σ)) (QI D (TYX cs) (WX ad cs) (AX ad) res.1 res.2) 0 0 (AX ad) := by
  refine q_enter (by decide) hD (Nat.le_of_ble_eq_true rfl) ?_
  intro p e s m below meth c C hr hlk hP hS ls hl
  exact w_X9_copy C hr hlk ⟨Nat.le_of_ble_eq_true rfl, Nat.le_of_ble_eq_true rfl⟩ hf hP hS hl

set_option maxRecDepth 100000 in
set_option maxHeartbeats 4000000 in
theorem w_X9_tell (C : CX p m c cX9_tell 3 s args RX9 D (TYX cs) (WX ad cs) (AX ad)) (hr : meth.sig.returnType = (some .int)) (hlk : meth.locks = false) (hR : 5 ≤ R.frames ∧ 106 ≤ R.locals) {σ : Sg} {x1 : Int32} {res : Int32 × Sg} (hf : f_X9_tell σ x1 = some res) {H : Heap} {locs : List Loc} (hP : va_P D vwCl (WX ad cs σ) H) (hS : va_S (AX ad) s.heap H locs) {ls : Array Slot} (hl : lv_has ls 3 [(0, .ref (ad 0)), (1, .int x1)]) : W p l e R s m args below meth c H locs 0 0 (MQ below (QI D (TYX cs) (WX ad cs) (AX ad) res.1 res.2) args s 0 0 (AX ad)) (F0 m 0 ls []) := by
  have hx := C.1.1
  have hb := C.1.2.1
  unfold f_X9_tell at hf
  refine lv_aload_n hx hb dX9_tell_0 rfl (lv_at hl 0 rfl) ?_
  refine gX9_1 C hP k_262 dX9_tell_1 ?_
  refine lv_iload_n hx hb dX9_tell_4 rfl (lv_at hl 1 rfl) ?_
  obtain ⟨r2, hg1, hf⟩ := zb hf
  try dsimp only at hf
  refine q_callr C hS (q_runV C hP (c_X7_thingAt (l := l) C.2.2.1 hg1) (ci := 6) (As := [.int x1]) (rest := []) ⟨gd_V k_357 k_340 k_341 k_45 k_342, ⟨rfl, rfl⟩, kd_X7_thingAt, ⟨Nat.le_trans (Nat.le_of_ble_eq_true rfl) hR.1, Nat.le_trans (Nat.le_of_ble_eq_true rfl) hR.2⟩⟩ (o := 2) rfl rfl rfl rfl rfl (Nat.le_of_ble_eq_true rfl) hl.1 dX9_tell_5) (fun H locs hP hS => ?_)
  refine q_astoreq_n (lv' := [(2, va_rf (Option.map (fun t => ad (4 + t)) r2)), (0, .ref (ad 0)), (1, .int x1)]) C dX9_tell_8 rfl hl (by decide) rfl (fun ls hl => ?_)
  refine q_aloadq_n C dX9_tell_9 rfl (lv_at hl 0 rfl) ?_
  rcases r2 with _ | t3
  · refine lv_ifnonnullN hx hb dX9_tell_10 ?_
    try dsimp only at hf
    refine lv_iconst (v := (-1)) hx hb dX9_tell_13 (by decide) ?_
    refine lv_goto (tgt := 25) hx hb dX9_tell_14 (by decide) ?_
    exact q_iret C hr hlk hP hS (Option.some.inj hf) dX9_tell_25
  · refine lv_ifnonnull (tgt := 17) hx hb dX9_tell_10 (by decide) ?_
    try dsimp only at hf
    refine lv_aload_n hx hb dX9_tell_17 rfl (lv_at hl 1 rfl) ?_
    refine gX9_6 C hP k_267 dX9_tell_18 ?_
    refine lv_aload_n hx hb dX9_tell_21 rfl (lv_at hl 0 rfl) ?_
    obtain ⟨⟨r5, σ6⟩, hg4, hf⟩ := zb hf
    try dsimp only at hf
    refine q_calli C hS (q_runV C hP (c_X0_telling (l := l) C.2.2.1 hg4) (ci := 0) (As := [.ref (ad (4 + t3))]) (rest := []) ⟨gd_V k_606 k_607 k_608 k_51 k_609, ⟨rfl, rfl⟩, kd_X0_telling, ⟨Nat.le_trans (Nat.le_of_ble_eq_true rfl) hR.1, Nat.le_trans (Nat.le_of_ble_eq_true rfl) hR.2⟩⟩ (o := 23) rfl rfl rfl rfl rfl (Nat.le_of_ble_eq_true rfl) hl.1 dX9_tell_22) (fun H locs hP hS => ?_)
    exact q_iret C hr hlk hP hS (Option.some.inj hf) dX9_tell_25
theorem kd_X9_tell : yX9_tell.cls = RX9 ∧ yX9_tell.cls ≠ "java/lang/invoke/MethodHandle" ∧ yX9_tell.cls ≠ "java/lang/invoke/VarHandle" ∧ (parseMethodDescriptor yX9_tell.desc).map (fun d => d.parameters.length) = some 1 := by decide +kernel
def r_X9_tell : Room := { frames := 5, cells := 0, slots := 0, locals := 106 }
set_option maxRecDepth 100000 in
set_option maxHeartbeats 4000000 in
theorem c_X9_tell {l : Launch} {D : va_G} {ad : Nat → Nat} {cs : Nat → ClassId} (hD : ∀ σ, va_D (AX ad) (WX ad cs σ)) {σ : Sg} {x1 : Int32} {res : Int32 × Sg} (hf : f_X9_tell σ x1 = some res) : Met l yX9_tell (wm yX9_tell cX9_tell 3 (some .int)) r_X9_tell (va_Pc [.ref (ad 0), .int x1] (BW D (TYX cs) (WX ad cs) σ)) (QI D (TYX cs) (WX ad cs) (AX ad) res.1 res.2) 0 0 (AX ad) := by
  refine q_enter (by decide) hD (Nat.le_of_ble_eq_true rfl) ?_
  intro p e s m below meth c C hr hlk hP hS ls hl
  exact w_X9_tell C hr hlk ⟨Nat.le_of_ble_eq_true rfl, Nat.le_of_ble_eq_true rfl⟩ hf hP hS hl

set_option maxRecDepth 100000 in
set_option maxHeartbeats 4000000 in
theorem w_X9_call (C : CX p m c cX9_call 3 s args RX9 D (TYX cs) (WX ad cs) (AX ad)) (hr : meth.sig.returnType = (some .int)) (hlk : meth.locks = false) (hR : 3 ≤ R.frames ∧ 63 ≤ R.locals) {σ : Sg} {x1 : Int32} {res : Int32 × Sg} (hf : f_X9_call σ x1 = some res) {H : Heap} {locs : List Loc} (hP : va_P D vwCl (WX ad cs σ) H) (hS : va_S (AX ad) s.heap H locs) {ls : Array Slot} (hl : lv_has ls 3 [(0, .ref (ad 0)), (1, .int x1)]) : W p l e R s m args below meth c H locs 0 0 (MQ below (QI D (TYX cs) (WX ad cs) (AX ad) res.1 res.2) args s 0 0 (AX ad)) (F0 m 0 ls []) := by
  have hx := C.1.1
  have hb := C.1.2.1
  unfold f_X9_call at hf
  refine lv_aload_n hx hb dX9_call_0 rfl (lv_at hl 0 rfl) ?_
  refine gX9_1 C hP k_262 dX9_call_1 ?_
  refine lv_iload_n hx hb dX9_call_4 rfl (lv_at hl 1 rfl) ?_
  obtain ⟨r2, hg1, hf⟩ := zb hf
  try dsimp only at hf
  refine q_callr C hS (q_runV C hP (c_X7_thingAt (l := l) C.2.2.1 hg1) (ci := 6) (As := [.int x1]) (rest := []) ⟨gd_V k_357 k_340 k_341 k_45 k_342, ⟨rfl, rfl⟩, kd_X7_thingAt, ⟨Nat.le_trans (Nat.le_of_ble_eq_true rfl) hR.1, Nat.le_trans (Nat.le_of_ble_eq_true rfl) hR.2⟩⟩ (o := 2) rfl rfl rfl rfl rfl (Nat.le_of_ble_eq_true rfl) hl.1 dX9_call_5) (fun H locs hP hS => ?_)
  refine q_astoreq_n (lv' := [(2, va_rf (Option.map (fun t => ad (4 + t)) r2)), (0, .ref (ad 0)), (1, .int x1)]) C dX9_call_8 rfl hl (by decide) rfl (fun ls hl => ?_)
  refine q_aloadq_n C dX9_call_9 rfl (lv_at hl 0 rfl) ?_
  rcases r2 with _ | t3
  · refine lv_ifnonnullN hx hb dX9_call_10 ?_
    try dsimp only at hf
    refine lv_iconst (v := (-1)) hx hb dX9_call_13 (by decide) ?_
    refine lv_goto (tgt := 25) hx hb dX9_call_14 (by decide) ?_
    exact q_iret C hr hlk hP hS (Option.some.inj hf) dX9_call_25
  · refine lv_ifnonnull (tgt := 17) hx hb dX9_call_10 (by decide) ?_
    try dsimp only at hf
    refine lv_aload_n hx hb dX9_call_17 rfl (lv_at hl 1 rfl) ?_
    refine gX9_6 C hP k_267 dX9_call_18 ?_
    refine lv_aload_n hx hb dX9_call_21 rfl (lv_at hl 0 rfl) ?_
    obtain ⟨⟨r5, σ6⟩, hg4, hf⟩ := zb hf
    try dsimp only at hf
    refine q_calli C hS (q_runV C hP (c_X0_ringing (l := l) C.2.2.1 hg4) (ci := 0) (As := [.ref (ad (4 + t3))]) (rest := []) ⟨gd_V k_630 k_631 k_632 k_51 k_633, ⟨rfl, rfl⟩, kd_X0_ringing, ⟨Nat.le_trans (Nat.le_of_ble_eq_true rfl) hR.1, Nat.le_trans (Nat.le_of_ble_eq_true rfl) hR.2⟩⟩ (o := 23) rfl rfl rfl rfl rfl (Nat.le_of_ble_eq_true rfl) hl.1 dX9_call_22) (fun H locs hP hS => ?_)
    exact q_iret C hr hlk hP hS (Option.some.inj hf) dX9_call_25
theorem kd_X9_call : yX9_call.cls = RX9 ∧ yX9_call.cls ≠ "java/lang/invoke/MethodHandle" ∧ yX9_call.cls ≠ "java/lang/invoke/VarHandle" ∧ (parseMethodDescriptor yX9_call.desc).map (fun d => d.parameters.length) = some 1 := by decide +kernel
def r_X9_call : Room := { frames := 3, cells := 0, slots := 0, locals := 63 }
set_option maxRecDepth 100000 in
set_option maxHeartbeats 4000000 in
theorem c_X9_call {l : Launch} {D : va_G} {ad : Nat → Nat} {cs : Nat → ClassId} (hD : ∀ σ, va_D (AX ad) (WX ad cs σ)) {σ : Sg} {x1 : Int32} {res : Int32 × Sg} (hf : f_X9_call σ x1 = some res) : Met l yX9_call (wm yX9_call cX9_call 3 (some .int)) r_X9_call (va_Pc [.ref (ad 0), .int x1] (BW D (TYX cs) (WX ad cs) σ)) (QI D (TYX cs) (WX ad cs) (AX ad) res.1 res.2) 0 0 (AX ad) := by
  refine q_enter (by decide) hD (Nat.le_of_ble_eq_true rfl) ?_
  intro p e s m below meth c C hr hlk hP hS ls hl
  exact w_X9_call C hr hlk ⟨Nat.le_of_ble_eq_true rfl, Nat.le_of_ble_eq_true rfl⟩ hf hP hS hl

set_option maxRecDepth 100000 in
set_option maxHeartbeats 4000000 in
theorem w_X9_as (C : CX p m c cX9_as 4 s args RX9 D (TYX cs) (WX ad cs) (AX ad)) (hr : meth.sig.returnType = (some .int)) (hlk : meth.locks = false) (hR : 1 ≤ R.frames ∧ 21 ≤ R.locals) {σ : Sg} {x1 : Int32} {x2 : Int32} {res : Int32 × Sg} (hf : f_X9_as σ x1 x2 = some res) {H : Heap} {locs : List Loc} (hP : va_P D vwCl (WX ad cs σ) H) (hS : va_S (AX ad) s.heap H locs) {ls : Array Slot} (hl : lv_has ls 4 [(0, .ref (ad 0)), (1, .int x1), (2, .int x2)]) : W p l e R s m args below meth c H locs 0 0 (MQ below (QI D (TYX cs) (WX ad cs) (AX ad) res.1 res.2) args s 0 0 (AX ad)) (F0 m 0 ls []) := by
  have hx := C.1.1
  have hb := C.1.2.1
  unfold f_X9_as at hf
  refine lv_aload_n hx hb dX9_as_0 rfl (lv_at hl 0 rfl) ?_
  refine lv_iconst (v := 0) hx hb dX9_as_1 (by decide) ?_
  refine pX9_7 C hP hS k_268 dX9_as_2 (fun H locs hP hS => ?_)
  refine lv_aload_n hx hb dX9_as_5 rfl (lv_at hl 0 rfl) ?_
  refine gX9_1 C hP k_262 dX9_as_6 ?_
  refine lv_iload_n hx hb dX9_as_9 rfl (lv_at hl 1 rfl) ?_
  obtain ⟨r2, hg1, hf⟩ := zb hf
  try dsimp only at hf
  refine q_callr C hS (q_runV C hP (c_X7_thingAt (l := l) C.2.2.1 hg1) (ci := 6) (As := [.int x1]) (rest := []) ⟨gd_V k_357 k_340 k_341 k_45 k_342, ⟨rfl, rfl⟩, kd_X7_thingAt, ⟨Nat.le_trans (Nat.le_of_ble_eq_true rfl) hR.1, Nat.le_trans (Nat.le_of_ble_eq_true rfl) hR.2⟩⟩ (o := 2) rfl rfl rfl rfl rfl (Nat.le_of_ble_eq_true rfl) hl.1 dX9_as_10) (fun H locs hP hS => ?_)
  refine q_astoreq_n (lv' := [(3, va_rf (Option.map (fun t => ad (4 + t)) r2)), (0, .ref (ad 0)), (1, .int x1), (2, .int x2)]) C dX9_as_13 rfl hl (by decide) rfl (fun ls hl => ?_)
  refine q_aloadq_n C dX9_as_14 rfl (lv_at hl 0 rfl) ?_
  rcases r2 with _ | t3
  · refine lv_ifnonnullN hx hb dX9_as_15 ?_
    try dsimp only at hf
    refine lv_iconst (v := (-1)) hx hb dX9_as_18 (by decide) ?_
    exact q_iret C hr hlk hP hS (Option.some.inj hf) dX9_as_19
  · refine lv_ifnonnull (tgt := 20) hx hb dX9_as_15 (by decide) ?_
    try dsimp only at hf
    refine lv_iload_n hx hb dX9_as_20 rfl (lv_at hl 3 rfl) ?_
    refine lv_iconst (v := 2) hx hb dX9_as_21 (by decide) ?_
    obtain ⟨r5, hg4, hf⟩ := zb hf
    try dsimp only at hf
    refine q_calli C hS (q_runS C hP (c_X9_isBeyond (l := l) C.2.2.1 hg4) (As := [.int x2, .int 2]) (rest := []) ⟨gd_S k_294 k_295 k_44 k_296, ⟨rfl, rfl⟩, kd_X9_isBeyond, ⟨Nat.le_trans (Nat.le_of_ble_eq_true rfl) hR.1, Nat.le_trans (Nat.le_of_ble_eq_true rfl) hR.2⟩⟩ rfl rfl (Nat.le_of_ble_eq_true rfl) hl.1 dX9_as_22) (fun H locs hP hS => ?_)
    refine lv_if_eq (tgt := 31) hx hb dX9_as_25 (by decide) (fun c6 => ?_) (fun c6 => ?_)
    · replace hf := zt c6 hf
      refine lv_aload_n hx hb dX9_as_31 rfl (lv_at hl 0 rfl) ?_
      obtain ⟨h7, hf⟩ := zc hf
      refine gX6_1N C hP h7 k_87 dX9_as_32 ?_
      refine lv_iload_n hx hb dX9_as_35 rfl (lv_at hl 3 rfl) ?_
      refine lv_icmp_ge (tgt := 47) hx hb dX9_as_36 (by decide) (fun c8 => ?_) (fun c8 => ?_)
      · replace hf := zt c8 hf
        refine lv_iconst (v := 1) hx hb dX9_as_47 (by decide) ?_
        exact q_iret C hr hlk hP hS (Option.some.inj hf) dX9_as_48
      · replace hf := zf c8 hf
        refine lv_aload_n hx hb dX9_as_39 rfl (lv_at hl 1 rfl) ?_
        refine lv_iconst (v := 2) hx hb dX9_as_40 (by decide) ?_
        obtain ⟨⟨r10, σ11⟩, hg9, hf⟩ := zb hf
        try dsimp only at hf
        refine q_calli C hS (q_runV C hP (c_X9_cameTo (l := l) C.2.2.1 hg9) (ci := 8) (As := [.int 2]) (rest := []) ⟨gd_V k_305 k_307 k_1 k_44 k_308, ⟨rfl, rfl⟩, kd_X9_cameTo, ⟨Nat.le_trans (Nat.le_of_ble_eq_true rfl) hR.1, Nat.le_trans (Nat.le_of_ble_eq_true rfl) hR.2⟩⟩ (o := 0) rfl rfl rfl rfl rfl (Nat.le_of_ble_eq_true rfl) hl.1 dX9_as_41) (fun H locs hP hS => ?_)
        refine lv_goto (tgt := 48) hx hb dX9_as_44 (by decide) ?_
        exact q_iret C hr hlk hP hS (Option.some.inj hf) dX9_as_48
    · replace hf := zf c6 hf
      refine lv_bipush (v := (-2)) hx hb dX9_as_28 (by decide) ?_
      exact q_iret C hr hlk hP hS (Option.some.inj hf) dX9_as_30
theorem kd_X9_as : yX9_as.cls = RX9 ∧ yX9_as.cls ≠ "java/lang/invoke/MethodHandle" ∧ yX9_as.cls ≠ "java/lang/invoke/VarHandle" ∧ (parseMethodDescriptor yX9_as.desc).map (fun d => d.parameters.length) = some 2 := by decide +kernel
def r_X9_as : Room := { frames := 1, cells := 0, slots := 0, locals := 21 }
set_option maxRecDepth 100000 in
set_option maxHeartbeats 4000000 in
theorem c_X9_as {l : Launch} {D : va_G} {ad : Nat → Nat} {cs : Nat → ClassId} (hD : ∀ σ, va_D (AX ad) (WX ad cs σ)) {σ : Sg} {x1 : Int32} {x2 : Int32} {res : Int32 × Sg} (hf : f_X9_as σ x1 x2 = some res) : Met l yX9_as (wm yX9_as cX9_as 4 (some .int)) r_X9_as (va_Pc [.ref (ad 0), .int x1, .int x2] (BW D (TYX cs) (WX ad cs) σ)) (QI D (TYX cs) (WX ad cs) (AX ad) res.1 res.2) 0 0 (AX ad) := by
  refine q_enter (by decide) hD (Nat.le_of_ble_eq_true rfl) ?_
  intro p e s m below meth c C hr hlk hP hS ls hl
  exact w_X9_as C hr hlk ⟨Nat.le_of_ble_eq_true rfl, Nat.le_of_ble_eq_true rfl⟩ hf hP hS hl

set_option maxRecDepth 100000 in
set_option maxHeartbeats 4000000 in
theorem w_X9_trace (C : CX p m c cX9_trace 1 s args RX9 D (TYX cs) (WX ad cs) (AX ad)) (hr : meth.sig.returnType = (some .int)) (hlk : meth.locks = false) (hR : 0 ≤ R.frames ∧ 0 ≤ R.locals) {σ : Sg}  {res : Int32} (hf : f_X9_trace σ = some res) {H : Heap} {locs : List Loc} (hP : va_P D vwCl (WX ad cs σ) H) (hS : va_S (AX ad) s.heap H locs) {ls : Array Slot} (hl : lv_has ls 1 [(0, .ref (ad 0))]) : W p l e R s m args below meth c H locs 0 0 (MQ below (QI D (TYX cs) (WX ad cs) (AX ad) res σ) args s 0 0 (AX ad)) (F0 m 0 ls []) := by
  have hx := C.1.1
  have hb := C.1.2.1
  unfold f_X9_trace at hf
  refine lv_aload_n hx hb dX9_trace_0 rfl (lv_at hl 0 rfl) ?_
  refine gX9_6 C hP k_267 dX9_trace_1 ?_
  refine gX0_0N C hP k_236 dX9_trace_4 ?_
  exact q_iret C hr hlk hP hS (congrArg (fun q => (q, σ)) (Option.some.inj hf)) dX9_trace_7
theorem kd_X9_trace : yX9_trace.cls = RX9 ∧ yX9_trace.cls ≠ "java/lang/invoke/MethodHandle" ∧ yX9_trace.cls ≠ "java/lang/invoke/VarHandle" ∧ (parseMethodDescriptor yX9_trace.desc).map (fun d => d.parameters.length) = some 0 := by decide +kernel
def r_X9_trace : Room := { frames := 0, cells := 0, slots := 0, locals := 0 }
set_option maxRecDepth 100000 in
set_option maxHeartbeats 4000000 in
theorem c_X9_trace {l : Launch} {D : va_G} {ad : Nat → Nat} {cs : Nat → ClassId} (hD : ∀ σ, va_D (AX ad) (WX ad cs σ)) {σ : Sg}  {res : Int32} (hf : f_X9_trace σ = some res) : Met l yX9_trace (wm yX9_trace cX9_trace 1 (some .int)) r_X9_trace (va_Pc [.ref (ad 0)] (BW D (TYX cs) (WX ad cs) σ)) (QI D (TYX cs) (WX ad cs) (AX ad) res σ) 0 0 (AX ad) := by
  refine q_enter (by decide) hD (Nat.le_of_ble_eq_true rfl) ?_
  intro p e s m below meth c C hr hlk hP hS ls hl
  exact w_X9_trace C hr hlk ⟨Nat.le_of_ble_eq_true rfl, Nat.le_of_ble_eq_true rfl⟩ hf hP hS hl

set_option maxRecDepth 100000 in
set_option maxHeartbeats 4000000 in
theorem w_X9_fault (C : CX p m c cX9_fault 1 s args RX9 D (TYX cs) (WX ad cs) (AX ad)) (hr : meth.sig.returnType = (some .int)) (hlk : meth.locks = false) (hR : 0 ≤ R.frames ∧ 0 ≤ R.locals) {σ : Sg}  {res : Int32} (hf : f_X9_fault σ = some res) {H : Heap} {locs : List Loc} (hP : va_P D vwCl (WX ad cs σ) H) (hS : va_S (AX ad) s.heap H locs) {ls : Array Slot} (hl : lv_has ls 1 [(0, .ref (ad 0))]) : W p l e R s m args below meth c H locs 0 0 (MQ below (QI D (TYX cs) (WX ad cs) (AX ad) res σ) args s 0 0 (AX ad)) (F0 m 0 ls []) := by
  have hx := C.1.1
  have hb := C.1.2.1
  unfold f_X9_fault at hf
  refine lv_aload_n hx hb dX9_fault_0 rfl (lv_at hl 0 rfl) ?_
  refine gX9_7 C hP k_268 dX9_fault_1 ?_
  exact q_iret C hr hlk hP hS (congrArg (fun q => (q, σ)) (Option.some.inj hf)) dX9_fault_4
theorem kd_X9_fault : yX9_fault.cls = RX9 ∧ yX9_fault.cls ≠ "java/lang/invoke/MethodHandle" ∧ yX9_fault.cls ≠ "java/lang/invoke/VarHandle" ∧ (parseMethodDescriptor yX9_fault.desc).map (fun d => d.parameters.length) = some 0 := by decide +kernel
def r_X9_fault : Room := { frames := 0, cells := 0, slots := 0, locals := 0 }
set_option maxRecDepth 100000 in
set_option maxHeartbeats 4000000 in
theorem c_X9_fault {l : Launch} {D : va_G} {ad : Nat → Nat} {cs : Nat → ClassId} (hD : ∀ σ, va_D (AX ad) (WX ad cs σ)) {σ : Sg}  {res : Int32} (hf : f_X9_fault σ = some res) : Met l yX9_fault (wm yX9_fault cX9_fault 1 (some .int)) r_X9_fault (va_Pc [.ref (ad 0)] (BW D (TYX cs) (WX ad cs) σ)) (QI D (TYX cs) (WX ad cs) (AX ad) res σ) 0 0 (AX ad) := by
  refine q_enter (by decide) hD (Nat.le_of_ble_eq_true rfl) ?_
  intro p e s m below meth c C hr hlk hP hS ls hl
  exact w_X9_fault C hr hlk ⟨Nat.le_of_ble_eq_true rfl, Nat.le_of_ble_eq_true rfl⟩ hf hP hS hl

set_option maxRecDepth 100000 in
set_option maxHeartbeats 4000000 in
theorem w_X9_many (C : CX p m c cX9_many 2 s args RX9 D (TYX cs) (WX ad cs) (AX ad)) (hr : meth.sig.returnType = (some .int)) (hlk : meth.locks = false) (hR : 0 ≤ R.frames ∧ 0 ≤ R.locals) {σ : Sg} {x1 : Int32} {res : Int32} (hf : f_X9_many σ x1 = some res) {H : Heap} {locs : List Loc} (hP : va_P D vwCl (WX ad cs σ) H) (hS : va_S (AX ad) s.heap H locs) {ls : Array Slot} (hl : lv_has ls 2 [(0, .ref (ad 0)), (1, .int x1)]) : W p l e R s m args below meth c H locs 0 0 (MQ below (QI D (TYX cs) (WX ad cs) (AX ad) res σ) args s 0 0 (AX ad)) (F0 m 0 ls []) := by
  have hx := C.1.1
  have hb := C.1.2.1
  unfold f_X9_many at hf
  refine lv_iload_n hx hb dX9_many_0 rfl (lv_at hl 1 rfl) ?_
  by_cases c1 : x1 = 0
  · replace hf := zt c1 hf
    refine lv_tableIn (off := 31) (tgt := 32) hx hb dX9_many_1 (by rw [c1]; decide) (by rw [c1]; decide) (by rw [c1]; rfl) (by decide) ?_
    refine lv_aload_n hx hb dX9_many_32 rfl (lv_at hl 0 rfl) ?_
    refine gX9_1 C hP k_262 dX9_many_33 ?_
    refine gX7_1N C hP k_117 dX9_many_36 ?_
    exact q_iret C hr hlk hP hS (congrArg (fun q => (q, σ)) (Option.some.inj hf)) dX9_many_39
  · replace hf := zf c1 hf
    by_cases c2 : x1 = 1
    · replace hf := zt c2 hf
      refine lv_tableIn (off := 39) (tgt := 40) hx hb dX9_many_1 (by rw [c2]; decide) (by rw [c2]; decide) (by rw [c2]; rfl) (by decide) ?_
      refine lv_aload_n hx hb dX9_many_40 rfl (lv_at hl 0 rfl) ?_
      refine gX9_2 C hP k_263 dX9_many_41 ?_
      refine gX1_3N C hP k_141 dX9_many_44 ?_
      exact q_iret C hr hlk hP hS (congrArg (fun q => (q, σ)) (Option.some.inj hf)) dX9_many_47
    · replace hf := zf c2 hf
      by_cases c3 : x1 = 2
      · replace hf := zt c3 hf
        refine lv_tableIn (off := 47) (tgt := 48) hx hb dX9_many_1 (by rw [c3]; decide) (by rw [c3]; decide) (by rw [c3]; rfl) (by decide) ?_
        refine lv_aload_n hx hb dX9_many_48 rfl (lv_at hl 0 rfl) ?_
        refine gX9_3 C hP k_264 dX9_many_49 ?_
        refine gX2_2N C hP k_161 dX9_many_52 ?_
        exact q_iret C hr hlk hP hS (congrArg (fun q => (q, σ)) (Option.some.inj hf)) dX9_many_55
      · replace hf := zf c3 hf
        by_cases c4 : x1 = 3
        · replace hf := zt c4 hf
          refine lv_tableIn (off := 55) (tgt := 56) hx hb dX9_many_1 (by rw [c4]; decide) (by rw [c4]; decide) (by rw [c4]; rfl) (by decide) ?_
          refine lv_aload_n hx hb dX9_many_56 rfl (lv_at hl 0 rfl) ?_
          refine gX9_1 C hP k_262 dX9_many_57 ?_
          refine gX7_2N C hP k_123 dX9_many_60 ?_
          exact q_iret C hr hlk hP hS (congrArg (fun q => (q, σ)) (Option.some.inj hf)) dX9_many_63
        · replace hf := zf c4 hf
          have qc1 := lv_neT c1 (a := 0) rfl
          have qc2 := lv_neT c2 (a := 1) rfl
          have qc3 := lv_neT c3 (a := 2) rfl
          have qc4 := lv_neT c4 (a := 3) rfl
          refine lv_tableOut (tgt := 64) hx hb dX9_many_1 (by omega) (by decide) ?_
          refine lv_bipush (v := (-2)) hx hb dX9_many_64 (by decide) ?_
          exact q_iret C hr hlk hP hS (congrArg (fun q => (q, σ)) (Option.some.inj hf)) dX9_many_66
theorem kd_X9_many : yX9_many.cls = RX9 ∧ yX9_many.cls ≠ "java/lang/invoke/MethodHandle" ∧ yX9_many.cls ≠ "java/lang/invoke/VarHandle" ∧ (parseMethodDescriptor yX9_many.desc).map (fun d => d.parameters.length) = some 1 := by decide +kernel
def r_X9_many : Room := { frames := 0, cells := 0, slots := 0, locals := 0 }
set_option maxRecDepth 100000 in
set_option maxHeartbeats 4000000 in
theorem c_X9_many {l : Launch} {D : va_G} {ad : Nat → Nat} {cs : Nat → ClassId} (hD : ∀ σ, va_D (AX ad) (WX ad cs σ)) {σ : Sg} {x1 : Int32} {res : Int32} (hf : f_X9_many σ x1 = some res) : Met l yX9_many (wm yX9_many cX9_many 2 (some .int)) r_X9_many (va_Pc [.ref (ad 0), .int x1] (BW D (TYX cs) (WX ad cs) σ)) (QI D (TYX cs) (WX ad cs) (AX ad) res σ) 0 0 (AX ad) := by
  refine q_enter (by decide) hD (Nat.le_of_ble_eq_true rfl) ?_
  intro p e s m below meth c C hr hlk hP hS ls hl
  exact w_X9_many C hr hlk ⟨Nat.le_of_ble_eq_true rfl, Nat.le_of_ble_eq_true rfl⟩ hf hP hS hl

end

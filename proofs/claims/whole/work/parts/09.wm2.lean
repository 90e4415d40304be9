section
variable {p : Program} {l : Launch} {e : Env} {R : Room} {s : State} {m : MethodId} {args : Array Value} {below : List Frame} {meth : Method} {c : Code} {D : va_G} {ad : Nat → Nat} {cs : Nat → ClassId}
set_option maxRecDepth 100000 in
set_option maxHeartbeats 4000000 in
theorem w_X10_goTo_6 (C : CX p m c cX10_goTo 3 s args RX10 D (TYM cs) (WM ad cs) (AM ad)) (hr : meth.sig.returnType = none) (hlk : meth.locks = false) (hR : 3 ≤ R.frames ∧ 74 ≤ R.locals) {σ : Sg} {x1 : Int32} {x2 : Int32} {res : Sg} {ag6 : Int32 → Sg → Option (Sg)} (hag6 : ∀ (x2 : Int32) (σ : Sg) (H : Heap) (locs : List Loc) (ls : Array Slot), ag6 x2 σ = some res → va_P D vwCl (WM ad cs σ) H → va_S (AM ad) s.heap H locs → lv_has ls 3 [(0, .ref (ad 0)), (1, .int x1), (2, .int x2)] → W p l e R s m args below meth c H locs 0 0 (MQ below (QV D (TYM cs) (WM ad cs) (AM ad) res) args s 0 0 (AM ad)) (F0 m 6 ls [])) (hf : f_X10_goTo_6 ag6 σ x1 x2 = some res) {H : Heap} {locs : List Loc} (hP : va_P D vwCl (WM ad cs σ) H) (hS : va_S (AM ad) s.heap H locs) {ls : Array Slot} (hl : lv_has ls 3 [(0, .ref (ad 0)), (1, .int x1), (2, .int x2)]) : W p l e R s m args below meth c H locs 0 0 (MQ below (QV D (TYM cs) (WM ad cs) (AM ad) res) args s 0 0 (AM ad)) (F0 m 6 ls []) := by
  have hx := C.1.1
  have hb := C.1.2.1
  unfold f_X10_goTo_6 at hf
  refine lv_iload_n hx hb dX10_goTo_6 rfl (lv_at hl 2 rfl) ?_
  refine lv_iload_n hx hb dX10_goTo_7 rfl (lv_at hl 1 rfl) ?_
  refine lv_icmp_gt (tgt := 26) hx hb dX10_goTo_8 (by decide) (fun c1 => ?_) (fun c1 => ?_)
  · replace hf := zt c1 hf
    exact q_vret C hr hlk hP hS (Option.some.inj hf) dX10_goTo_26
  · replace hf := zf c1 hf
    refine lv_aload_n hx hb dX10_goTo_11 rfl (lv_at hl 0 rfl) ?_
    refine lv_aload_n hx hb dX10_goTo_12 rfl (lv_at hl 0 rfl) ?_
    refine lv_iload_n hx hb dX10_goTo_13 rfl (lv_at hl 2 rfl) ?_
    obtain ⟨r3, hg2, hf⟩ := zb hf
    try dsimp only at hf
    refine q_calli C hS (q_runV C hP (c_X10_brokenIn (l := l) C.2.2.1 hg2) (ci := 9) (As := [.int x2]) (rest := [.ref (ad 0)]) ⟨gd_V k_839 k_841 k_27 k_53 k_842, ⟨rfl, rfl⟩, kd_X10_brokenIn, ⟨Nat.le_trans (Nat.le_of_ble_eq_true rfl) hR.1, Nat.le_trans (Nat.le_of_ble_eq_true rfl) hR.2⟩⟩ (o := 0) rfl rfl rfl rfl rfl (Nat.le_of_ble_eq_true rfl) hl.1 dX10_goTo_14) (fun H locs hP hS => ?_)
    obtain ⟨σ5, hg4, hf⟩ := zb hf
    try dsimp only at hf
    refine q_callv C hS (q_runV C hP (c_X10_goHour (l := l) C.2.2.1 hg4) (ci := 9) (As := [.int r3]) (rest := []) ⟨gd_V k_843 k_845 k_28 k_53 k_846, ⟨rfl, rfl⟩, kd_X10_goHour, ⟨Nat.le_trans (Nat.le_of_ble_eq_true rfl) hR.1, Nat.le_trans (Nat.le_of_ble_eq_true rfl) hR.2⟩⟩ (o := 0) rfl rfl rfl rfl rfl (Nat.le_of_ble_eq_true rfl) hl.1 dX10_goTo_17) (fun H locs hP hS => ?_)
    refine lv_iinc (v := x2 + 1) (lv' := [(2, .int (x2 + 1)), (0, .ref (ad 0)), (1, .int x1)]) hx hb dX10_goTo_20 hl (k := 2) rfl rfl (by decide) rfl (fun ls hl => ?_)
    refine lv_goto (tgt := 6) hx hb dX10_goTo_23 (by decide) ?_
    exact hag6 _ _ _ _ _ hf hP hS (lv_sub hl [1, 2, 0] rfl)
set_option maxRecDepth 100000 in
set_option maxHeartbeats 4000000 in
theorem wl_X10_goTo_6 (C : CX p m c cX10_goTo 3 s args RX10 D (TYM cs) (WM ad cs) (AM ad)) (hr : meth.sig.returnType = none) (hlk : meth.locks = false) (hR : 3 ≤ R.frames ∧ 74 ≤ R.locals) {x1 : Int32} {res : Sg} : ∀ n : Nat, ∀ (x2 : Int32) (σ : Sg) (H : Heap) (locs : List Loc) (ls : Array Slot), l_X10_goTo_6 x1 n x2 σ = some res → va_P D vwCl (WM ad cs σ) H → va_S (AM ad) s.heap H locs → lv_has ls 3 [(0, .ref (ad 0)), (1, .int x1), (2, .int x2)] → W p l e R s m args below meth c H locs 0 0 (MQ below (QV D (TYM cs) (WM ad cs) (AM ad) res) args s 0 0 (AM ad)) (F0 m 6 ls []) := by
  intro n
  induction n with
  | zero => intro x2 σ H locs ls hf; cases hf
  | succ n ih =>
    intro x2 σ H locs ls hf hP hS hl
    exact w_X10_goTo_6 C hr hlk hR (ag6 := l_X10_goTo_6 x1 n) ih hf hP hS hl
set_option maxRecDepth 100000 in
set_option maxHeartbeats 4000000 in
theorem w_X10_goTo (C : CX p m c cX10_goTo 3 s args RX10 D (TYM cs) (WM ad cs) (AM ad)) (hr : meth.sig.returnType = none) (hlk : meth.locks = false) (hR : 3 ≤ R.frames ∧ 74 ≤ R.locals) {σ : Sg} {x1 : Int32} {res : Sg} (hf : f_X10_goTo σ x1 = some res) {H : Heap} {locs : List Loc} (hP : va_P D vwCl (WM ad cs σ) H) (hS : va_S (AM ad) s.heap H locs) {ls : Array Slot} (hl : lv_has ls 3 [(0, .ref (ad 0)), (1, .int x1)]) : W p l e R s m args below meth c H locs 0 0 (MQ below (QV D (TYM cs) (WM ad cs) (AM ad) res) args s 0 0 (AM ad)) (F0 m 0 ls []) := by
  have hx := C.1.1
  have hb := C.1.2.1
  unfold f_X10_goTo at hf
  refine lv_aload_n hx hb dX10_goTo_0 rfl (lv_at hl 0 rfl) ?_
  obtain ⟨σ2, hg1, hf⟩ := zb hf
  try dsimp only at hf
  refine q_callv C hS (q_runV C hP (c_X10_beginHours (l := l) C.2.2.1 hg1) (ci := 9) (As := []) (rest := []) ⟨gd_V k_835 k_837 k_26 k_53 k_838, ⟨rfl, rfl⟩, kd_X10_beginHours, ⟨Nat.le_trans (Nat.le_of_ble_eq_true rfl) hR.1, Nat.le_trans (Nat.le_of_ble_eq_true rfl) hR.2⟩⟩ (o := 0) rfl rfl rfl rfl rfl (Nat.le_of_ble_eq_true rfl) hl.1 dX10_goTo_1) (fun H locs hP hS => ?_)
  refine lv_iconst (v := 0) hx hb dX10_goTo_4 (by decide) ?_
  refine lv_istore_n (lv' := [(2, .int 0), (0, .ref (ad 0)), (1, .int x1)]) hx hb dX10_goTo_5 rfl hl (by decide) rfl (fun ls hl => ?_)
  exact wl_X10_goTo_6 C hr hlk hR fu _ _ _ _ _ hf hP hS (lv_sub hl [1, 2, 0] rfl)
theorem kd_X10_goTo : yX10_goTo.cls = RX10 ∧ yX10_goTo.cls ≠ "java/lang/invoke/MethodHandle" ∧ yX10_goTo.cls ≠ "java/lang/invoke/VarHandle" ∧ (parseMethodDescriptor yX10_goTo.desc).map (fun d => d.parameters.length) = some 1 := by decide +kernel
def r_X10_goTo : Room := { frames := 3, cells := 0, slots := 0, locals := 74 }
set_option maxRecDepth 100000 in
set_option maxHeartbeats 4000000 in
theorem c_X10_goTo {l : Launch} {D : va_G} {ad : Nat → Nat} {cs : Nat → ClassId} (hD : ∀ σ, va_D (AM ad) (WM ad cs σ)) {σ : Sg} {x1 : Int32} {res : Sg} (hf : f_X10_goTo σ x1 = some res) : Met l yX10_goTo (wm yX10_goTo cX10_goTo 3 none) r_X10_goTo (va_Pc [.ref (ad 0), .int x1] (BW D (TYM cs) (WM ad cs) σ)) (QV D (TYM cs) (WM ad cs) (AM ad) res) 0 0 (AM ad) := by
  refine q_enter (by decide) hD (Nat.le_of_ble_eq_true rfl) ?_
  intro p e s m below meth c C hr hlk hP hS ls hl
  exact w_X10_goTo C hr hlk ⟨Nat.le_of_ble_eq_true rfl, Nat.le_of_ble_eq_true rfl⟩ hf hP hS hl

set_option maxRecDepth 100000 in
set_option maxHeartbeats 4000000 in
theorem w_X10_goFirst (C : CX p m c cX10_goFirst 2 s args RX10 D (TYM cs) (WM ad cs) (AM ad)) (hr : meth.sig.returnType = none) (hlk : meth.locks = false) (hR : 3 ≤ R.frames ∧ 74 ≤ R.locals) {σ : Sg} {x1 : Int32} {res : Sg} (hf : f_X10_goFirst σ x1 = some res) {H : Heap} {locs : List Loc} (hP : va_P D vwCl (WM ad cs σ) H) (hS : va_S (AM ad) s.heap H locs) {ls : Array Slot} (hl : lv_has ls 2 [(0, .ref (ad 0)), (1, .int x1)]) : W p l e R s m args below meth c H locs 0 0 (MQ below (QV D (TYM cs) (WM ad cs) (AM ad) res) args s 0 0 (AM ad)) (F0 m 0 ls []) := by
  have hx := C.1.1
  have hb := C.1.2.1
  unfold f_X10_goFirst at hf
  refine lv_aload_n hx hb dX10_goFirst_0 rfl (lv_at hl 0 rfl) ?_
  obtain ⟨σ2, hg1, hf⟩ := zb hf
  try dsimp only at hf
  refine q_callv C hS (q_runV C hP (c_X10_beginHours (l := l) C.2.2.1 hg1) (ci := 9) (As := []) (rest := []) ⟨gd_V k_835 k_837 k_26 k_53 k_838, ⟨rfl, rfl⟩, kd_X10_beginHours, ⟨Nat.le_trans (Nat.le_of_ble_eq_true rfl) hR.1, Nat.le_trans (Nat.le_of_ble_eq_true rfl) hR.2⟩⟩ (o := 0) rfl rfl rfl rfl rfl (Nat.le_of_ble_eq_true rfl) hl.1 dX10_goFirst_1) (fun H locs hP hS => ?_)
  refine lv_aload_n hx hb dX10_goFirst_4 rfl (lv_at hl 0 rfl) ?_
  refine lv_iload_n hx hb dX10_goFirst_5 rfl (lv_at hl 1 rfl) ?_
  obtain ⟨σ4, hg3, hf⟩ := zb hf
  try dsimp only at hf
  refine q_callv C hS (q_runV C hP (c_X10_goHour (l := l) C.2.2.1 hg3) (ci := 9) (As := [.int x1]) (rest := []) ⟨gd_V k_843 k_845 k_28 k_53 k_846, ⟨rfl, rfl⟩, kd_X10_goHour, ⟨Nat.le_trans (Nat.le_of_ble_eq_true rfl) hR.1, Nat.le_trans (Nat.le_of_ble_eq_true rfl) hR.2⟩⟩ (o := 0) rfl rfl rfl rfl rfl (Nat.le_of_ble_eq_true rfl) hl.1 dX10_goFirst_6) (fun H locs hP hS => ?_)
  exact q_vret C hr hlk hP hS (Option.some.inj hf) dX10_goFirst_9
theorem kd_X10_goFirst : yX10_goFirst.cls = RX10 ∧ yX10_goFirst.cls ≠ "java/lang/invoke/MethodHandle" ∧ yX10_goFirst.cls ≠ "java/lang/invoke/VarHandle" ∧ (parseMethodDescriptor yX10_goFirst.desc).map (fun d => d.parameters.length) = some 1 := by decide +kernel
def r_X10_goFirst : Room := { frames := 3, cells := 0, slots := 0, locals := 74 }
set_option maxRecDepth 100000 in
set_option maxHeartbeats 4000000 in
theorem c_X10_goFirst {l : Launch} {D : va_G} {ad : Nat → Nat} {cs : Nat → ClassId} (hD : ∀ σ, va_D (AM ad) (WM ad cs σ)) {σ : Sg} {x1 : Int32} {res : Sg} (hf : f_X10_goFirst σ x1 = some res) : Met l yX10_goFirst (wm yX10_goFirst cX10_goFirst 2 none) r_X10_goFirst (va_Pc [.ref (ad 0), .int x1] (BW D (TYM cs) (WM ad cs) σ)) (QV D (TYM cs) (WM ad cs) (AM ad) res) 0 0 (AM ad) := by
  refine q_enter (by decide) hD (Nat.le_of_ble_eq_true rfl) ?_
  intro p e s m below meth c C hr hlk hP hS ls hl
  exact w_X10_goFirst C hr hlk ⟨Nat.le_of_ble_eq_true rfl, Nat.le_of_ble_eq_true rfl⟩ hf hP hS hl

set_option maxRecDepth 100000 in
set_option maxHeartbeats 4000000 in
theorem w_X10_undoneNow_29 (C : CX p m c cX10_undoneNow 3 s args RX10 D (TYM cs) (WM ad cs) (AM ad)) (hr : meth.sig.returnType = (some .int)) (hlk : meth.locks = false) (hR : 0 ≤ R.frames ∧ 0 ≤ R.locals) {σ : Sg} {x2 : Int32} {s0 : Int32} {s1 : Int32} {res : Int32} {ag4 : Int32 → Int32 → Option (Int32)} (hag4 : ∀ (x1 : Int32) (x2 : Int32) (H : Heap) (locs : List Loc) (ls : Array Slot), ag4 x1 x2 = some res → va_P D vwCl (WM ad cs σ) H → va_S (AM ad) s.heap H locs → lv_has ls 3 [(0, .ref (ad 0)), (1, .int x1), (2, .int x2)] → W p l e R s m args below meth c H locs 0 0 (MQ below (QI D (TYM cs) (WM ad cs) (AM ad) res σ) args s 0 0 (AM ad)) (F0 m 4 ls [])) (hf : f_X10_undoneNow_29 ag4 σ x2 s0 s1 = some res) {H : Heap} {locs : List Loc} (hP : va_P D vwCl (WM ad cs σ) H) (hS : va_S (AM ad) s.heap H locs) {ls : Array Slot} (hl : lv_has ls 3 [(0, .ref (ad 0)), (2, .int x2)]) : W p l e R s m args below meth c H locs 0 0 (MQ below (QI D (TYM cs) (WM ad cs) (AM ad) res σ) args s 0 0 (AM ad)) (F0 m 29 ls [.int s0, .int s1]) := by
  have hx := C.1.1
  have hb := C.1.2.1
  unfold f_X10_undoneNow_29 at hf
  refine lv_ior hx hb dX10_undoneNow_29 ?_
  refine lv_istore_n (lv' := [(1, .int (s1 ||| s0)), (0, .ref (ad 0)), (2, .int x2)]) hx hb dX10_undoneNow_30 rfl hl (by decide) rfl (fun ls hl => ?_)
  refine lv_iinc (v := x2 + 1) (lv' := [(2, .int (x2 + 1)), (1, .int (s1 ||| s0)), (0, .ref (ad 0))]) hx hb dX10_undoneNow_31 hl (k := 2) rfl rfl (by decide) rfl (fun ls hl => ?_)
  refine lv_goto (tgt := 4) hx hb dX10_undoneNow_34 (by decide) ?_
  exact hag4 _ _ _ _ _ hf hP hS (lv_sub hl [2, 1, 0] rfl)
set_option maxRecDepth 100000 in
set_option maxHeartbeats 4000000 in
theorem w_X10_undoneNow_4 (C : CX p m c cX10_undoneNow 3 s args RX10 D (TYM cs) (WM ad cs) (AM ad)) (hr : meth.sig.returnType = (some .int)) (hlk : meth.locks = false) (hR : 0 ≤ R.frames ∧ 0 ≤ R.locals) {σ : Sg} {x1 : Int32} {x2 : Int32} {res : Int32} {ag4 : Int32 → Int32 → Option (Int32)} (hag4 : ∀ (x1 : Int32) (x2 : Int32) (H : Heap) (locs : List Loc) (ls : Array Slot), ag4 x1 x2 = some res → va_P D vwCl (WM ad cs σ) H → va_S (AM ad) s.heap H locs → lv_has ls 3 [(0, .ref (ad 0)), (1, .int x1), (2, .int x2)] → W p l e R s m args below meth c H locs 0 0 (MQ below (QI D (TYM cs) (WM ad cs) (AM ad) res σ) args s 0 0 (AM ad)) (F0 m 4 ls [])) (hf : f_X10_undoneNow_4 ag4 σ x1 x2 = some res) {H : Heap} {locs : List Loc} (hP : va_P D vwCl (WM ad cs σ) H) (hS : va_S (AM ad) s.heap H locs) {ls : Array Slot} (hl : lv_has ls 3 [(0, .ref (ad 0)), (1, .int x1), (2, .int x2)]) : W p l e R s m args below meth c H locs 0 0 (MQ below (QI D (TYM cs) (WM ad cs) (AM ad) res σ) args s 0 0 (AM ad)) (F0 m 4 ls []) := by
  have hx := C.1.1
  have hb := C.1.2.1
  unfold f_X10_undoneNow_4 at hf
  refine lv_iload_n hx hb dX10_undoneNow_4 rfl (lv_at hl 2 rfl) ?_
  refine lv_aload_n hx hb dX10_undoneNow_5 rfl (lv_at hl 0 rfl) ?_
  refine gX10_1 C hP k_665 dX10_undoneNow_6 ?_
  refine lv_icmp_ge (tgt := 37) hx hb dX10_undoneNow_9 (by decide) (fun c1 => ?_) (fun c1 => ?_)
  · replace hf := zt c1 hf
    refine lv_iload_n hx hb dX10_undoneNow_37 rfl (lv_at hl 1 rfl) ?_
    exact q_iret C hr hlk hP hS (congrArg (fun q => (q, σ)) (Option.some.inj hf)) dX10_undoneNow_38
  · replace hf := zf c1 hf
    refine lv_iload_n hx hb dX10_undoneNow_12 rfl (lv_at hl 1 rfl) ?_
    refine lv_aload_n hx hb dX10_undoneNow_13 rfl (lv_at hl 0 rfl) ?_
    refine gX10_17 C hP k_681 dX10_undoneNow_14 ?_
    refine lv_iload_n hx hb dX10_undoneNow_17 rfl (lv_at hl 2 rfl) ?_
    obtain ⟨h2, hf⟩ := zc hf
    refine aldM C hP (n := 8) rfl h2 dX10_undoneNow_18 ?_
    refine lv_if_ge (tgt := 28) hx hb dX10_undoneNow_19 (by decide) (fun c3 => ?_) (fun c3 => ?_)
    · replace hf := zt c3 hf
      refine lv_iconst (v := 0) hx hb dX10_undoneNow_28 (by decide) ?_
      exact w_X10_undoneNow_29 C hr hlk hR hag4 hf hP hS (lv_sub hl [0, 2] rfl)
    · replace hf := zf c3 hf
      refine lv_iconst (v := 1) hx hb dX10_undoneNow_22 (by decide) ?_
      refine lv_iload_n hx hb dX10_undoneNow_23 rfl (lv_at hl 2 rfl) ?_
      refine lv_ishl hx hb dX10_undoneNow_24 ?_
      refine lv_goto (tgt := 29) hx hb dX10_undoneNow_25 (by decide) ?_
      exact w_X10_undoneNow_29 C hr hlk hR hag4 hf hP hS (lv_sub hl [0, 2] rfl)
set_option maxRecDepth 100000 in
set_option maxHeartbeats 4000000 in
theorem wl_X10_undoneNow_4 (C : CX p m c cX10_undoneNow 3 s args RX10 D (TYM cs) (WM ad cs) (AM ad)) (hr : meth.sig.returnType = (some .int)) (hlk : meth.locks = false) (hR : 0 ≤ R.frames ∧ 0 ≤ R.locals) {σ : Sg}  {res : Int32} : ∀ n : Nat, ∀ (x1 : Int32) (x2 : Int32) (H : Heap) (locs : List Loc) (ls : Array Slot), l_X10_undoneNow_4 σ n x1 x2 = some res → va_P D vwCl (WM ad cs σ) H → va_S (AM ad) s.heap H locs → lv_has ls 3 [(0, .ref (ad 0)), (1, .int x1), (2, .int x2)] → W p l e R s m args below meth c H locs 0 0 (MQ below (QI D (TYM cs) (WM ad cs) (AM ad) res σ) args s 0 0 (AM ad)) (F0 m 4 ls []) := by
  intro n
  induction n with
  | zero => intro x1 x2 H locs ls hf; cases hf
  | succ n ih =>
    intro x1 x2 H locs ls hf hP hS hl
    exact w_X10_undoneNow_4 C hr hlk hR (ag4 := l_X10_undoneNow_4 σ n) ih hf hP hS hl
set_option maxRecDepth 100000 in
set_option maxHeartbeats 4000000 in
theorem w_X10_undoneNow (C : CX p m c cX10_undoneNow 3 s args RX10 D (TYM cs) (WM ad cs) (AM ad)) (hr : meth.sig.returnType = (some .int)) (hlk : meth.locks = false) (hR : 0 ≤ R.frames ∧ 0 ≤ R.locals) {σ : Sg}  {res : Int32} (hf : f_X10_undoneNow σ = some res) {H : Heap} {locs : List Loc} (hP : va_P D vwCl (WM ad cs σ) H) (hS : va_S (AM ad) s.heap H locs) {ls : Array Slot} (hl : lv_has ls 3 [(0, .ref (ad 0))]) : W p l e R s m args below meth c H locs 0 0 (MQ below (QI D (TYM cs) (WM ad cs) (AM ad) res σ) args s 0 0 (AM ad)) (F0 m 0 ls []) := by
  have hx := C.1.1
  have hb := C.1.2.1
  unfold f_X10_undoneNow at hf
  refine lv_iconst (v := 0) hx hb dX10_undoneNow_0 (by decide) ?_
  refine lv_istore_n (lv' := [(1, .int 0), (0, .ref (ad 0))]) hx hb dX10_undoneNow_1 rfl hl (by decide) rfl (fun ls hl => ?_)
  refine lv_iconst (v := 0) hx hb dX10_undoneNow_2 (by decide) ?_
  refine lv_istore_n (lv' := [(2, .int 0), (1, .int 0), (0, .ref (ad 0))]) hx hb dX10_undoneNow_3 rfl hl (by decide) rfl (fun ls hl => ?_)
  exact wl_X10_undoneNow_4 C hr hlk hR fu _ _ _ _ _ hf hP hS (lv_sub hl [2, 1, 0] rfl)
theorem kd_X10_undoneNow : yX10_undoneNow.cls = RX10 ∧ yX10_undoneNow.cls ≠ "java/lang/invoke/MethodHandle" ∧ yX10_undoneNow.cls ≠ "java/lang/invoke/VarHandle" ∧ (parseMethodDescriptor yX10_undoneNow.desc).map (fun d => d.parameters.length) = some 0 := by decide +kernel
def r_X10_undoneNow : Room := { frames := 0, cells := 0, slots := 0, locals := 0 }
set_option maxRecDepth 100000 in
set_option maxHeartbeats 4000000 in
theorem c_X10_undoneNow {l : Launch} {D : va_G} {ad : Nat → Nat} {cs : Nat → ClassId} (hD : ∀ σ, va_D (AM ad) (WM ad cs σ)) {σ : Sg}  {res : Int32} (hf : f_X10_undoneNow σ = some res) : Met l yX10_undoneNow (wm yX10_undoneNow cX10_undoneNow 3 (some .int)) r_X10_undoneNow (va_Pc [.ref (ad 0)] (BW D (TYM cs) (WM ad cs) σ)) (QI D (TYM cs) (WM ad cs) (AM ad) res σ) 0 0 (AM ad) := by
  refine q_enter (by decide) hD (Nat.le_of_ble_eq_true rfl) ?_
  intro p e s m below meth c C hr hlk hP hS ls hl
  exact w_X10_undoneNow C hr hlk ⟨Nat.le_of_ble_eq_true rfl, Nat.le_of_ble_eq_true rfl⟩ hf hP hS hl

set_option maxRecDepth 100000 in
set_option maxHeartbeats 4000000 in
theorem w_X10_servesNow_62 (C : CX p m c cX10_servesNow 5 s args RX10 D (TYM cs) (WM ad cs) (AM ad)) (hr : meth.sig.returnType = (some .int)) (hlk : meth.locks = false) (hR : 1 ≤ R.frames ∧ 22 ≤ R.locals) {σ : Sg} {x2 : Int32} {s0 : Int32} {s1 : Int32} {res : Int32} {ag4 : Int32 → Int32 → Option (Int32)} (hag4 : ∀ (x1 : Int32) (x2 : Int32) (H : Heap) (locs : List Loc) (ls : Array Slot), ag4 x1 x2 = some res → va_P D vwCl (WM ad cs σ) H → va_S (AM ad) s.heap H locs → lv_has ls 5 [(0, .ref (ad 0)), (1, .int x1), (2, .int x2)] → W p l e R s m args below meth c H locs 0 0 (MQ below (QI D (TYM cs) (WM ad cs) (AM ad) res σ) args s 0 0 (AM ad)) (F0 m 4 ls [])) (hf : f_X10_servesNow_62 ag4 σ x2 s0 s1 = some res) {H : Heap} {locs : List Loc} (hP : va_P D vwCl (WM ad cs σ) H) (hS : va_S (AM ad) s.heap H locs) {ls : Array Slot} (hl : lv_has ls 5 [(0, .ref (ad 0)), (2, .int x2)]) : W p l e R s m args below meth c H locs 0 0 (MQ below (QI D (TYM cs) (WM ad cs) (AM ad) res σ) args s 0 0 (AM ad)) (F0 m 62 ls [.int s0, .int s1]) := by
  have hx := C.1.1
  have hb := C.1.2.1
  unfold f_X10_servesNow_62 at hf
  refine lv_iadd hx hb dX10_servesNow_62 ?_
  refine lv_istore_n (lv' := [(1, .int (s1 + s0)), (0, .ref (ad 0)), (2, .int x2)]) hx hb dX10_servesNow_63 rfl hl (by decide) rfl (fun ls hl => ?_)
  refine lv_iinc (v := x2 + 1) (lv' := [(2, .int (x2 + 1)), (1, .int (s1 + s0)), (0, .ref (ad 0))]) hx hb dX10_servesNow_64 hl (k := 2) rfl rfl (by decide) rfl (fun ls hl => ?_)
  refine lv_goto (tgt := 4) hx hb dX10_servesNow_67 (by decide) ?_
  exact hag4 _ _ _ _ _ hf hP hS (lv_sub hl [2, 1, 0] rfl)
set_option maxRecDepth 100000 in
set_option maxHeartbeats 4000000 in
theorem w_X10_servesNow_35 (C : CX p m c cX10_servesNow 5 s args RX10 D (TYM cs) (WM ad cs) (AM ad)) (hr : meth.sig.returnType = (some .int)) (hlk : meth.locks = false) (hR : 1 ≤ R.frames ∧ 22 ≤ R.locals) {σ : Sg} {x1 : Int32} {x2 : Int32} {x3 : Int32} {s0 : Int32} {res : Int32} {ag4 : Int32 → Int32 → Option (Int32)} (hag4 : ∀ (x1 : Int32) (x2 : Int32) (H : Heap) (locs : List Loc) (ls : Array Slot), ag4 x1 x2 = some res → va_P D vwCl (WM ad cs σ) H → va_S (AM ad) s.heap H locs → lv_has ls 5 [(0, .ref (ad 0)), (1, .int x1), (2, .int x2)] → W p l e R s m args below meth c H locs 0 0 (MQ below (QI D (TYM cs) (WM ad cs) (AM ad) res σ) args s 0 0 (AM ad)) (F0 m 4 ls [])) (hf : f_X10_servesNow_35 ag4 σ x1 x2 x3 s0 = some res) {H : Heap} {locs : List Loc} (hP : va_P D vwCl (WM ad cs σ) H) (hS : va_S (AM ad) s.heap H locs) {ls : Array Slot} (hl : lv_has ls 5 [(0, .ref (ad 0)), (1, .int x1), (2, .int x2), (3, .int x3)]) : W p l e R s m args below meth c H locs 0 0 (MQ below (QI D (TYM cs) (WM ad cs) (AM ad) res σ) args s 0 0 (AM ad)) (F0 m 35 ls [.int s0]) := by
  have hx := C.1.1
  have hb := C.1.2.1
  unfold f_X10_servesNow_35 at hf
  refine lv_istore (lv' := [(4, .int s0), (0, .ref (ad 0)), (1, .int x1), (2, .int x2), (3, .int x3)]) hx hb dX10_servesNow_35 hl (by decide) rfl (fun ls hl => ?_)
  refine lv_iload_n hx hb dX10_servesNow_37 rfl (lv_at hl 2 rfl) ?_
  refine lv_iload_n hx hb dX10_servesNow_38 rfl (lv_at hl 4 rfl) ?_
  refine lv_iload_n hx hb dX10_servesNow_39 rfl (lv_at hl 3 rfl) ?_
  refine lv_icmp_ne (tgt := 48) hx hb dX10_servesNow_40 (by decide) (fun c1 => ?_) (fun c1 => ?_)
  · replace hf := zf c1 hf
    refine lv_iload hx hb dX10_servesNow_48 (lv_at hl 0 rfl) ?_
    refine lv_bipush (v := 99) hx hb dX10_servesNow_50 (by decide) ?_
    refine lv_icmp_le (tgt := 60) hx hb dX10_servesNow_52 (by decide) (fun c2 => ?_) (fun c2 => ?_)
    · replace hf := zt c2 hf
      refine lv_iload hx hb dX10_servesNow_60 (lv_at hl 0 rfl) ?_
      exact w_X10_servesNow_62 C hr hlk hR hag4 hf hP hS (lv_sub hl [1, 3] rfl)
    · replace hf := zf c2 hf
      refine lv_bipush (v := 99) hx hb dX10_servesNow_55 (by decide) ?_
      refine lv_goto (tgt := 62) hx hb dX10_servesNow_57 (by decide) ?_
      exact w_X10_servesNow_62 C hr hlk hR hag4 hf hP hS (lv_sub hl [1, 3] rfl)
  · replace hf := zt c1 hf
    refine lv_bipush (v := 100) hx hb dX10_servesNow_43 (by decide) ?_
    refine lv_goto (tgt := 62) hx hb dX10_servesNow_45 (by decide) ?_
    exact w_X10_servesNow_62 C hr hlk hR hag4 hf hP hS (lv_sub hl [1, 3] rfl)
set_option maxRecDepth 100000 in
set_option maxHeartbeats 4000000 in
theorem w_X10_servesNow_4 (C : CX p m c cX10_servesNow 5 s args RX10 D (TYM cs) (WM ad cs) (AM ad)) (hr : meth.sig.returnType = (some .int)) (hlk : meth.locks = false) (hR : 1 ≤ R.frames ∧ 22 ≤ R.locals) {σ : Sg} {x1 : Int32} {x2 : Int32} {res : Int32} {ag4 : Int32 → Int32 → Option (Int32)} (hag4 : ∀ (x1 : Int32) (x2 : Int32) (H : Heap) (locs : List Loc) (ls : Array Slot), ag4 x1 x2 = some res → va_P D vwCl (WM ad cs σ) H → va_S (AM ad) s.heap H locs → lv_has ls 5 [(0, .ref (ad 0)), (1, .int x1), (2, .int x2)] → W p l e R s m args below meth c H locs 0 0 (MQ below (QI D (TYM cs) (WM ad cs) (AM ad) res σ) args s 0 0 (AM ad)) (F0 m 4 ls [])) (hf : f_X10_servesNow_4 ag4 σ x1 x2 = some res) {H : Heap} {locs : List Loc} (hP : va_P D vwCl (WM ad cs σ) H) (hS : va_S (AM ad) s.heap H locs) {ls : Array Slot} (hl : lv_has ls 5 [(0, .ref (ad 0)), (1, .int x1), (2, .int x2)]) : W p l e R s m args below meth c H locs 0 0 (MQ below (QI D (TYM cs) (WM ad cs) (AM ad) res σ) args s 0 0 (AM ad)) (F0 m 4 ls []) := by
  have hx := C.1.1
  have hb := C.1.2.1
  unfold f_X10_servesNow_4 at hf
  refine lv_iload_n hx hb dX10_servesNow_4 rfl (lv_at hl 2 rfl) ?_
  refine lv_aload_n hx hb dX10_servesNow_5 rfl (lv_at hl 0 rfl) ?_
  refine gX10_1 C hP k_665 dX10_servesNow_6 ?_
  refine lv_icmp_ge (tgt := 70) hx hb dX10_servesNow_9 (by decide) (fun c1 => ?_) (fun c1 => ?_)
  · replace hf := zt c1 hf
    refine lv_iload_n hx hb dX10_servesNow_70 rfl (lv_at hl 1 rfl) ?_
    exact q_iret C hr hlk hP hS (congrArg (fun q => (q, σ)) (Option.some.inj hf)) dX10_servesNow_71
  · replace hf := zf c1 hf
    refine lv_aload_n hx hb dX10_servesNow_12 rfl (lv_at hl 0 rfl) ?_
    refine gX10_17 C hP k_681 dX10_servesNow_13 ?_
    refine lv_iload_n hx hb dX10_servesNow_16 rfl (lv_at hl 2 rfl) ?_
    obtain ⟨h2, hf⟩ := zc hf
    refine aldM C hP (n := 8) rfl h2 dX10_servesNow_17 ?_
    refine lv_istore_n (lv' := [(3, .int (σ 12 x2.toNatClampNeg)), (0, .ref (ad 0)), (1, .int x1), (2, .int x2)]) hx hb dX10_servesNow_18 rfl hl (by decide) rfl (fun ls hl => ?_)
    refine lv_iload_n hx hb dX10_servesNow_19 rfl (lv_at hl 0 rfl) ?_
    refine lv_if_ge (tgt := 27) hx hb dX10_servesNow_20 (by decide) (fun c3 => ?_) (fun c3 => ?_)
    · replace hf := zt c3 hf
      refine lv_bipush (v := 10) hx hb dX10_servesNow_27 (by decide) ?_
      refine lv_aload_n hx hb dX10_servesNow_29 rfl (lv_at hl 1 rfl) ?_
      refine lv_iload_n hx hb dX10_servesNow_30 rfl (lv_at hl 0 rfl) ?_
      obtain ⟨r5, hg4, hf⟩ := zb hf
      try dsimp only at hf
      refine q_calli C hS (q_runV C hP (c_X10_goodOf (l := l) C.2.2.1 hg4) (ci := 9) (As := [.int (σ 12 x2.toNatClampNeg)]) (rest := [.int 10]) ⟨gd_V k_803 k_805 k_24 k_53 k_806, ⟨rfl, rfl⟩, kd_X10_goodOf, ⟨Nat.le_trans (Nat.le_of_ble_eq_true rfl) hR.1, Nat.le_trans (Nat.le_of_ble_eq_true rfl) hR.2⟩⟩ (o := 0) rfl rfl rfl rfl rfl (Nat.le_of_ble_eq_true rfl) hl.1 dX10_servesNow_31) (fun H locs hP hS => ?_)
      refine lv_imul hx hb dX10_servesNow_34 ?_
      exact w_X10_servesNow_35 C hr hlk hR hag4 hf hP hS (lv_sub hl [1, 2, 3, 0] rfl)
    · replace hf := zf c3 hf
      refine lv_iconst (v := 0) hx hb dX10_servesNow_23 (by decide) ?_
      refine lv_goto (tgt := 35) hx hb dX10_servesNow_24 (by decide) ?_
      exact w_X10_servesNow_35 C hr hlk hR hag4 hf hP hS (lv_sub hl [1, 2, 3, 0] rfl)
set_option maxRecDepth 100000 in
set_option maxHeartbeats 4000000 in
theorem wl_X10_servesNow_4 (C : CX p m c cX10_servesNow 5 s args RX10 D (TYM cs) (WM ad cs) (AM ad)) (hr : meth.sig.returnType = (some .int)) (hlk : meth.locks = false) (hR : 1 ≤ R.frames ∧ 22 ≤ R.locals) {σ : Sg}  {res : Int32} : ∀ n : Nat, ∀ (x1 : Int32) (x2 : Int32) (H : Heap) (locs : List Loc) (ls : Array Slot), l_X10_servesNow_4 σ n x1 x2 = some res → va_P D vwCl (WM ad cs σ) H → va_S (AM ad) s.heap H locs → lv_has ls 5 [(0, .ref (ad 0)), (1, .int x1), (2, .int x2)] → W p l e R s m args below meth c H locs 0 0 (MQ below (QI D (TYM cs) (WM ad cs) (AM ad) res σ) args s 0 0 (AM ad)) (F0 m 4 ls []) := by
  intro n
  induction n with
  | zero => intro x1 x2 H locs ls hf; cases hf
  | succ n ih =>
    intro x1 x2 H locs ls hf hP hS hl
    exact w_X10_servesNow_4 C hr hlk hR (ag4 := l_X10_servesNow_4 σ n) ih hf hP hS hl
set_option maxRecDepth 100000 in
set_option maxHeartbeats 4000000 in
theorem w_X10_servesNow (C : CX p m c cX10_servesNow 5 s args RX10 D (TYM cs) (WM ad cs) (AM ad)) (hr : meth.sig.returnType = (some .int)) (hlk : meth.locks = false) (hR : 1 ≤ R.frames ∧ 22 ≤ R.locals) {σ : Sg}  {res : Int32} (hf : f_X10_servesNow σ = some res) {H : Heap} {locs : List Loc} (hP : va_P D vwCl (WM ad cs σ) H) (hS : va_S (AM ad) s.heap H locs) {ls : Array Slot} (hl : lv_has ls 5 [(0, .ref (ad 0))]) : W p l e R s m args below meth c H locs 0 0 (MQ below (QI D (TYM cs) (WM ad cs) (AM ad) res σ) args s 0 0 (AM ad)) (F0 m 0 ls []) := by
  have hx := C.1.1
  have hb := C.1.2.1
  unfold f_X10_servesNow at hf
  refine lv_iconst (v := 0) hx hb dX10_servesNow_0 (by decide) ?_
  refine lv_istore_n (lv' := [(1, .int 0), (0, .ref (ad 0))]) hx hb dX10_servesNow_1 rfl hl (by decide) rfl (fun ls hl => ?_)
  refine lv_iconst (v := 0) hx hb dX10_servesNow_2 (by decide) ?_
  refine lv_istore_n (lv' := [(2, .int 0), (1, .int 0), (0, .ref (ad 0))]) hx hb dX10_servesNow_3 rfl hl (by decide) rfl (fun ls hl => ?_)
  exact wl_X10_servesNow_4 C hr hlk hR fu _ _ _ _ _ hf hP hS (lv_sub hl [2, 1, 0] rfl)
theorem kd_X10_servesNow : yX10_servesNow.cls = RX10 ∧ yX10_servesNow.cls ≠ "java/lang/invoke/MethodHandle" ∧ yX10_servesNow.cls ≠ "java/lang/invoke/VarHandle" ∧ (parseMethodDescriptor yX10_servesNow.desc).map (fun d => d.parameters.length) = some 0 := by decide +kernel
def r_X10_servesNow : Room := { frames := 1, cells := 0, slots := 0, locals := 22 }
set_option maxRecDepth 100000 in
set_option maxHeartbeats 4000000 in
theorem c_X10_servesNow {l : Launch} {D : va_G} {ad : Nat → Nat} {cs : Nat → ClassId} (hD : ∀ σ, va_D (AM ad) (WM ad cs σ)) {σ : Sg}  {res : Int32} (hf : f_X10_servesNow σ = some res) : Met l yX10_servesNow (wm yX10_servesNow cX10_servesNow 5 (some .int)) r_X10_servesNow (va_Pc [.ref (ad 0)] (BW D (TYM cs) (WM ad cs) σ)) (QI D (TYM cs) (WM ad cs) (AM ad) res σ) 0 0 (AM ad) := by
  refine q_enter (by decide) hD (Nat.le_of_ble_eq_true rfl) ?_
  intro p e s m below meth c C hr hlk hP hS ls hl
  exact w_X10_servesNow C hr hlk ⟨Nat.le_of_ble_eq_true rfl, Nat.le_of_ble_eq_true rfl⟩ hf hP hS hl

set_option maxRecDepth 100000 in
set_option maxHeartbeats 4000000 in
theorem w_X10_by (C : CX p m c cX10_by 3 s args RX10 D (TYM cs) (WM ad cs) (AM ad)) (hr : meth.sig.returnType = (some .int)) (hlk : meth.locks = false) (hR : 4 ≤ R.frames ∧ 96 ≤ R.locals) {σ : Sg} {x1 : Int32} {x2 : Int32} {res : Int32 × Sg} (hf : f_X10_by σ x1 x2 = some res) {H : Heap} {locs : List Loc} (hP : va_P D vwCl (WM ad cs σ) H) (hS : va_S (AM ad) s.heap H locs) {ls : Array Slot} (hl : lv_has ls 3 [(0, .ref (ad 0)), (1, .int x1), (2, .int x2)]) : W p l e R s m args below meth c H locs 0 0 (MQ below (QI D (TYM cs) (WM ad cs) (AM ad) res.1 res.2) args s 0 0 (AM ad)) (F0 m 0 ls []) := by
  have hx := C.1.1
  have hb := C.1.2.1
  unfold f_X10_by at hf
  refine lv_aload_n hx hb dX10_by_0 rfl (lv_at hl 0 rfl) ?_
  refine lv_iload_n hx hb dX10_by_1 rfl (lv_at hl 1 rfl) ?_
  obtain ⟨r2, hg1, hf⟩ := zb hf
  try dsimp only at hf
  refine q_calli C hS (q_runV C hP (c_X10_noThing (l := l) C.2.2.1 hg1) (ci := 9) (As := [.int x1]) (rest := []) ⟨gd_V k_799 k_801 k_23 k_53 k_802, ⟨rfl, rfl⟩, kd_X10_noThing, ⟨Nat.le_trans (Nat.le_of_ble_eq_true rfl) hR.1, Nat.le_trans (Nat.le_of_ble_eq_true rfl) hR.2⟩⟩ (o := 0) rfl rfl rfl rfl rfl (Nat.le_of_ble_eq_true rfl) hl.1 dX10_by_2) (fun H locs hP hS => ?_)
  refine lv_if_eq (tgt := 10) hx hb dX10_by_5 (by decide) (fun c3 => ?_) (fun c3 => ?_)
  · replace hf := zt c3 hf
    refine lv_iload_n hx hb dX10_by_10 rfl (lv_at hl 2 rfl) ?_
    obtain ⟨r5, hg4, hf⟩ := zb hf
    try dsimp only at hf
    refine q_calli C hS (q_runS C hP (c_X10_isHour (l := l) C.2.2.1 hg4) (As := [.int x2]) (rest := []) ⟨gd_S k_819 k_820 k_53 k_821, ⟨rfl, rfl⟩, kd_X10_isHour, ⟨Nat.le_trans (Nat.le_of_ble_eq_true rfl) hR.1, Nat.le_trans (Nat.le_of_ble_eq_true rfl) hR.2⟩⟩ rfl rfl (Nat.le_of_ble_eq_true rfl) hl.1 dX10_by_11) (fun H locs hP hS => ?_)
    refine lv_if_ne (tgt := 20) hx hb dX10_by_14 (by decide) (fun c6 => ?_) (fun c6 => ?_)
    · replace hf := zf c6 hf
      refine lv_aload_n hx hb dX10_by_20 rfl (lv_at hl 0 rfl) ?_
      refine lv_iload_n hx hb dX10_by_21 rfl (lv_at hl 2 rfl) ?_
      obtain ⟨σ8, hg7, hf⟩ := zb hf
      try dsimp only at hf
      refine q_callv C hS (q_runV C hP (c_X10_goTo (l := l) C.2.2.1 hg7) (ci := 9) (As := [.int x2]) (rest := []) ⟨gd_V k_831 k_833 k_25 k_53 k_834, ⟨rfl, rfl⟩, kd_X10_goTo, ⟨Nat.le_trans (Nat.le_of_ble_eq_true rfl) hR.1, Nat.le_trans (Nat.le_of_ble_eq_true rfl) hR.2⟩⟩ (o := 0) rfl rfl rfl rfl rfl (Nat.le_of_ble_eq_true rfl) hl.1 dX10_by_22) (fun H locs hP hS => ?_)
      refine lv_aload_n hx hb dX10_by_25 rfl (lv_at hl 0 rfl) ?_
      refine gX10_17 C hP k_681 dX10_by_26 ?_
      refine lv_iload_n hx hb dX10_by_29 rfl (lv_at hl 1 rfl) ?_
      obtain ⟨h9, hf⟩ := zc hf
      refine aldM C hP (n := 8) rfl h9 dX10_by_30 ?_
      exact q_iret C hr hlk hP hS (Option.some.inj hf) dX10_by_31
    · replace hf := zt c6 hf
      refine lv_bipush (v := (-2)) hx hb dX10_by_17 (by decide) ?_
      exact q_iret C hr hlk hP hS (Option.some.inj hf) dX10_by_19
  · replace hf := zf c3 hf
    refine lv_iconst (v := (-1)) hx hb dX10_by_8 (by decide) ?_
    exact q_iret C hr hlk hP hS (Option.some.inj hf) dX10_by_9
theorem kd_X10_by : yX10_by.cls = RX10 ∧ yX10_by.cls ≠ "java/lang/invoke/MethodHandle" ∧ yX10_by.cls ≠ "java/lang/invoke/VarHandle" ∧ (parseMethodDescriptor yX10_by.desc).map (fun d => d.parameters.length) = some 2 := by decide +kernel
def r_X10_by : Room := { frames := 4, cells := 0, slots := 0, locals := 96 }
set_option maxRecDepth 100000 in
set_option maxHeartbeats 4000000 in
theorem c_X10_by {l : Launch} {D : va_G} {ad : Nat → Nat} {cs : Nat → ClassId} (hD : ∀ σ, va_D (AM ad) (WM ad cs σ)) {σ : Sg} {x1 : Int32} {x2 : Int32} {res : Int32 × Sg} (hf : f_X10_by σ x1 x2 = some res) : Met l yX10_by (wm yX10_by cX10_by 3 (some .int)) r_X10_by (va_Pc [.ref (ad 0), .int x1, .int x2] (BW D (TYM cs) (WM ad cs) σ)) (QI D (TYM cs) (WM ad cs) (AM ad) res.1 res.2) 0 0 (AM ad) := by
  refine q_enter (by decide) hD (Nat.le_of_ble_eq_true rfl) ?_
  intro p e s m below meth c C hr hlk hP hS ls hl
  exact w_X10_by C hr hlk ⟨Nat.le_of_ble_eq_true rfl, Nat.le_of_ble_eq_true rfl⟩ hf hP hS hl

set_option maxRecDepth 100000 in
set_option maxHeartbeats 4000000 in
theorem w_X10_refusedFor (C : CX p m c cX10_refusedFor 2 s args RX10 D (TYM cs) (WM ad cs) (AM ad)) (hr : meth.sig.returnType = (some .int)) (hlk : meth.locks = false) (hR : 2 ≤ R.frames ∧ 45 ≤ R.locals) {σ : Sg} {x1 : Int32} {res : Int32} (hf : f_X10_refusedFor σ x1 = some res) {H : Heap} {locs : List Loc} (hP : va_P D vwCl (WM ad cs σ) H) (hS : va_S (AM ad) s.heap H locs) {ls : Array Slot} (hl : lv_has ls 2 [(0, .ref (ad 0)), (1, .int x1)]) : W p l e R s m args below meth c H locs 0 0 (MQ below (QI D (TYM cs) (WM ad cs) (AM ad) res σ) args s 0 0 (AM ad)) (F0 m 0 ls []) := by
  have hx := C.1.1
  have hb := C.1.2.1
  unfold f_X10_refusedFor at hf
  refine lv_iload_n hx hb dX10_refusedFor_0 rfl (lv_at hl 1 rfl) ?_
  obtain ⟨r2, hg1, hf⟩ := zb hf
  try dsimp only at hf
  refine q_calli C hS (q_runS C hP (c_X10_isHour (l := l) C.2.2.1 hg1) (As := [.int x1]) (rest := []) ⟨gd_S k_819 k_820 k_53 k_821, ⟨rfl, rfl⟩, kd_X10_isHour, ⟨Nat.le_trans (Nat.le_of_ble_eq_true rfl) hR.1, Nat.le_trans (Nat.le_of_ble_eq_true rfl) hR.2⟩⟩ rfl rfl (Nat.le_of_ble_eq_true rfl) hl.1 dX10_refusedFor_1) (fun H locs hP hS => ?_)
  refine lv_if_ne (tgt := 12) hx hb dX10_refusedFor_4 (by decide) (fun c3 => ?_) (fun c3 => ?_)
  · replace hf := zf c3 hf
    refine lv_aload_n hx hb dX10_refusedFor_12 rfl (lv_at hl 0 rfl) ?_
    refine gX10_1 C hP k_665 dX10_refusedFor_13 ?_
    refine lv_if_ne (tgt := 24) hx hb dX10_refusedFor_16 (by decide) (fun c4 => ?_) (fun c4 => ?_)
    · replace hf := zf c4 hf
      refine lv_iconst (v := 0) hx hb dX10_refusedFor_24 (by decide) ?_
      exact q_iret C hr hlk hP hS (congrArg (fun q => (q, σ)) (Option.some.inj hf)) dX10_refusedFor_25
    · replace hf := zt c4 hf
      refine lv_bipush (v := (-3)) hx hb dX10_refusedFor_19 (by decide) ?_
      refine lv_goto (tgt := 25) hx hb dX10_refusedFor_21 (by decide) ?_
      exact q_iret C hr hlk hP hS (congrArg (fun q => (q, σ)) (Option.some.inj hf)) dX10_refusedFor_25
  · replace hf := zt c3 hf
    refine lv_bipush (v := (-2)) hx hb dX10_refusedFor_7 (by decide) ?_
    refine lv_goto (tgt := 25) hx hb dX10_refusedFor_9 (by decide) ?_
    exact q_iret C hr hlk hP hS (congrArg (fun q => (q, σ)) (Option.some.inj hf)) dX10_refusedFor_25
theorem kd_X10_refusedFor : yX10_refusedFor.cls = RX10 ∧ yX10_refusedFor.cls ≠ "java/lang/invoke/MethodHandle" ∧ yX10_refusedFor.cls ≠ "java/lang/invoke/VarHandle" ∧ (parseMethodDescriptor yX10_refusedFor.desc).map (fun d => d.parameters.length) = some 1 := by decide +kernel
def r_X10_refusedFor : Room := { frames := 2, cells := 0, slots := 0, locals := 45 }
set_option maxRecDepth 100000 in
set_option maxHeartbeats 4000000 in
theorem c_X10_refusedFor {l : Launch} {D : va_G} {ad : Nat → Nat} {cs : Nat → ClassId} (hD : ∀ σ, va_D (AM ad) (WM ad cs σ)) {σ : Sg} {x1 : Int32} {res : Int32} (hf : f_X10_refusedFor σ x1 = some res) : Met l yX10_refusedFor (wm yX10_refusedFor cX10_refusedFor 2 (some .int)) r_X10_refusedFor (va_Pc [.ref (ad 0), .int x1] (BW D (TYM cs) (WM ad cs) σ)) (QI D (TYM cs) (WM ad cs) (AM ad) res σ) 0 0 (AM ad) := by
  refine q_enter (by decide) hD (Nat.le_of_ble_eq_true rfl) ?_
  intro p e s m below meth c C hr hlk hP hS ls hl
  exact w_X10_refusedFor C hr hlk ⟨Nat.le_of_ble_eq_true rfl, Nat.le_of_ble_eq_true rfl⟩ hf hP hS hl

set_option maxRecDepth 100000 in
set_option maxHeartbeats 4000000 in
theorem w_X10_undone (C : CX p m c cX10_undone 3 s args RX10 D (TYM cs) (WM ad cs) (AM ad)) (hr : meth.sig.returnType = (some .int)) (hlk : meth.locks = false) (hR : 4 ≤ R.frames ∧ 96 ≤ R.locals) {σ : Sg} {x1 : Int32} {res : Int32 × Sg} (hf : f_X10_undone σ x1 = some res) {H : Heap} {locs : List Loc} (hP : va_P D vwCl (WM ad cs σ) H) (hS : va_S (AM ad) s.heap H locs) {ls : Array Slot} (hl : lv_has ls 3 [(0, .ref (ad 0)), (1, .int x1)]) : W p l e R s m args below meth c H locs 0 0 (MQ below (QI D (TYM cs) (WM ad cs) (AM ad) res.1 res.2) args s 0 0 (AM ad)) (F0 m 0 ls []) := by
  have hx := C.1.1
  have hb := C.1.2.1
  unfold f_X10_undone at hf
  refine lv_aload_n hx hb dX10_undone_0 rfl (lv_at hl 0 rfl) ?_
  refine lv_iload_n hx hb dX10_undone_1 rfl (lv_at hl 1 rfl) ?_
  obtain ⟨r2, hg1, hf⟩ := zb hf
  try dsimp only at hf
  refine q_calli C hS (q_runV C hP (c_X10_refusedFor (l := l) C.2.2.1 hg1) (ci := 9) (As := [.int x1]) (rest := []) ⟨gd_V k_866 k_868 k_32 k_53 k_869, ⟨rfl, rfl⟩, kd_X10_refusedFor, ⟨Nat.le_trans (Nat.le_of_ble_eq_true rfl) hR.1, Nat.le_trans (Nat.le_of_ble_eq_true rfl) hR.2⟩⟩ (o := 0) rfl rfl rfl rfl rfl (Nat.le_of_ble_eq_true rfl) hl.1 dX10_undone_2) (fun H locs hP hS => ?_)
  refine lv_istore_n (lv' := [(2, .int r2), (0, .ref (ad 0)), (1, .int x1)]) hx hb dX10_undone_5 rfl hl (by decide) rfl (fun ls hl => ?_)
  refine lv_iload_n hx hb dX10_undone_6 rfl (lv_at hl 0 rfl) ?_
  refine lv_if_ge (tgt := 12) hx hb dX10_undone_7 (by decide) (fun c3 => ?_) (fun c3 => ?_)
  · replace hf := zt c3 hf
    refine lv_aload_n hx hb dX10_undone_12 rfl (lv_at hl 1 rfl) ?_
    refine lv_iload_n hx hb dX10_undone_13 rfl (lv_at hl 2 rfl) ?_
    obtain ⟨σ5, hg4, hf⟩ := zb hf
    try dsimp only at hf
    refine q_callv C hS (q_runV C hP (c_X10_goTo (l := l) C.2.2.1 hg4) (ci := 9) (As := [.int x1]) (rest := []) ⟨gd_V k_831 k_833 k_25 k_53 k_834, ⟨rfl, rfl⟩, kd_X10_goTo, ⟨Nat.le_trans (Nat.le_of_ble_eq_true rfl) hR.1, Nat.le_trans (Nat.le_of_ble_eq_true rfl) hR.2⟩⟩ (o := 0) rfl rfl rfl rfl rfl (Nat.le_of_ble_eq_true rfl) hl.1 dX10_undone_14) (fun H locs hP hS => ?_)
    refine lv_aload_n hx hb dX10_undone_17 rfl (lv_at hl 1 rfl) ?_
    obtain ⟨r7, hg6, hf⟩ := zb hf
    try dsimp only at hf
    refine q_calli C hS (q_runV C hP (c_X10_undoneNow (l := l) C.2.2.1 hg6) (ci := 9) (As := []) (rest := []) ⟨gd_V k_870 k_872 k_33 k_53 k_873, ⟨rfl, rfl⟩, kd_X10_undoneNow, ⟨Nat.le_trans (Nat.le_of_ble_eq_true rfl) hR.1, Nat.le_trans (Nat.le_of_ble_eq_true rfl) hR.2⟩⟩ (o := 0) rfl rfl rfl rfl rfl (Nat.le_of_ble_eq_true rfl) hl.1 dX10_undone_18) (fun H locs hP hS => ?_)
    exact q_iret C hr hlk hP hS (Option.some.inj hf) dX10_undone_21
  · replace hf := zf c3 hf
    refine lv_iload_n hx hb dX10_undone_10 rfl (lv_at hl 0 rfl) ?_
    exact q_iret C hr hlk hP hS (Option.some.inj hf) dX10_undone_11
theorem kd_X10_undone : yX10_undone.cls = RX10 ∧ yX10_undone.cls ≠ "java/lang/invoke/MethodHandle" ∧ yX10_undone.cls ≠ "java/lang/invoke/VarHandle" ∧ (parseMethodDescriptor yX10_undone.desc).map (fun d => d.parameters.length) = some 1 := by decide +kernel
def r_X10_undone : Room := { frames := 4, cells := 0, slots := 0, locals := 96 }
set_option maxRecDepth 100000 in
set_option maxHeartbeats 4000000 in
theorem c_X10_undone {l : Launch} {D : va_G} {ad : Nat → Nat} {cs : Nat → ClassId} (hD : ∀ σ, va_D (AM ad) (WM ad cs σ)) {σ : Sg} {x1 : Int32} {res : Int32 × Sg} (hf : f_X10_undone σ x1 = some res) : Met l yX10_undone (wm yX10_undone cX10_undone 3 (some .int)) r_X10_undone (va_Pc [.ref (ad 0), .int x1] (BW D (TYM cs) (WM ad cs) σ)) (QI D (TYM cs) (WM ad cs) (AM ad) res.1 res.2) 0 0 (AM ad) := by
  refine q_enter (by decide) hD (Nat.le_of_ble_eq_true rfl) ?_
  intro p e s m below meth c C hr hlk hP hS ls hl
  exact w_X10_undone C hr hlk ⟨Nat.le_of_ble_eq_true rfl, Nat.le_of_ble_eq_true rfl⟩ hf hP hS hl

set_option maxRecDepth 100000 in
set_option maxHeartbeats 4000000 in
theorem w_X10_serves (C : CX p m c cX10_serves 3 s args RX10 D (TYM cs) (WM ad cs) (AM ad)) (hr : meth.sig.returnType = (some .int)) (hlk : meth.locks = false) (hR : 4 ≤ R.frames ∧ 96 ≤ R.locals) {σ : Sg} {x1 : Int32} {res : Int32 × Sg} (hf : f_X10_serves σ x1 = some res) {H : Heap} {locs : List Loc} (hP : va_P D vwCl (WM ad cs σ) H) (hS : va_S (AM ad) s.heap H locs) {ls : Array Slot} (hl : lv_has ls 3 [(0, .ref (ad 0)), (1, .int x1)]) : W p l e R s m args below meth c H locs 0 0 (MQ below (QI D (TYM cs) (WM ad cs) (AM ad) res.1 res.2) args s 0 0 (AM ad)) (F0 m 0 ls []) := by
  have hx := C.1.1
  have hb := C.1.2.1
  unfold f_X10_serves at hf
  refine lv_aload_n hx hb dX10_serves_0 rfl (lv_at hl 0 rfl) ?_
  refine lv_iload_n hx hb dX10_serves_1 rfl (lv_at hl 1 rfl) ?_
  obtain ⟨r2, hg1, hf⟩ := zb hf
  try dsimp only at hf
  refine q_calli C hS (q_runV C hP (c_X10_refusedFor (l := l) C.2.2.1 hg1) (ci := 9) (As := [.int x1]) (rest := []) ⟨gd_V k_866 k_868 k_32 k_53 k_869, ⟨rfl, rfl⟩, kd_X10_refusedFor, ⟨Nat.le_trans (Nat.le_of_ble_eq_true rfl) hR.1, Nat.le_trans (Nat.le_of_ble_eq_true rfl) hR.2⟩⟩ (o := 0) rfl rfl rfl rfl rfl (Nat.le_of_ble_eq_true rfl) hl.1 dX10_serves_2) (fun H locs hP hS => ?_)
  refine lv_istore_n (lv' := [(2, .int r2), (0, .ref (ad 0)), (1, .int x1)]) hx hb dX10_serves_5 rfl hl (by decide) rfl (fun ls hl => ?_)
  refine lv_iload_n hx hb dX10_serves_6 rfl (lv_at hl 0 rfl) ?_
  refine lv_if_ge (tgt := 12) hx hb dX10_serves_7 (by decide) (fun c3 => ?_) (fun c3 => ?_)
  · replace hf := zt c3 hf
    refine lv_aload_n hx hb dX10_serves_12 rfl (lv_at hl 1 rfl) ?_
    refine lv_iload_n hx hb dX10_serves_13 rfl (lv_at hl 2 rfl) ?_
    obtain ⟨σ5, hg4, hf⟩ := zb hf
    try dsimp only at hf
    refine q_callv C hS (q_runV C hP (c_X10_goTo (l := l) C.2.2.1 hg4) (ci := 9) (As := [.int x1]) (rest := []) ⟨gd_V k_831 k_833 k_25 k_53 k_834, ⟨rfl, rfl⟩, kd_X10_goTo, ⟨Nat.le_trans (Nat.le_of_ble_eq_true rfl) hR.1, Nat.le_trans (Nat.le_of_ble_eq_true rfl) hR.2⟩⟩ (o := 0) rfl rfl rfl rfl rfl (Nat.le_of_ble_eq_true rfl) hl.1 dX10_serves_14) (fun H locs hP hS => ?_)
    refine lv_aload_n hx hb dX10_serves_17 rfl (lv_at hl 1 rfl) ?_
    obtain ⟨r7, hg6, hf⟩ := zb hf
    try dsimp only at hf
    refine q_calli C hS (q_runV C hP (c_X10_servesNow (l := l) C.2.2.1 hg6) (ci := 9) (As := []) (rest := []) ⟨gd_V k_878 k_880 k_34 k_53 k_881, ⟨rfl, rfl⟩, kd_X10_servesNow, ⟨Nat.le_trans (Nat.le_of_ble_eq_true rfl) hR.1, Nat.le_trans (Nat.le_of_ble_eq_true rfl) hR.2⟩⟩ (o := 0) rfl rfl rfl rfl rfl (Nat.le_of_ble_eq_true rfl) hl.1 dX10_serves_18) (fun H locs hP hS => ?_)
    exact q_iret C hr hlk hP hS (Option.some.inj hf) dX10_serves_21
  · replace hf := zf c3 hf
    refine lv_iload_n hx hb dX10_serves_10 rfl (lv_at hl 0 rfl) ?_
    exact q_iret C hr hlk hP hS (Option.some.inj hf) dX10_serves_11
theorem kd_X10_serves : yX10_serves.cls = RX10 ∧ yX10_serves.cls ≠ "java/lang/invoke/MethodHandle" ∧ yX10_serves.cls ≠ "java/lang/invoke/VarHandle" ∧ (parseMethodDescriptor yX10_serves.desc).map (fun d => d.parameters.length) = some 1 := by decide +kernel
def r_X10_serves : Room := { frames := 4, cells := 0, slots := 0, locals := 96 }
set_option maxRecDepth 100000 in
set_option maxHeartbeats 4000000 in
theorem c_X10_serves {l : Launch} {D : va_G} {ad : Nat → Nat} {cs : Nat → ClassId} (hD : ∀ σ, va_D (AM ad) (WM ad cs σ)) {σ : Sg} {x1 : Int32} {res : Int32 × Sg} (hf : f_X10_serves σ x1 = some res) : Met l yX10_serves (wm yX10_serves cX10_serves 3 (some .int)) r_X10_serves (va_Pc [.ref (ad 0), .int x1] (BW D (TYM cs) (WM ad cs) σ)) (QI D (TYM cs) (WM ad cs) (AM ad) res.1 res.2) 0 0 (AM ad) := by
  refine q_enter (by decide) hD (Nat.le_of_ble_eq_true rfl) ?_
  intro p e s m below meth c C hr hlk hP hS ls hl
  exact w_X10_serves C hr hlk ⟨Nat.le_of_ble_eq_true rfl, Nat.le_of_ble_eq_true rfl⟩ hf hP hS hl

set_option maxRecDepth 100000 in
set_option maxHeartbeats 4000000 in
theorem w_X10_ring_56 (C : CX p m c cX10_ring 5 s args RX10 D (TYM cs) (WM ad cs) (AM ad)) (hr : meth.sig.returnType = (some .int)) (hlk : meth.locks = false) (hR : 0 ≤ R.frames ∧ 0 ≤ R.locals) {σ : Sg} {x2 : Int32} {x3 : Int32} {x4 : Int32} {s0 : Int32} {s1 : Int32} {res : Int32} {ag14 : Int32 → Int32 → Option (Int32)} (hag14 : ∀ (x1 : Int32) (x2 : Int32) (H : Heap) (locs : List Loc) (ls : Array Slot), ag14 x1 x2 = some res → va_P D vwCl (WM ad cs σ) H → va_S (AM ad) s.heap H locs → lv_has ls 5 [(0, .ref (ad 0)), (1, .int x1), (2, .int x2)] → W p l e R s m args below meth c H locs 0 0 (MQ below (QI D (TYM cs) (WM ad cs) (AM ad) res σ) args s 0 0 (AM ad)) (F0 m 14 ls [])) {ag27 : Int32 → Int32 → Int32 → Option (Int32)} (hag27 : ∀ (x1 : Int32) (x3 : Int32) (x4 : Int32) (H : Heap) (locs : List Loc) (ls : Array Slot), ag27 x1 x3 x4 = some res → va_P D vwCl (WM ad cs σ) H → va_S (AM ad) s.heap H locs → lv_has ls 5 [(0, .ref (ad 0)), (1, .int x1), (2, .int x2), (3, .int x3), (4, .int x4)] → W p l e R s m args below meth c H locs 0 0 (MQ below (QI D (TYM cs) (WM ad cs) (AM ad) res σ) args s 0 0 (AM ad)) (F0 m 27 ls [])) (hf : f_X10_ring_56 ag14 ag27 σ x2 x3 x4 s0 s1 = some res) {H : Heap} {locs : List Loc} (hP : va_P D vwCl (WM ad cs σ) H) (hS : va_S (AM ad) s.heap H locs) {ls : Array Slot} (hl : lv_has ls 5 [(0, .ref (ad 0)), (2, .int x2), (3, .int x3), (4, .int x4)]) : W p l e R s m args below meth c H locs 0 0 (MQ below (QI D (TYM cs) (WM ad cs) (AM ad) res σ) args s 0 0 (AM ad)) (F0 m 56 ls [.int s0, .int s1]) := by
  have hx := C.1.1
  have hb := C.1.2.1
  unfold f_X10_ring_56 at hf
  refine lv_ior hx hb dX10_ring_56 ?_
  refine lv_istore_n (lv' := [(1, .int (s1 ||| s0)), (0, .ref (ad 0)), (2, .int x2), (3, .int x3), (4, .int x4)]) hx hb dX10_ring_57 rfl hl (by decide) rfl (fun ls hl => ?_)
  refine lv_iinc (v := x4 + 1) (lv' := [(4, .int (x4 + 1)), (1, .int (s1 ||| s0)), (0, .ref (ad 0)), (2, .int x2), (3, .int x3)]) hx hb dX10_ring_58 hl (k := 4) rfl rfl (by decide) rfl (fun ls hl => ?_)
  refine lv_goto (tgt := 27) hx hb dX10_ring_61 (by decide) ?_
  exact hag27 _ _ _ _ _ _ hf hP hS (lv_sub hl [2, 1, 3, 4, 0] rfl)
set_option maxRecDepth 100000 in
set_option maxHeartbeats 4000000 in
theorem w_X10_ring_27 (C : CX p m c cX10_ring 5 s args RX10 D (TYM cs) (WM ad cs) (AM ad)) (hr : meth.sig.returnType = (some .int)) (hlk : meth.locks = false) (hR : 0 ≤ R.frames ∧ 0 ≤ R.locals) {σ : Sg} {x1 : Int32} {x2 : Int32} {x3 : Int32} {x4 : Int32} {res : Int32} {ag14 : Int32 → Int32 → Option (Int32)} (hag14 : ∀ (x1 : Int32) (x2 : Int32) (H : Heap) (locs : List Loc) (ls : Array Slot), ag14 x1 x2 = some res → va_P D vwCl (WM ad cs σ) H → va_S (AM ad) s.heap H locs → lv_has ls 5 [(0, .ref (ad 0)), (1, .int x1), (2, .int x2)] → W p l e R s m args below meth c H locs 0 0 (MQ below (QI D (TYM cs) (WM ad cs) (AM ad) res σ) args s 0 0 (AM ad)) (F0 m 14 ls [])) {ag27 : Int32 → Int32 → Int32 → Option (Int32)} (hag27 : ∀ (x1 : Int32) (x3 : Int32) (x4 : Int32) (H : Heap) (locs : List Loc) (ls : Array Slot), ag27 x1 x3 x4 = some res → va_P D vwCl (WM ad cs σ) H → va_S (AM ad) s.heap H locs → lv_has ls 5 [(0, .ref (ad 0)), (1, .int x1), (2, .int x2), (3, .int x3), (4, .int x4)] → W p l e R s m args below meth c H locs 0 0 (MQ below (QI D (TYM cs) (WM ad cs) (AM ad) res σ) args s 0 0 (AM ad)) (F0 m 27 ls [])) (hf : f_X10_ring_27 ag14 ag27 σ x1 x2 x3 x4 = some res) {H : Heap} {locs : List Loc} (hP : va_P D vwCl (WM ad cs σ) H) (hS : va_S (AM ad) s.heap H locs) {ls : Array Slot} (hl : lv_has ls 5 [(0, .ref (ad 0)), (1, .int x1), (2, .int x2), (3, .int x3), (4, .int x4)]) : W p l e R s m args below meth c H locs 0 0 (MQ below (QI D (TYM cs) (WM ad cs) (AM ad) res σ) args s 0 0 (AM ad)) (F0 m 27 ls []) := by
  have hx := C.1.1
  have hb := C.1.2.1
  unfold f_X10_ring_27 at hf
  refine lv_iload hx hb dX10_ring_27 (lv_at hl 4 rfl) ?_
  refine lv_aload_n hx hb dX10_ring_29 rfl (lv_at hl 0 rfl) ?_
  refine gX10_1 C hP k_665 dX10_ring_30 ?_
  refine lv_icmp_ge (tgt := 64) hx hb dX10_ring_33 (by decide) (fun c1 => ?_) (fun c1 => ?_)
  · replace hf := zt c1 hf
    refine lv_iinc (v := x2 + 1) (lv' := [(2, .int (x2 + 1)), (0, .ref (ad 0)), (1, .int x1), (3, .int x3), (4, .int x4)]) hx hb dX10_ring_64 hl (k := 2) rfl rfl (by decide) rfl (fun ls hl => ?_)
    refine lv_goto (tgt := 14) hx hb dX10_ring_67 (by decide) ?_
    exact hag14 _ _ _ _ _ hf hP hS (lv_sub hl [1, 2, 0] rfl)
  · replace hf := zf c1 hf
    refine lv_aload_n hx hb dX10_ring_36 rfl (lv_at hl 0 rfl) ?_
    refine gX10_3 C hP k_667 dX10_ring_37 ?_
    refine lv_iload_n hx hb dX10_ring_40 rfl (lv_at hl 3 rfl) ?_
    obtain ⟨h2, hf⟩ := zc hf
    refine aldM C hP (n := 8) rfl h2 dX10_ring_41 ?_
    refine lv_istore_n (lv' := [(3, .int (σ 2 x3.toNatClampNeg)), (0, .ref (ad 0)), (1, .int x1), (2, .int x2), (4, .int x4)]) hx hb dX10_ring_42 rfl hl (by decide) rfl (fun ls hl => ?_)
    refine lv_iload_n hx hb dX10_ring_43 rfl (lv_at hl 2 rfl) ?_
    refine lv_iload_n hx hb dX10_ring_44 rfl (lv_at hl 0 rfl) ?_
    refine lv_iload_n hx hb dX10_ring_45 rfl (lv_at hl 3 rfl) ?_
    refine lv_icmp_ne (tgt := 55) hx hb dX10_ring_46 (by decide) (fun c3 => ?_) (fun c3 => ?_)
    · replace hf := zf c3 hf
      refine lv_iconst (v := 0) hx hb dX10_ring_55 (by decide) ?_
      exact w_X10_ring_56 C hr hlk hR hag14 hag27 hf hP hS (lv_sub hl [1, 3, 0, 4] rfl)
    · replace hf := zt c3 hf
      refine lv_iconst (v := 1) hx hb dX10_ring_49 (by decide) ?_
      refine lv_iload_n hx hb dX10_ring_50 rfl (lv_at hl 3 rfl) ?_
      refine lv_ishl hx hb dX10_ring_51 ?_
      refine lv_goto (tgt := 56) hx hb dX10_ring_52 (by decide) ?_
      exact w_X10_ring_56 C hr hlk hR hag14 hag27 hf hP hS (lv_sub hl [1, 3, 0, 4] rfl)
set_option maxRecDepth 100000 in
set_option maxHeartbeats 4000000 in
theorem wl_X10_ring_27 (C : CX p m c cX10_ring 5 s args RX10 D (TYM cs) (WM ad cs) (AM ad)) (hr : meth.sig.returnType = (some .int)) (hlk : meth.locks = false) (hR : 0 ≤ R.frames ∧ 0 ≤ R.locals) {σ : Sg} {x2 : Int32} {res : Int32} {ag14 : Int32 → Int32 → Option (Int32)} (hag14 : ∀ (x1 : Int32) (x2 : Int32) (H : Heap) (locs : List Loc) (ls : Array Slot), ag14 x1 x2 = some res → va_P D vwCl (WM ad cs σ) H → va_S (AM ad) s.heap H locs → lv_has ls 5 [(0, .ref (ad 0)), (1, .int x1), (2, .int x2)] → W p l e R s m args below meth c H locs 0 0 (MQ below (QI D (TYM cs) (WM ad cs) (AM ad) res σ) args s 0 0 (AM ad)) (F0 m 14 ls [])) : ∀ n : Nat, ∀ (x1 : Int32) (x3 : Int32) (x4 : Int32) (H : Heap) (locs : List Loc) (ls : Array Slot), l_X10_ring_27 ag14 σ x2 n x1 x3 x4 = some res → va_P D vwCl (WM ad cs σ) H → va_S (AM ad) s.heap H locs → lv_has ls 5 [(0, .ref (ad 0)), (1, .int x1), (2, .int x2), (3, .int x3), (4, .int x4)] → W p l e R s m args below meth c H locs 0 0 (MQ below (QI D (TYM cs) (WM ad cs) (AM ad) res σ) args s 0 0 (AM ad)) (F0 m 27 ls []) := by
  intro n
  induction n with
  | zero => intro x1 x3 x4 H locs ls hf; cases hf
  | succ n ih =>
    intro x1 x3 x4 H locs ls hf hP hS hl
    exact w_X10_ring_27 C hr hlk hR hag14 (ag27 := l_X10_ring_27 ag14 σ x2 n) ih hf hP hS hl
set_option maxRecDepth 100000 in
set_option maxHeartbeats 4000000 in
theorem w_X10_ring_14 (C : CX p m c cX10_ring 5 s args RX10 D (TYM cs) (WM ad cs) (AM ad)) (hr : meth.sig.returnType = (some .int)) (hlk : meth.locks = false) (hR : 0 ≤ R.frames ∧ 0 ≤ R.locals) {σ : Sg} {x1 : Int32} {x2 : Int32} {res : Int32} {ag14 : Int32 → Int32 → Option (Int32)} (hag14 : ∀ (x1 : Int32) (x2 : Int32) (H : Heap) (locs : List Loc) (ls : Array Slot), ag14 x1 x2 = some res → va_P D vwCl (WM ad cs σ) H → va_S (AM ad) s.heap H locs → lv_has ls 5 [(0, .ref (ad 0)), (1, .int x1), (2, .int x2)] → W p l e R s m args below meth c H locs 0 0 (MQ below (QI D (TYM cs) (WM ad cs) (AM ad) res σ) args s 0 0 (AM ad)) (F0 m 14 ls [])) (hf : f_X10_ring_14 ag14 σ x1 x2 = some res) {H : Heap} {locs : List Loc} (hP : va_P D vwCl (WM ad cs σ) H) (hS : va_S (AM ad) s.heap H locs) {ls : Array Slot} (hl : lv_has ls 5 [(0, .ref (ad 0)), (1, .int x1), (2, .int x2)]) : W p l e R s m args below meth c H locs 0 0 (MQ below (QI D (TYM cs) (WM ad cs) (AM ad) res σ) args s 0 0 (AM ad)) (F0 m 14 ls []) := by
  have hx := C.1.1
  have hb := C.1.2.1
  unfold f_X10_ring_14 at hf
  refine lv_iload_n hx hb dX10_ring_14 rfl (lv_at hl 2 rfl) ?_
  refine lv_aload_n hx hb dX10_ring_15 rfl (lv_at hl 0 rfl) ?_
  refine gX10_1 C hP k_665 dX10_ring_16 ?_
  refine lv_icmp_ge (tgt := 70) hx hb dX10_ring_19 (by decide) (fun c1 => ?_) (fun c1 => ?_)
  · replace hf := zt c1 hf
    refine lv_iload_n hx hb dX10_ring_70 rfl (lv_at hl 1 rfl) ?_
    exact q_iret C hr hlk hP hS (congrArg (fun q => (q, σ)) (Option.some.inj hf)) dX10_ring_71
  · replace hf := zf c1 hf
    refine lv_iload_n hx hb dX10_ring_22 rfl (lv_at hl 2 rfl) ?_
    refine lv_istore_n (lv' := [(3, .int x2), (0, .ref (ad 0)), (1, .int x1), (2, .int x2)]) hx hb dX10_ring_23 rfl hl (by decide) rfl (fun ls hl => ?_)
    refine lv_iconst (v := 0) hx hb dX10_ring_24 (by decide) ?_
    refine lv_istore (lv' := [(4, .int 0), (3, .int x2), (0, .ref (ad 0)), (1, .int x1), (2, .int x2)]) hx hb dX10_ring_25 hl (by decide) rfl (fun ls hl => ?_)
    exact wl_X10_ring_27 C hr hlk hR hag14 fu _ _ _ _ _ _ hf hP hS (lv_sub hl [2, 3, 4, 1, 0] rfl)
set_option maxRecDepth 100000 in
set_option maxHeartbeats 4000000 in
theorem wl_X10_ring_14 (C : CX p m c cX10_ring 5 s args RX10 D (TYM cs) (WM ad cs) (AM ad)) (hr : meth.sig.returnType = (some .int)) (hlk : meth.locks = false) (hR : 0 ≤ R.frames ∧ 0 ≤ R.locals) {σ : Sg}  {res : Int32} : ∀ n : Nat, ∀ (x1 : Int32) (x2 : Int32) (H : Heap) (locs : List Loc) (ls : Array Slot), l_X10_ring_14 σ n x1 x2 = some res → va_P D vwCl (WM ad cs σ) H → va_S (AM ad) s.heap H locs → lv_has ls 5 [(0, .ref (ad 0)), (1, .int x1), (2, .int x2)] → W p l e R s m args below meth c H locs 0 0 (MQ below (QI D (TYM cs) (WM ad cs) (AM ad) res σ) args s 0 0 (AM ad)) (F0 m 14 ls []) := by
  intro n
  induction n with
  | zero => intro x1 x2 H locs ls hf; cases hf
  | succ n ih =>
    intro x1 x2 H locs ls hf hP hS hl
    exact w_X10_ring_14 C hr hlk hR (ag14 := l_X10_ring_14 σ n) ih hf hP hS hl
set_option maxRecDepth 100000 in
set_option maxHeartbeats 4000000 in
theorem w_X10_ring (C : CX p m c cX10_ring 5 s args RX10 D (TYM cs) (WM ad cs) (AM ad)) (hr : meth.sig.returnType = (some .int)) (hlk : meth.locks = false) (hR : 0 ≤ R.frames ∧ 0 ≤ R.locals) {σ : Sg}  {res : Int32} (hf : f_X10_ring σ = some res) {H : Heap} {locs : List Loc} (hP : va_P D vwCl (WM ad cs σ) H) (hS : va_S (AM ad) s.heap H locs) {ls : Array Slot} (hl : lv_has ls 5 [(0, .ref (ad 0))]) : W p l e R s m args below meth c H locs 0 0 (MQ below (QI D (TYM cs) (WM ad cs) (AM ad) res σ) args s 0 0 (AM ad)) (F0 m 0 ls []) := by
  have hx := C.1.1
  have hb := C.1.2.1
  unfold f_X10_ring at hf
  refine lv_aload_n hx hb dX10_ring_0 rfl (lv_at hl 0 rfl) ?_
  refine gX10_1 C hP k_665 dX10_ring_1 ?_
  refine lv_if_ne (tgt := 10) hx hb dX10_ring_4 (by decide) (fun c1 => ?_) (fun c1 => ?_)
  · replace hf := zf c1 hf
    refine lv_iconst (v := 0) hx hb dX10_ring_10 (by decide) ?_
    refine lv_istore_n (lv' := [(1, .int 0), (0, .ref (ad 0))]) hx hb dX10_ring_11 rfl hl (by decide) rfl (fun ls hl => ?_)
    refine lv_iconst (v := 0) hx hb dX10_ring_12 (by decide) ?_
    refine lv_istore_n (lv' := [(2, .int 0), (1, .int 0), (0, .ref (ad 0))]) hx hb dX10_ring_13 rfl hl (by decide) rfl (fun ls hl => ?_)
    exact wl_X10_ring_14 C hr hlk hR fu _ _ _ _ _ hf hP hS (lv_sub hl [2, 1, 0] rfl)
  · replace hf := zt c1 hf
    refine lv_bipush (v := (-3)) hx hb dX10_ring_7 (by decide) ?_
    exact q_iret C hr hlk hP hS (congrArg (fun q => (q, σ)) (Option.some.inj hf)) dX10_ring_9
theorem kd_X10_ring : yX10_ring.cls = RX10 ∧ yX10_ring.cls ≠ "java/lang/invoke/MethodHandle" ∧ yX10_ring.cls ≠ "java/lang/invoke/VarHandle" ∧ (parseMethodDescriptor yX10_ring.desc).map (fun d => d.parameters.length) = some 0 := by decide +kernel
def r_X10_ring : Room := { frames := 0, cells := 0, slots := 0, locals := 0 }
set_option maxRecDepth 100000 in
set_option maxHeartbeats 4000000 in
theorem c_X10_ring {l : Launch} {D : va_G} {ad : Nat → Nat} {cs : Nat → ClassId} (hD : ∀ σ, va_D (AM ad) (WM ad cs σ)) {σ : Sg}  {res : Int32} (hf : f_X10_ring σ = some res) : Met l yX10_ring (wm yX10_ring cX10_ring 5 (some .int)) r_X10_ring (va_Pc [.ref (ad 0)] (BW D (TYM cs) (WM ad cs) σ)) (QI D (TYM cs) (WM ad cs) (AM ad) res σ) 0 0 (AM ad) := by
  refine q_enter (by decide) hD (Nat.le_of_ble_eq_true rfl) ?_
  intro p e s m below meth c C hr hlk hP hS ls hl
  exact w_X10_ring C hr hlk ⟨Nat.le_of_ble_eq_true rfl, Nat.le_of_ble_eq_true rfl⟩ hf hP hS hl

set_option maxRecDepth 100000 in
set_option maxHeartbeats 4000000 in
theorem w_X10_first_56 (C : CX p m c cX10_first 5 s args RX10 D (TYM cs) (WM ad cs) (AM ad)) (hr : meth.sig.returnType = (some .int)) (hlk : meth.locks = false) (hR : 3 ≤ R.frames ∧ 74 ≤ R.locals) {σ : Sg} {x1 : Int32} {x2 : Int32} {x3 : Int32} {x4 : Int32} {res : Int32 × Sg} {ag56 : Int32 → Option (Int32 × Sg)} (hag56 : ∀ (x4 : Int32) (H : Heap) (locs : List Loc) (ls : Array Slot), ag56 x4 = some res → va_P D vwCl (WM ad cs σ) H → va_S (AM ad) s.heap H locs → lv_has ls 5 [(1, .int x1), (2, .int x2), (3, .int x3), (4, .int x4)] → W p l e R s m args below meth c H locs 0 0 (MQ below (QI D (TYM cs) (WM ad cs) (AM ad) res.1 res.2) args s 0 0 (AM ad)) (F0 m 56 ls [])) (hf : f_X10_first_56 ag56 σ x1 x2 x3 x4 = some res) {H : Heap} {locs : List Loc} (hP : va_P D vwCl (WM ad cs σ) H) (hS : va_S (AM ad) s.heap H locs) {ls : Array Slot} (hl : lv_has ls 5 [(1, .int x1), (2, .int x2), (3, .int x3), (4, .int x4)]) : W p l e R s m args below meth c H locs 0 0 (MQ below (QI D (TYM cs) (WM ad cs) (AM ad) res.1 res.2) args s 0 0 (AM ad)) (F0 m 56 ls []) := by
  have hx := C.1.1
  have hb := C.1.2.1
  unfold f_X10_first_56 at hf
  refine lv_iload_n hx hb dX10_first_56 rfl (lv_at hl 2 rfl) ?_
  refine lv_iload hx hb dX10_first_57 (lv_at hl 3 rfl) ?_
  obtain ⟨r2, hg1, hf⟩ := zb hf
  try dsimp only at hf
  refine q_calli C hS (q_runS C hP (c_X10_isIn (l := l) C.2.2.1 hg1) (As := [.int x3, .int x4]) (rest := []) ⟨gd_S k_847 k_848 k_53 k_849, ⟨rfl, rfl⟩, kd_X10_isIn, ⟨Nat.le_trans (Nat.le_of_ble_eq_true rfl) hR.1, Nat.le_trans (Nat.le_of_ble_eq_true rfl) hR.2⟩⟩ rfl rfl (Nat.le_of_ble_eq_true rfl) hl.1 dX10_first_59) (fun H locs hP hS => ?_)
  refine lv_if_ne (tgt := 71) hx hb dX10_first_62 (by decide) (fun c3 => ?_) (fun c3 => ?_)
  · replace hf := zf c3 hf
    refine lv_iload_n hx hb dX10_first_71 rfl (lv_at hl 0 rfl) ?_
    refine lv_if_ne (tgt := 79) hx hb dX10_first_72 (by decide) (fun c4 => ?_) (fun c4 => ?_)
    · replace hf := zf c4 hf
      refine lv_iload hx hb dX10_first_79 (lv_at hl 3 rfl) ?_
      exact q_iret C hr hlk hP hS (Option.some.inj hf) dX10_first_81
    · replace hf := zt c4 hf
      refine lv_iload_n hx hb dX10_first_75 rfl (lv_at hl 1 rfl) ?_
      refine lv_goto (tgt := 81) hx hb dX10_first_76 (by decide) ?_
      exact q_iret C hr hlk hP hS (Option.some.inj hf) dX10_first_81
  · replace hf := zt c3 hf
    refine lv_iinc (v := x4 + 1) (lv' := [(4, .int (x4 + 1)), (1, .int x1), (2, .int x2), (3, .int x3)]) hx hb dX10_first_65 hl (k := 3) rfl rfl (by decide) rfl (fun ls hl => ?_)
    refine lv_goto (tgt := 56) hx hb dX10_first_68 (by decide) ?_
    exact hag56 _ _ _ _ hf hP hS (lv_sub hl [1, 2, 3, 0] rfl)
set_option maxRecDepth 100000 in
set_option maxHeartbeats 4000000 in
theorem wl_X10_first_56 (C : CX p m c cX10_first 5 s args RX10 D (TYM cs) (WM ad cs) (AM ad)) (hr : meth.sig.returnType = (some .int)) (hlk : meth.locks = false) (hR : 3 ≤ R.frames ∧ 74 ≤ R.locals) {σ : Sg} {x1 : Int32} {x2 : Int32} {x3 : Int32} {res : Int32 × Sg} : ∀ n : Nat, ∀ (x4 : Int32) (H : Heap) (locs : List Loc) (ls : Array Slot), l_X10_first_56 σ x1 x2 x3 n x4 = some res → va_P D vwCl (WM ad cs σ) H → va_S (AM ad) s.heap H locs → lv_has ls 5 [(1, .int x1), (2, .int x2), (3, .int x3), (4, .int x4)] → W p l e R s m args below meth c H locs 0 0 (MQ below (QI D (TYM cs) (WM ad cs) (AM ad) res.1 res.2) args s 0 0 (AM ad)) (F0 m 56 ls []) := by
  intro n
  induction n with
  | zero => intro x4 H locs ls hf; cases hf
  | succ n ih =>
    intro x4 H locs ls hf hP hS hl
    exact w_X10_first_56 C hr hlk hR (ag56 := l_X10_first_56 σ x1 x2 x3 n) ih hf hP hS hl
set_option maxRecDepth 100000 in
set_option maxHeartbeats 4000000 in
theorem w_X10_first_29 (C : CX p m c cX10_first 5 s args RX10 D (TYM cs) (WM ad cs) (AM ad)) (hr : meth.sig.returnType = (some .int)) (hlk : meth.locks = false) (hR : 3 ≤ R.frames ∧ 74 ≤ R.locals) {σ : Sg} {x1 : Int32} {x2 : Int32} {res : Int32 × Sg} {ag29 : Int32 → Sg → Option (Int32 × Sg)} (hag29 : ∀ (x2 : Int32) (σ : Sg) (H : Heap) (locs : List Loc) (ls : Array Slot), ag29 x2 σ = some res → va_P D vwCl (WM ad cs σ) H → va_S (AM ad) s.heap H locs → lv_has ls 5 [(0, .ref (ad 0)), (1, .int x1), (2, .int x2)] → W p l e R s m args below meth c H locs 0 0 (MQ below (QI D (TYM cs) (WM ad cs) (AM ad) res.1 res.2) args s 0 0 (AM ad)) (F0 m 29 ls [])) (hf : f_X10_first_29 ag29 σ x1 x2 = some res) {H : Heap} {locs : List Loc} (hP : va_P D vwCl (WM ad cs σ) H) (hS : va_S (AM ad) s.heap H locs) {ls : Array Slot} (hl : lv_has ls 5 [(0, .ref (ad 0)), (1, .int x1), (2, .int x2)]) : W p l e R s m args below meth c H locs 0 0 (MQ below (QI D (TYM cs) (WM ad cs) (AM ad) res.1 res.2) args s 0 0 (AM ad)) (F0 m 29 ls []) := by
  have hx := C.1.1
  have hb := C.1.2.1
  unfold f_X10_first_29 at hf
  refine lv_iload_n hx hb dX10_first_29 rfl (lv_at hl 2 rfl) ?_
  refine lv_bipush (v := 30) hx hb dX10_first_30 (by decide) ?_
  refine lv_icmp_ge (tgt := 88) hx hb dX10_first_32 (by decide) (fun c1 => ?_) (fun c1 => ?_)
  · replace hf := zt c1 hf
    refine lv_bipush (v := (-9)) hx hb dX10_first_88 (by decide) ?_
    exact q_iret C hr hlk hP hS (Option.some.inj hf) dX10_first_90
  · replace hf := zf c1 hf
    refine lv_aload_n hx hb dX10_first_35 rfl (lv_at hl 0 rfl) ?_
    refine lv_aload_n hx hb dX10_first_36 rfl (lv_at hl 0 rfl) ?_
    refine lv_iload_n hx hb dX10_first_37 rfl (lv_at hl 2 rfl) ?_
    obtain ⟨r3, hg2, hf⟩ := zb hf
    try dsimp only at hf
    refine q_calli C hS (q_runV C hP (c_X10_brokenIn (l := l) C.2.2.1 hg2) (ci := 9) (As := [.int x2]) (rest := [.ref (ad 0)]) ⟨gd_V k_839 k_841 k_27 k_53 k_842, ⟨rfl, rfl⟩, kd_X10_brokenIn, ⟨Nat.le_trans (Nat.le_of_ble_eq_true rfl) hR.1, Nat.le_trans (Nat.le_of_ble_eq_true rfl) hR.2⟩⟩ (o := 0) rfl rfl rfl rfl rfl (Nat.le_of_ble_eq_true rfl) hl.1 dX10_first_38) (fun H locs hP hS => ?_)
    obtain ⟨σ5, hg4, hf⟩ := zb hf
    try dsimp only at hf
    refine q_callv C hS (q_runV C hP (c_X10_goHour (l := l) C.2.2.1 hg4) (ci := 9) (As := [.int r3]) (rest := []) ⟨gd_V k_843 k_845 k_28 k_53 k_846, ⟨rfl, rfl⟩, kd_X10_goHour, ⟨Nat.le_trans (Nat.le_of_ble_eq_true rfl) hR.1, Nat.le_trans (Nat.le_of_ble_eq_true rfl) hR.2⟩⟩ (o := 0) rfl rfl rfl rfl rfl (Nat.le_of_ble_eq_true rfl) hl.1 dX10_first_41) (fun H locs hP hS => ?_)
    refine lv_aload_n hx hb dX10_first_44 rfl (lv_at hl 0 rfl) ?_
    obtain ⟨r7, hg6, hf⟩ := zb hf
    try dsimp only at hf
    refine q_calli C hS (q_runV C hP (c_X10_undoneNow (l := l) C.2.2.1 hg6) (ci := 9) (As := []) (rest := []) ⟨gd_V k_870 k_872 k_33 k_53 k_873, ⟨rfl, rfl⟩, kd_X10_undoneNow, ⟨Nat.le_trans (Nat.le_of_ble_eq_true rfl) hR.1, Nat.le_trans (Nat.le_of_ble_eq_true rfl) hR.2⟩⟩ (o := 0) rfl rfl rfl rfl rfl (Nat.le_of_ble_eq_true rfl) hl.1 dX10_first_45) (fun H locs hP hS => ?_)
    refine lv_istore_n (lv' := [(3, .int r7), (0, .ref (ad 0)), (1, .int x1), (2, .int x2)]) hx hb dX10_first_48 rfl hl (by decide) rfl (fun ls hl => ?_)
    refine lv_iload_n hx hb dX10_first_49 rfl (lv_at hl 0 rfl) ?_
    refine lv_if_eq (tgt := 82) hx hb dX10_first_50 (by decide) (fun c8 => ?_) (fun c8 => ?_)
    · replace hf := zt c8 hf
      refine lv_iinc (v := x2 + 1) (lv' := [(2, .int (x2 + 1)), (3, .int r7), (0, .ref (ad 0)), (1, .int x1)]) hx hb dX10_first_82 hl (k := 3) rfl rfl (by decide) rfl (fun ls hl => ?_)
      refine lv_goto (tgt := 29) hx hb dX10_first_85 (by decide) ?_
      exact hag29 _ _ _ _ _ hf hP hS (lv_sub hl [2, 3, 0] rfl)
    · replace hf := zf c8 hf
      refine lv_iconst (v := 0) hx hb dX10_first_53 (by decide) ?_
      refine lv_istore (lv' := [(4, .int 0), (3, .int r7), (0, .ref (ad 0)), (1, .int x1), (2, .int x2)]) hx hb dX10_first_54 hl (by decide) rfl (fun ls hl => ?_)
      exact wl_X10_first_56 C hr hlk hR fu _ _ _ _ hf hP hS (lv_sub hl [3, 4, 1, 0] rfl)
set_option maxRecDepth 100000 in
set_option maxHeartbeats 4000000 in
theorem wl_X10_first_29 (C : CX p m c cX10_first 5 s args RX10 D (TYM cs) (WM ad cs) (AM ad)) (hr : meth.sig.returnType = (some .int)) (hlk : meth.locks = false) (hR : 3 ≤ R.frames ∧ 74 ≤ R.locals) {x1 : Int32} {res : Int32 × Sg} : ∀ n : Nat, ∀ (x2 : Int32) (σ : Sg) (H : Heap) (locs : List Loc) (ls : Array Slot), l_X10_first_29 x1 n x2 σ = some res → va_P D vwCl (WM ad cs σ) H → va_S (AM ad) s.heap H locs → lv_has ls 5 [(0, .ref (ad 0)), (1, .int x1), (2, .int x2)] → W p l e R s m args below meth c H locs 0 0 (MQ below (QI D (TYM cs) (WM ad cs) (AM ad) res.1 res.2) args s 0 0 (AM ad)) (F0 m 29 ls []) := by
  intro n
  induction n with
  | zero => intro x2 σ H locs ls hf; cases hf
  | succ n ih =>
    intro x2 σ H locs ls hf hP hS hl
    exact w_X10_first_29 C hr hlk hR (ag29 := l_X10_first_29 x1 n) ih hf hP hS hl
set_option maxRecDepth 100000 in
set_option maxHeartbeats 4000000 in
theorem w_X10_first (C : CX p m c cX10_first 5 s args RX10 D (TYM cs) (WM ad cs) (AM ad)) (hr : meth.sig.returnType = (some .int)) (hlk : meth.locks = false) (hR : 3 ≤ R.frames ∧ 74 ≤ R.locals) {σ : Sg} {x1 : Int32} {res : Int32 × Sg} (hf : f_X10_first σ x1 = some res) {H : Heap} {locs : List Loc} (hP : va_P D vwCl (WM ad cs σ) H) (hS : va_S (AM ad) s.heap H locs) {ls : Array Slot} (hl : lv_has ls 5 [(0, .ref (ad 0)), (1, .int x1)]) : W p l e R s m args below meth c H locs 0 0 (MQ below (QI D (TYM cs) (WM ad cs) (AM ad) res.1 res.2) args s 0 0 (AM ad)) (F0 m 0 ls []) := by
  have hx := C.1.1
  have hb := C.1.2.1
  unfold f_X10_first at hf
  refine lv_iload_n hx hb dX10_first_0 rfl (lv_at hl 1 rfl) ?_
  refine lv_i2l hx hb dX10_first_1 rfl ?_
  refine lv_lconst (v := 0) hx hb dX10_first_2 (by decide) ?_
  refine lv_lconst (v := 1) hx hb dX10_first_3 (by decide) ?_
  obtain ⟨r2, hg1, hf⟩ := zb hf
  try dsimp only at hf
  refine q_calli C hS (q_runS C hP (c_X10_in (l := l) C.2.2.1 hg1) (As := [.long x1.toInt64, .long 0, .long 1]) (rest := []) ⟨gd_S k_760 k_761 k_53 k_762, ⟨rfl, rfl⟩, kd_X10_in, ⟨Nat.le_trans (Nat.le_of_ble_eq_true rfl) hR.1, Nat.le_trans (Nat.le_of_ble_eq_true rfl) hR.2⟩⟩ rfl rfl (Nat.le_of_ble_eq_true rfl) hl.1 dX10_first_4) (fun H locs hP hS => ?_)
  refine lv_if_ne (tgt := 13) hx hb dX10_first_7 (by decide) (fun c3 => ?_) (fun c3 => ?_)
  · replace hf := zf c3 hf
    refine lv_aload_n hx hb dX10_first_13 rfl (lv_at hl 0 rfl) ?_
    refine gX10_1 C hP k_665 dX10_first_14 ?_
    refine lv_if_ne (tgt := 23) hx hb dX10_first_17 (by decide) (fun c4 => ?_) (fun c4 => ?_)
    · replace hf := zf c4 hf
      refine lv_aload_n hx hb dX10_first_23 rfl (lv_at hl 0 rfl) ?_
      obtain ⟨σ6, hg5, hf⟩ := zb hf
      try dsimp only at hf
      refine q_callv C hS (q_runV C hP (c_X10_beginHours (l := l) C.2.2.1 hg5) (ci := 9) (As := []) (rest := []) ⟨gd_V k_835 k_837 k_26 k_53 k_838, ⟨rfl, rfl⟩, kd_X10_beginHours, ⟨Nat.le_trans (Nat.le_of_ble_eq_true rfl) hR.1, Nat.le_trans (Nat.le_of_ble_eq_true rfl) hR.2⟩⟩ (o := 0) rfl rfl rfl rfl rfl (Nat.le_of_ble_eq_true rfl) hl.1 dX10_first_24) (fun H locs hP hS => ?_)
      refine lv_iconst (v := 0) hx hb dX10_first_27 (by decide) ?_
      refine lv_istore_n (lv' := [(2, .int 0), (0, .ref (ad 0)), (1, .int x1)]) hx hb dX10_first_28 rfl hl (by decide) rfl (fun ls hl => ?_)
      exact wl_X10_first_29 C hr hlk hR fu _ _ _ _ _ hf hP hS (lv_sub hl [1, 2, 0] rfl)
    · replace hf := zt c4 hf
      refine lv_bipush (v := (-3)) hx hb dX10_first_20 (by decide) ?_
      exact q_iret C hr hlk hP hS (Option.some.inj hf) dX10_first_22
  · replace hf := zt c3 hf
    refine lv_bipush (v := (-2)) hx hb dX10_first_10 (by decide) ?_
    exact q_iret C hr hlk hP hS (Option.some.inj hf) dX10_first_12
theorem kd_X10_first : yX10_first.cls = RX10 ∧ yX10_first.cls ≠ "java/lang/invoke/MethodHandle" ∧ yX10_first.cls ≠ "java/lang/invoke/VarHandle" ∧ (parseMethodDescriptor yX10_first.desc).map (fun d => d.parameters.length) = some 1 := by decide +kernel
def r_X10_first : Room := { frames := 3, cells := 0, slots := 0, locals := 74 }
set_option maxRecDepth 100000 in
set_option maxHeartbeats 4000000 in
theorem c_X10_first {l : Launch} {D : va_G} {ad : Nat → Nat} {cs : Nat → ClassId} (hD : ∀ σ, va_D (AM ad) (WM ad cs σ)) {σ : Sg} {x1 : Int32} {res : Int32 × Sg} (hf : f_X10_first σ x1 = some res) : Met l yX10_first (wm yX10_first cX10_first 5 (some .int)) r_X10_first (va_Pc [.ref (ad 0), .int x1] (BW D (TYM cs) (WM ad cs) σ)) (QI D (TYM cs) (WM ad cs) (AM ad) res.1 res.2) 0 0 (AM ad) := by
  refine q_enter (by decide) hD (Nat.le_of_ble_eq_true rfl) ?_
  intro p e s m below meth c C hr hlk hP hS ls hl
  exact w_X10_first C hr hlk ⟨Nat.le_of_ble_eq_true rfl, Nat.le_of_ble_eq_true rfl⟩ hf hP hS hl

set_option maxRecDepth 100000 in
set_option maxHeartbeats 4000000 in
theorem w_X10_undoneBy (C : CX p m c cX10_undoneBy 2 s args RX10 D (TYM cs) (WM ad cs) (AM ad)) (hr : meth.sig.returnType = (some .int)) (hlk : meth.locks = false) (hR : 4 ≤ R.frames ∧ 95 ≤ R.locals) {σ : Sg} {x1 : Int32} {res : Int32 × Sg} (hf : f_X10_undoneBy σ x1 = some res) {H : Heap} {locs : List Loc} (hP : va_P D vwCl (WM ad cs σ) H) (hS : va_S (AM ad) s.heap H locs) {ls : Array Slot} (hl : lv_has ls 2 [(0, .ref (ad 0)), (1, .int x1)]) : W p l e R s m args below meth c H locs 0 0 (MQ below (QI D (TYM cs) (WM ad cs) (AM ad) res.1 res.2) args s 0 0 (AM ad)) (F0 m 0 ls []) := by
  have hx := C.1.1
  have hb := C.1.2.1
  unfold f_X10_undoneBy at hf
  refine lv_aload_n hx hb dX10_undoneBy_0 rfl (lv_at hl 0 rfl) ?_
  refine lv_iload_n hx hb dX10_undoneBy_1 rfl (lv_at hl 1 rfl) ?_
  obtain ⟨σ2, hg1, hf⟩ := zb hf
  try dsimp only at hf
  refine q_callv C hS (q_runV C hP (c_X10_goFirst (l := l) C.2.2.1 hg1) (ci := 9) (As := [.int x1]) (rest := []) ⟨gd_V k_909 k_911 k_38 k_53 k_912, ⟨rfl, rfl⟩, kd_X10_goFirst, ⟨Nat.le_trans (Nat.le_of_ble_eq_true rfl) hR.1, Nat.le_trans (Nat.le_of_ble_eq_true rfl) hR.2⟩⟩ (o := 0) rfl rfl rfl rfl rfl (Nat.le_of_ble_eq_true rfl) hl.1 dX10_undoneBy_2) (fun H locs hP hS => ?_)
  refine lv_aload_n hx hb dX10_undoneBy_5 rfl (lv_at hl 0 rfl) ?_
  obtain ⟨r4, hg3, hf⟩ := zb hf
  try dsimp only at hf
  refine q_calli C hS (q_runV C hP (c_X10_undoneNow (l := l) C.2.2.1 hg3) (ci := 9) (As := []) (rest := []) ⟨gd_V k_870 k_872 k_33 k_53 k_873, ⟨rfl, rfl⟩, kd_X10_undoneNow, ⟨Nat.le_trans (Nat.le_of_ble_eq_true rfl) hR.1, Nat.le_trans (Nat.le_of_ble_eq_true rfl) hR.2⟩⟩ (o := 0) rfl rfl rfl rfl rfl (Nat.le_of_ble_eq_true rfl) hl.1 dX10_undoneBy_6) (fun H locs hP hS => ?_)
  obtain ⟨r6, hg5, hf⟩ := zb hf
  try dsimp only at hf
  refine q_calli C hS (q_runS C hP (c_X10_bits (l := l) C.2.2.1 hg5) (As := [.int r4]) (rest := []) ⟨gd_S k_902 k_903 k_53 k_904, ⟨rfl, rfl⟩, kd_X10_bits, ⟨Nat.le_trans (Nat.le_of_ble_eq_true rfl) hR.1, Nat.le_trans (Nat.le_of_ble_eq_true rfl) hR.2⟩⟩ rfl rfl (Nat.le_of_ble_eq_true rfl) hl.1 dX10_undoneBy_9) (fun H locs hP hS => ?_)
  exact q_iret C hr hlk hP hS (Option.some.inj hf) dX10_undoneBy_12
theorem kd_X10_undoneBy : yX10_undoneBy.cls = RX10 ∧ yX10_undoneBy.cls ≠ "java/lang/invoke/MethodHandle" ∧ yX10_undoneBy.cls ≠ "java/lang/invoke/VarHandle" ∧ (parseMethodDescriptor yX10_undoneBy.desc).map (fun d => d.parameters.length) = some 1 := by decide +kernel
def r_X10_undoneBy : Room := { frames := 4, cells := 0, slots := 0, locals := 95 }
set_option maxRecDepth 100000 in
set_option maxHeartbeats 4000000 in
theorem c_X10_undoneBy {l : Launch} {D : va_G} {ad : Nat → Nat} {cs : Nat → ClassId} (hD : ∀ σ, va_D (AM ad) (WM ad cs σ)) {σ : Sg} {x1 : Int32} {res : Int32 × Sg} (hf : f_X10_undoneBy σ x1 = some res) : Met l yX10_undoneBy (wm yX10_undoneBy cX10_undoneBy 2 (some .int)) r_X10_undoneBy (va_Pc [.ref (ad 0), .int x1] (BW D (TYM cs) (WM ad cs) σ)) (QI D (TYM cs) (WM ad cs) (AM ad) res.1 res.2) 0 0 (AM ad) := by
  refine q_enter (by decide) hD (Nat.le_of_ble_eq_true rfl) ?_
  intro p e s m below meth c C hr hlk hP hS ls hl
  exact w_X10_undoneBy C hr hlk ⟨Nat.le_of_ble_eq_true rfl, Nat.le_of_ble_eq_true rfl⟩ hf hP hS hl

set_option maxRecDepth 100000 in
set_option maxHeartbeats 4000000 in
theorem w_X10_frailest_67 (C : CX p m c cX10_frailest 5 s args RX10 D (TYM cs) (WM ad cs) (AM ad)) (hr : meth.sig.returnType = (some .int)) (hlk : meth.locks = false) (hR : 5 ≤ R.frames ∧ 116 ≤ R.locals) {σ : Sg} {x1 : Int32} {x2 : Int32} {x3 : Int32} {s0 : Int32} {res : Int32 × Sg} {ag10 : Int32 → Int32 → Sg → Option (Int32 × Sg)} (hag10 : ∀ (x2 : Int32) (x3 : Int32) (σ : Sg) (H : Heap) (locs : List Loc) (ls : Array Slot), ag10 x2 x3 σ = some res → va_P D vwCl (WM ad cs σ) H → va_S (AM ad) s.heap H locs → lv_has ls 5 [(0, .ref (ad 0)), (1, .int x1), (2, .int x2), (3, .int x3)] → W p l e R s m args below meth c H locs 0 0 (MQ below (QI D (TYM cs) (WM ad cs) (AM ad) res.1 res.2) args s 0 0 (AM ad)) (F0 m 10 ls [])) (hf : f_X10_frailest_67 ag10 σ x1 x2 x3 s0 = some res) {H : Heap} {locs : List Loc} (hP : va_P D vwCl (WM ad cs σ) H) (hS : va_S (AM ad) s.heap H locs) {ls : Array Slot} (hl : lv_has ls 5 [(0, .ref (ad 0)), (1, .int x1), (2, .int x2), (3, .int x3)]) : W p l e R s m args below meth c H locs 0 0 (MQ below (QI D (TYM cs) (WM ad cs) (AM ad) res.1 res.2) args s 0 0 (AM ad)) (F0 m 67 ls [.int s0, .ref (ad 0)]) := by
  have hx := C.1.1
  have hb := C.1.2.1
  unfold f_X10_frailest_67 at hf
  refine pX10_20 C hP hS k_684 dX10_frailest_67 (fun H locs hP hS => ?_)
  refine lv_iinc (v := x3 + 1) (lv' := [(3, .int (x3 + 1)), (0, .ref (ad 0)), (1, .int x1), (2, .int x2)]) hx hb dX10_frailest_70 hl (k := 3) rfl rfl (by decide) rfl (fun ls hl => ?_)
  refine lv_goto (tgt := 10) hx hb dX10_frailest_73 (by decide) ?_
  exact hag10 _ _ _ _ _ _ hf hP hS (lv_sub hl [1, 2, 3, 0] rfl)
set_option maxRecDepth 100000 in
set_option maxHeartbeats 4000000 in
theorem w_X10_frailest_47 (C : CX p m c cX10_frailest 5 s args RX10 D (TYM cs) (WM ad cs) (AM ad)) (hr : meth.sig.returnType = (some .int)) (hlk : meth.locks = false) (hR : 5 ≤ R.frames ∧ 116 ≤ R.locals) {σ : Sg} {x1 : Int32} {x3 : Int32} {x4 : Int32} {s0 : Int32} {res : Int32 × Sg} {ag10 : Int32 → Int32 → Sg → Option (Int32 × Sg)} (hag10 : ∀ (x2 : Int32) (x3 : Int32) (σ : Sg) (H : Heap) (locs : List Loc) (ls : Array Slot), ag10 x2 x3 σ = some res → va_P D vwCl (WM ad cs σ) H → va_S (AM ad) s.heap H locs → lv_has ls 5 [(0, .ref (ad 0)), (1, .int x1), (2, .int x2), (3, .int x3)] → W p l e R s m args below meth c H locs 0 0 (MQ below (QI D (TYM cs) (WM ad cs) (AM ad) res.1 res.2) args s 0 0 (AM ad)) (F0 m 10 ls [])) (hf : f_X10_frailest_47 ag10 σ x1 x3 x4 s0 = some res) {H : Heap} {locs : List Loc} (hP : va_P D vwCl (WM ad cs σ) H) (hS : va_S (AM ad) s.heap H locs) {ls : Array Slot} (hl : lv_has ls 5 [(0, .ref (ad 0)), (1, .int x1), (3, .int x3), (4, .int x4)]) : W p l e R s m args below meth c H locs 0 0 (MQ below (QI D (TYM cs) (WM ad cs) (AM ad) res.1 res.2) args s 0 0 (AM ad)) (F0 m 47 ls [.int s0]) := by
  have hx := C.1.1
  have hb := C.1.2.1
  unfold f_X10_frailest_47 at hf
  refine lv_istore_n (lv' := [(2, .int s0), (0, .ref (ad 0)), (1, .int x1), (3, .int x3), (4, .int x4)]) hx hb dX10_frailest_47 rfl hl (by decide) rfl (fun ls hl => ?_)
  refine lv_aload_n hx hb dX10_frailest_48 rfl (lv_at hl 1 rfl) ?_
  refine lv_iload hx hb dX10_frailest_49 (lv_at hl 4 rfl) ?_
  refine lv_aload_n hx hb dX10_frailest_51 rfl (lv_at hl 1 rfl) ?_
  refine gX10_20 C hP k_684 dX10_frailest_52 ?_
  refine lv_icmp_le (tgt := 63) hx hb dX10_frailest_55 (by decide) (fun c1 => ?_) (fun c1 => ?_)
  · replace hf := zt c1 hf
    refine lv_aload_n hx hb dX10_frailest_63 rfl (lv_at hl 1 rfl) ?_
    refine gX10_20 C hP k_684 dX10_frailest_64 ?_
    exact w_X10_frailest_67 C hr hlk hR hag10 hf hP hS (lv_sub hl [1, 2, 0, 3] rfl)
  · replace hf := zf c1 hf
    refine lv_iload hx hb dX10_frailest_58 (lv_at hl 4 rfl) ?_
    refine lv_goto (tgt := 67) hx hb dX10_frailest_60 (by decide) ?_
    exact w_X10_frailest_67 C hr hlk hR hag10 hf hP hS (lv_sub hl [1, 2, 0, 3] rfl)
set_option maxRecDepth 100000 in
set_option maxHeartbeats 4000000 in
theorem w_X10_frailest_10 (C : CX p m c cX10_frailest 5 s args RX10 D (TYM cs) (WM ad cs) (AM ad)) (hr : meth.sig.returnType = (some .int)) (hlk : meth.locks = false) (hR : 5 ≤ R.frames ∧ 116 ≤ R.locals) {σ : Sg} {x1 : Int32} {x2 : Int32} {x3 : Int32} {res : Int32 × Sg} {ag10 : Int32 → Int32 → Sg → Option (Int32 × Sg)} (hag10 : ∀ (x2 : Int32) (x3 : Int32) (σ : Sg) (H : Heap) (locs : List Loc) (ls : Array Slot), ag10 x2 x3 σ = some res → va_P D vwCl (WM ad cs σ) H → va_S (AM ad) s.heap H locs → lv_has ls 5 [(0, .ref (ad 0)), (1, .int x1), (2, .int x2), (3, .int x3)] → W p l e R s m args below meth c H locs 0 0 (MQ below (QI D (TYM cs) (WM ad cs) (AM ad) res.1 res.2) args s 0 0 (AM ad)) (F0 m 10 ls [])) (hf : f_X10_frailest_10 ag10 σ x1 x2 x3 = some res) {H : Heap} {locs : List Loc} (hP : va_P D vwCl (WM ad cs σ) H) (hS : va_S (AM ad) s.heap H locs) {ls : Array Slot} (hl : lv_has ls 5 [(0, .ref (ad 0)), (1, .int x1), (2, .int x2), (3, .int x3)]) : W p l e R s m args below meth c H locs 0 0 (MQ below (QI D (TYM cs) (WM ad cs) (AM ad) res.1 res.2) args s 0 0 (AM ad)) (F0 m 10 ls []) := by
  have hx := C.1.1
  have hb := C.1.2.1
  unfold f_X10_frailest_10 at hf
  refine lv_iload_n hx hb dX10_frailest_10 rfl (lv_at hl 3 rfl) ?_
  refine lv_aload_n hx hb dX10_frailest_11 rfl (lv_at hl 0 rfl) ?_
  obtain ⟨r2, hg1, hf⟩ := zb hf
  try dsimp only at hf
  refine q_calli C hS (q_runV C hP (c_X10_all (l := l) C.2.2.1 hg1) (ci := 9) (As := []) (rest := [.int x3]) ⟨gd_V k_898 k_900 k_36 k_53 k_901, ⟨rfl, rfl⟩, kd_X10_all, ⟨Nat.le_trans (Nat.le_of_ble_eq_true rfl) hR.1, Nat.le_trans (Nat.le_of_ble_eq_true rfl) hR.2⟩⟩ (o := 0) rfl rfl rfl rfl rfl (Nat.le_of_ble_eq_true rfl) hl.1 dX10_frailest_12) (fun H locs hP hS => ?_)
  refine lv_icmp_gt (tgt := 76) hx hb dX10_frailest_15 (by decide) (fun c3 => ?_) (fun c3 => ?_)
  · replace hf := zt c3 hf
    refine lv_iload_n hx hb dX10_frailest_76 rfl (lv_at hl 2 rfl) ?_
    exact q_iret C hr hlk hP hS (Option.some.inj hf) dX10_frailest_77
  · replace hf := zf c3 hf
    refine lv_iload_n hx hb dX10_frailest_18 rfl (lv_at hl 3 rfl) ?_
    obtain ⟨r5, hg4, hf⟩ := zb hf
    try dsimp only at hf
    refine q_calli C hS (q_runS C hP (c_X10_bits (l := l) C.2.2.1 hg4) (As := [.int x3]) (rest := []) ⟨gd_S k_902 k_903 k_53 k_904, ⟨rfl, rfl⟩, kd_X10_bits, ⟨Nat.le_trans (Nat.le_of_ble_eq_true rfl) hR.1, Nat.le_trans (Nat.le_of_ble_eq_true rfl) hR.2⟩⟩ rfl rfl (Nat.le_of_ble_eq_true rfl) hl.1 dX10_frailest_19) (fun H locs hP hS => ?_)
    refine lv_iload_n hx hb dX10_frailest_22 rfl (lv_at hl 1 rfl) ?_
    refine lv_icmp_ne (tgt := 70) hx hb dX10_frailest_23 (by decide) (fun c6 => ?_) (fun c6 => ?_)
    · replace hf := zf c6 hf
      refine lv_iinc (v := x3 + 1) (lv' := [(3, .int (x3 + 1)), (0, .ref (ad 0)), (1, .int x1), (2, .int x2)]) hx hb dX10_frailest_70 hl (k := 3) rfl rfl (by decide) rfl (fun ls hl => ?_)
      refine lv_goto (tgt := 10) hx hb dX10_frailest_73 (by decide) ?_
      exact hag10 _ _ _ _ _ _ hf hP hS (lv_sub hl [1, 2, 3, 0] rfl)
    · replace hf := zt c6 hf
      refine lv_aload_n hx hb dX10_frailest_26 rfl (lv_at hl 0 rfl) ?_
      refine lv_iload_n hx hb dX10_frailest_27 rfl (lv_at hl 3 rfl) ?_
      obtain ⟨⟨r8, σ9⟩, hg7, hf⟩ := zb hf
      try dsimp only at hf
      refine q_calli C hS (q_runV C hP (c_X10_undoneBy (l := l) C.2.2.1 hg7) (ci := 9) (As := [.int x3]) (rest := []) ⟨gd_V k_905 k_907 k_37 k_53 k_908, ⟨rfl, rfl⟩, kd_X10_undoneBy, ⟨Nat.le_trans (Nat.le_of_ble_eq_true rfl) hR.1, Nat.le_trans (Nat.le_of_ble_eq_true rfl) hR.2⟩⟩ (o := 0) rfl rfl rfl rfl rfl (Nat.le_of_ble_eq_true rfl) hl.1 dX10_frailest_28) (fun H locs hP hS => ?_)
      refine lv_istore (lv' := [(4, .int r8), (0, .ref (ad 0)), (1, .int x1), (2, .int x2), (3, .int x3)]) hx hb dX10_frailest_31 hl (by decide) rfl (fun ls hl => ?_)
      refine lv_iload hx hb dX10_frailest_33 (lv_at hl 0 rfl) ?_
      refine lv_aload_n hx hb dX10_frailest_35 rfl (lv_at hl 1 rfl) ?_
      refine gX10_20 C hP k_684 dX10_frailest_36 ?_
      refine lv_icmp_le (tgt := 46) hx hb dX10_frailest_39 (by decide) (fun c10 => ?_) (fun c10 => ?_)
      · replace hf := zt c10 hf
        refine lv_iload_n hx hb dX10_frailest_46 rfl (lv_at hl 3 rfl) ?_
        exact w_X10_frailest_47 C hr hlk hR hag10 hf hP hS (lv_sub hl [1, 2, 4, 0] rfl)
      · replace hf := zf c10 hf
        refine lv_iload_n hx hb dX10_frailest_42 rfl (lv_at hl 4 rfl) ?_
        refine lv_goto (tgt := 47) hx hb dX10_frailest_43 (by decide) ?_
        exact w_X10_frailest_47 C hr hlk hR hag10 hf hP hS (lv_sub hl [1, 2, 4, 0] rfl)
set_option maxRecDepth 100000 in
set_option maxHeartbeats 4000000 in
theorem wl_X10_frailest_10 (C : CX p m c cX10_frailest 5 s args RX10 D (TYM cs) (WM ad cs) (AM ad)) (hr : meth.sig.returnType = (some .int)) (hlk : meth.locks = false) (hR : 5 ≤ R.frames ∧ 116 ≤ R.locals) {x1 : Int32} {res : Int32 × Sg} : ∀ n : Nat, ∀ (x2 : Int32) (x3 : Int32) (σ : Sg) (H : Heap) (locs : List Loc) (ls : Array Slot), l_X10_frailest_10 x1 n x2 x3 σ = some res → va_P D vwCl (WM ad cs σ) H → va_S (AM ad) s.heap H locs → lv_has ls 5 [(0, .ref (ad 0)), (1, .int x1), (2, .int x2), (3, .int x3)] → W p l e R s m args below meth c H locs 0 0 (MQ below (QI D (TYM cs) (WM ad cs) (AM ad) res.1 res.2) args s 0 0 (AM ad)) (F0 m 10 ls []) := by
  intro n
  induction n with
  | zero => intro x2 x3 σ H locs ls hf; cases hf
  | succ n ih =>
    intro x2 x3 σ H locs ls hf hP hS hl
    exact w_X10_frailest_10 C hr hlk hR (ag10 := l_X10_frailest_10 x1 n) ih hf hP hS hl
set_option maxRecDepth 100000 in
set_option maxHeartbeats 4000000 in
theorem w_X10_frailest (C : CX p m c cX10_frailest 5 s args RX10 D (TYM cs) (WM ad cs) (AM ad)) (hr : meth.sig.returnType = (some .int)) (hlk : meth.locks = false) (hR : 5 ≤ R.frames ∧ 116 ≤ R.locals) {σ : Sg} {x1 : Int32} {res : Int32 × Sg} (hf : f_X10_frailest σ x1 = some res) {H : Heap} {locs : List Loc} (hP : va_P D vwCl (WM ad cs σ) H) (hS : va_S (AM ad) s.heap H locs) {ls : Array Slot} (hl : lv_has ls 5 [(0, .ref (ad 0)), (1, .int x1)]) : W p l e R s m args below meth c H locs 0 0 (MQ below (QI D (TYM cs) (WM ad cs) (AM ad) res.1 res.2) args s 0 0 (AM ad)) (F0 m 0 ls []) := by
  have hx := C.1.1
  have hb := C.1.2.1
  unfold f_X10_frailest at hf
  refine lv_bipush (v := (-9)) hx hb dX10_frailest_0 (by decide) ?_
  refine lv_istore_n (lv' := [(2, .int (-9)), (0, .ref (ad 0)), (1, .int x1)]) hx hb dX10_frailest_2 rfl hl (by decide) rfl (fun ls hl => ?_)
  refine lv_aload_n hx hb dX10_frailest_3 rfl (lv_at hl 1 rfl) ?_
  refine lv_iconst (v := (-1)) hx hb dX10_frailest_4 (by decide) ?_
  refine pX10_20 C hP hS k_684 dX10_frailest_5 (fun H locs hP hS => ?_)
  refine lv_iconst (v := 0) hx hb dX10_frailest_8 (by decide) ?_
  refine lv_istore_n (lv' := [(3, .int 0), (2, .int (-9)), (0, .ref (ad 0)), (1, .int x1)]) hx hb dX10_frailest_9 rfl hl (by decide) rfl (fun ls hl => ?_)
  exact wl_X10_frailest_10 C hr hlk hR fu _ _ _ _ _ _ hf hP hS (lv_sub hl [2, 3, 1, 0] rfl)
theorem kd_X10_frailest : yX10_frailest.cls = RX10 ∧ yX10_frailest.cls ≠ "java/lang/invoke/MethodHandle" ∧ yX10_frailest.cls ≠ "java/lang/invoke/VarHandle" ∧ (parseMethodDescriptor yX10_frailest.desc).map (fun d => d.parameters.length) = some 1 := by decide +kernel
def r_X10_frailest : Room := { frames := 5, cells := 0, slots := 0, locals := 116 }
set_option maxRecDepth 100000 in
set_option maxHeartbeats 4000000 in
theorem c_X10_frailest {l : Launch} {D : va_G} {ad : Nat → Nat} {cs : Nat → ClassId} (hD : ∀ σ, va_D (AM ad) (WM ad cs σ)) {σ : Sg} {x1 : Int32} {res : Int32 × Sg} (hf : f_X10_frailest σ x1 = some res) : Met l yX10_frailest (wm yX10_frailest cX10_frailest 5 (some .int)) r_X10_frailest (va_Pc [.ref (ad 0), .int x1] (BW D (TYM cs) (WM ad cs) σ)) (QI D (TYM cs) (WM ad cs) (AM ad) res.1 res.2) 0 0 (AM ad) := by
  refine q_enter (by decide) hD (Nat.le_of_ble_eq_true rfl) ?_
  intro p e s m below meth c C hr hlk hP hS ls hl
  exact w_X10_frailest C hr hlk ⟨Nat.le_of_ble_eq_true rfl, Nat.le_of_ble_eq_true rfl⟩ hf hP hS hl

set_option maxRecDepth 100000 in
set_option maxHeartbeats 4000000 in
theorem w_X10_frail (C : CX p m c cX10_frail 4 s args RX10 D (TYM cs) (WM ad cs) (AM ad)) (hr : meth.sig.returnType = (some .int)) (hlk : meth.locks = false) (hR : 6 ≤ R.frames ∧ 140 ≤ R.locals) {σ : Sg} {x1 : Int32} {x2 : Int32} {res : Int32 × Sg} (hf : f_X10_frail σ x1 x2 = some res) {H : Heap} {locs : List Loc} (hP : va_P D vwCl (WM ad cs σ) H) (hS : va_S (AM ad) s.heap H locs) {ls : Array Slot} (hl : lv_has ls 4 [(0, .ref (ad 0)), (1, .int x1), (2, .int x2)]) : W p l e R s m args below meth c H locs 0 0 (MQ below (QI D (TYM cs) (WM ad cs) (AM ad) res.1 res.2) args s 0 0 (AM ad)) (F0 m 0 ls []) := by
  have hx := C.1.1
  have hb := C.1.2.1
  unfold f_X10_frail at hf
  refine lv_aload_n hx hb dX10_frail_0 rfl (lv_at hl 0 rfl) ?_
  refine gX10_1 C hP k_665 dX10_frail_1 ?_
  refine lv_if_ne (tgt := 10) hx hb dX10_frail_4 (by decide) (fun c1 => ?_) (fun c1 => ?_)
  · replace hf := zf c1 hf
    refine lv_iload_n hx hb dX10_frail_10 rfl (lv_at hl 1 rfl) ?_
    refine lv_i2l hx hb dX10_frail_11 rfl ?_
    refine lv_lconst (v := 0) hx hb dX10_frail_12 (by decide) ?_
    refine lv_aload_n hx hb dX10_frail_13 rfl (lv_at hl 0 rfl) ?_
    refine gX10_1 C hP k_665 dX10_frail_14 ?_
    refine lv_i2l hx hb dX10_frail_17 rfl ?_
    obtain ⟨r3, hg2, hf⟩ := zb hf
    try dsimp only at hf
    refine q_calli C hS (q_runS C hP (c_X10_in (l := l) C.2.2.1 hg2) (As := [.long x1.toInt64, .long 0, .long ((σ 0 1).toInt64)]) (rest := []) ⟨gd_S k_760 k_761 k_53 k_762, ⟨rfl, rfl⟩, kd_X10_in, ⟨Nat.le_trans (Nat.le_of_ble_eq_true rfl) hR.1, Nat.le_trans (Nat.le_of_ble_eq_true rfl) hR.2⟩⟩ rfl rfl (Nat.le_of_ble_eq_true rfl) hl.1 dX10_frail_18) (fun H locs hP hS => ?_)
    refine lv_if_eq (tgt := 34) hx hb dX10_frail_21 (by decide) (fun c4 => ?_) (fun c4 => ?_)
    · replace hf := zt c4 hf
      refine lv_bipush (v := (-2)) hx hb dX10_frail_34 (by decide) ?_
      exact q_iret C hr hlk hP hS (Option.some.inj hf) dX10_frail_36
    · replace hf := zf c4 hf
      refine lv_iload_n hx hb dX10_frail_24 rfl (lv_at hl 2 rfl) ?_
      refine lv_i2l hx hb dX10_frail_25 rfl ?_
      refine lv_lconst (v := 0) hx hb dX10_frail_26 (by decide) ?_
      refine lv_lconst (v := 1) hx hb dX10_frail_27 (by decide) ?_
      obtain ⟨r6, hg5, hf⟩ := zb hf
      try dsimp only at hf
      refine q_calli C hS (q_runS C hP (c_X10_in (l := l) C.2.2.1 hg5) (As := [.long x2.toInt64, .long 0, .long 1]) (rest := []) ⟨gd_S k_760 k_761 k_53 k_762, ⟨rfl, rfl⟩, kd_X10_in, ⟨Nat.le_trans (Nat.le_of_ble_eq_true rfl) hR.1, Nat.le_trans (Nat.le_of_ble_eq_true rfl) hR.2⟩⟩ rfl rfl (Nat.le_of_ble_eq_true rfl) hl.1 dX10_frail_28) (fun H locs hP hS => ?_)
      refine lv_if_ne (tgt := 37) hx hb dX10_frail_31 (by decide) (fun c7 => ?_) (fun c7 => ?_)
      · replace hf := zf c7 hf
        refine lv_aload_n hx hb dX10_frail_37 rfl (lv_at hl 0 rfl) ?_
        refine lv_iload_n hx hb dX10_frail_38 rfl (lv_at hl 1 rfl) ?_
        obtain ⟨⟨r9, σ10⟩, hg8, hf⟩ := zb hf
        try dsimp only at hf
        refine q_calli C hS (q_runV C hP (c_X10_frailest (l := l) C.2.2.1 hg8) (ci := 9) (As := [.int x1]) (rest := []) ⟨gd_V k_894 k_896 k_35 k_53 k_897, ⟨rfl, rfl⟩, kd_X10_frailest, ⟨Nat.le_trans (Nat.le_of_ble_eq_true rfl) hR.1, Nat.le_trans (Nat.le_of_ble_eq_true rfl) hR.2⟩⟩ (o := 0) rfl rfl rfl rfl rfl (Nat.le_of_ble_eq_true rfl) hl.1 dX10_frail_39) (fun H locs hP hS => ?_)
        refine lv_istore_n (lv' := [(3, .int r9), (0, .ref (ad 0)), (1, .int x1), (2, .int x2)]) hx hb dX10_frail_42 rfl hl (by decide) rfl (fun ls hl => ?_)
        refine lv_iload_n hx hb dX10_frail_43 rfl (lv_at hl 3 rfl) ?_
        refine lv_if_ne (tgt := 51) hx hb dX10_frail_44 (by decide) (fun c11 => ?_) (fun c11 => ?_)
        · replace hf := zf c11 hf
          refine lv_aload_n hx hb dX10_frail_51 rfl (lv_at hl 1 rfl) ?_
          refine gX10_20 C hP k_684 dX10_frail_52 ?_
          exact q_iret C hr hlk hP hS (Option.some.inj hf) dX10_frail_55
        · replace hf := zt c11 hf
          refine lv_iload_n hx hb dX10_frail_47 rfl (lv_at hl 0 rfl) ?_
          refine lv_goto (tgt := 55) hx hb dX10_frail_48 (by decide) ?_
          exact q_iret C hr hlk hP hS (Option.some.inj hf) dX10_frail_55
      · replace hf := zt c7 hf
        refine lv_bipush (v := (-2)) hx hb dX10_frail_34 (by decide) ?_
        exact q_iret C hr hlk hP hS (Option.some.inj hf) dX10_frail_36
  · replace hf := zt c1 hf
    refine lv_bipush (v := (-3)) hx hb dX10_frail_7 (by decide) ?_
    exact q_iret C hr hlk hP hS (Option.some.inj hf) dX10_frail_9
theorem kd_X10_frail : yX10_frail.cls = RX10 ∧ yX10_frail.cls ≠ "java/lang/invoke/MethodHandle" ∧ yX10_frail.cls ≠ "java/lang/invoke/VarHandle" ∧ (parseMethodDescriptor yX10_frail.desc).map (fun d => d.parameters.length) = some 2 := by decide +kernel
def r_X10_frail : Room := { frames := 6, cells := 0, slots := 0, locals := 140 }
set_option maxRecDepth 100000 in
set_option maxHeartbeats 4000000 in
theorem c_X10_frail {l : Launch} {D : va_G} {ad : Nat → Nat} {cs : Nat → ClassId} (hD : ∀ σ, va_D (AM ad) (WM ad cs σ)) {σ : Sg} {x1 : Int32} {x2 : Int32} {res : Int32 × Sg} (hf : f_X10_frail σ x1 x2 = some res) : Met l yX10_frail (wm yX10_frail cX10_frail 4 (some .int)) r_X10_frail (va_Pc [.ref (ad 0), .int x1, .int x2] (BW D (TYM cs) (WM ad cs) σ)) (QI D (TYM cs) (WM ad cs) (AM ad) res.1 res.2) 0 0 (AM ad) := by
  refine q_enter (by decide) hD (Nat.le_of_ble_eq_true rfl) ?_
  intro p e s m below meth c C hr hlk hP hS ls hl
  exact w_X10_frail C hr hlk ⟨Nat.le_of_ble_eq_true rfl, Nat.le_of_ble_eq_true rfl⟩ hf hP hS hl

set_option maxRecDepth 100000 in
set_option maxHeartbeats 4000000 in
theorem w_X10_plot_38 (C : CX p m c cX10_plot 4 s args RX10 D (TYM cs) (WM ad cs) (AM ad)) (hr : meth.sig.returnType = (some .int)) (hlk : meth.locks = false) (hR : 4 ≤ R.frames ∧ 95 ≤ R.locals) {σ : Sg} {x1 : Int32} {x2 : Int32} {x3 : Int32} {res : Int32 × Sg} {ag15 : Int32 → Int32 → Sg → Option (Int32 × Sg)} (hag15 : ∀ (x2 : Int32) (x3 : Int32) (σ : Sg) (H : Heap) (locs : List Loc) (ls : Array Slot), ag15 x2 x3 σ = some res → va_P D vwCl (WM ad cs σ) H → va_S (AM ad) s.heap H locs → lv_has ls 4 [(0, .ref (ad 0)), (1, .int x1), (2, .int x2), (3, .int x3)] → W p l e R s m args below meth c H locs 0 0 (MQ below (QI D (TYM cs) (WM ad cs) (AM ad) res.1 res.2) args s 0 0 (AM ad)) (F0 m 15 ls [])) (hf : f_X10_plot_38 ag15 σ x1 x2 x3 = some res) {H : Heap} {locs : List Loc} (hP : va_P D vwCl (WM ad cs σ) H) (hS : va_S (AM ad) s.heap H locs) {ls : Array Slot} (hl : lv_has ls 4 [(0, .ref (ad 0)), (1, .int x1), (2, .int x2), (3, .int x3)]) : W p l e R s m args below meth c H locs 0 0 (MQ below (QI D (TYM cs) (WM ad cs) (AM ad) res.1 res.2) args s 0 0 (AM ad)) (F0 m 38 ls []) := by
  have hx := C.1.1
  have hb := C.1.2.1
  unfold f_X10_plot_38 at hf
  refine lv_aload_n hx hb dX10_plot_38 rfl (lv_at hl 0 rfl) ?_
  refine lv_iload_n hx hb dX10_plot_39 rfl (lv_at hl 3 rfl) ?_
  obtain ⟨σ2, hg1, hf⟩ := zb hf
  try dsimp only at hf
  refine q_callv C hS (q_runV C hP (c_X10_goFirst (l := l) C.2.2.1 hg1) (ci := 9) (As := [.int x3]) (rest := []) ⟨gd_V k_909 k_911 k_38 k_53 k_912, ⟨rfl, rfl⟩, kd_X10_goFirst, ⟨Nat.le_trans (Nat.le_of_ble_eq_true rfl) hR.1, Nat.le_trans (Nat.le_of_ble_eq_true rfl) hR.2⟩⟩ (o := 0) rfl rfl rfl rfl rfl (Nat.le_of_ble_eq_true rfl) hl.1 dX10_plot_40) (fun H locs hP hS => ?_)
  refine lv_aload_n hx hb dX10_plot_43 rfl (lv_at hl 0 rfl) ?_
  refine gX10_17 C hP k_681 dX10_plot_44 ?_
  refine lv_iload_n hx hb dX10_plot_47 rfl (lv_at hl 1 rfl) ?_
  obtain ⟨h3, hf⟩ := zc hf
  refine aldM C hP (n := 8) rfl h3 dX10_plot_48 ?_
  refine lv_if_ge (tgt := 56) hx hb dX10_plot_49 (by decide) (fun c4 => ?_) (fun c4 => ?_)
  · replace hf := zt c4 hf
    refine lv_iload_n hx hb dX10_plot_56 rfl (lv_at hl 2 rfl) ?_
    refine lv_istore_n (lv' := [(2, .int x2), (0, .ref (ad 0)), (1, .int x1), (3, .int x3)]) hx hb dX10_plot_57 rfl hl (by decide) rfl (fun ls hl => ?_)
    refine lv_iinc (v := x3 + 1) (lv' := [(3, .int (x3 + 1)), (2, .int x2), (0, .ref (ad 0)), (1, .int x1)]) hx hb dX10_plot_58 hl (k := 3) rfl rfl (by decide) rfl (fun ls hl => ?_)
    refine lv_goto (tgt := 15) hx hb dX10_plot_61 (by decide) ?_
    exact hag15 _ _ _ _ _ _ hf hP hS (lv_sub hl [2, 3, 1, 0] rfl)
  · replace hf := zf c4 hf
    refine lv_iload_n hx hb dX10_plot_52 rfl (lv_at hl 3 rfl) ?_
    refine lv_goto (tgt := 57) hx hb dX10_plot_53 (by decide) ?_
    refine lv_istore_n (lv' := [(2, .int x3), (0, .ref (ad 0)), (1, .int x1), (3, .int x3)]) hx hb dX10_plot_57 rfl hl (by decide) rfl (fun ls hl => ?_)
    refine lv_iinc (v := x3 + 1) (lv' := [(3, .int (x3 + 1)), (2, .int x3), (0, .ref (ad 0)), (1, .int x1)]) hx hb dX10_plot_58 hl (k := 3) rfl rfl (by decide) rfl (fun ls hl => ?_)
    refine lv_goto (tgt := 15) hx hb dX10_plot_61 (by decide) ?_
    exact hag15 _ _ _ _ _ _ hf hP hS (lv_sub hl [2, 3, 1, 0] rfl)
set_option maxRecDepth 100000 in
set_option maxHeartbeats 4000000 in
theorem w_X10_plot_15 (C : CX p m c cX10_plot 4 s args RX10 D (TYM cs) (WM ad cs) (AM ad)) (hr : meth.sig.returnType = (some .int)) (hlk : meth.locks = false) (hR : 4 ≤ R.frames ∧ 95 ≤ R.locals) {σ : Sg} {x1 : Int32} {x2 : Int32} {x3 : Int32} {res : Int32 × Sg} {ag15 : Int32 → Int32 → Sg → Option (Int32 × Sg)} (hag15 : ∀ (x2 : Int32) (x3 : Int32) (σ : Sg) (H : Heap) (locs : List Loc) (ls : Array Slot), ag15 x2 x3 σ = some res → va_P D vwCl (WM ad cs σ) H → va_S (AM ad) s.heap H locs → lv_has ls 4 [(0, .ref (ad 0)), (1, .int x1), (2, .int x2), (3, .int x3)] → W p l e R s m args below meth c H locs 0 0 (MQ below (QI D (TYM cs) (WM ad cs) (AM ad) res.1 res.2) args s 0 0 (AM ad)) (F0 m 15 ls [])) (hf : f_X10_plot_15 ag15 σ x1 x2 x3 = some res) {H : Heap} {locs : List Loc} (hP : va_P D vwCl (WM ad cs σ) H) (hS : va_S (AM ad) s.heap H locs) {ls : Array Slot} (hl : lv_has ls 4 [(0, .ref (ad 0)), (1, .int x1), (2, .int x2), (3, .int x3)]) : W p l e R s m args below meth c H locs 0 0 (MQ below (QI D (TYM cs) (WM ad cs) (AM ad) res.1 res.2) args s 0 0 (AM ad)) (F0 m 15 ls []) := by
  have hx := C.1.1
  have hb := C.1.2.1
  unfold f_X10_plot_15 at hf
  refine lv_iload_n hx hb dX10_plot_15 rfl (lv_at hl 3 rfl) ?_
  refine lv_aload_n hx hb dX10_plot_16 rfl (lv_at hl 0 rfl) ?_
  obtain ⟨r2, hg1, hf⟩ := zb hf
  try dsimp only at hf
  refine q_calli C hS (q_runV C hP (c_X10_all (l := l) C.2.2.1 hg1) (ci := 9) (As := []) (rest := [.int x3]) ⟨gd_V k_898 k_900 k_36 k_53 k_901, ⟨rfl, rfl⟩, kd_X10_all, ⟨Nat.le_trans (Nat.le_of_ble_eq_true rfl) hR.1, Nat.le_trans (Nat.le_of_ble_eq_true rfl) hR.2⟩⟩ (o := 0) rfl rfl rfl rfl rfl (Nat.le_of_ble_eq_true rfl) hl.1 dX10_plot_17) (fun H locs hP hS => ?_)
  refine lv_icmp_gt (tgt := 64) hx hb dX10_plot_20 (by decide) (fun c3 => ?_) (fun c3 => ?_)
  · replace hf := zt c3 hf
    refine lv_iload_n hx hb dX10_plot_64 rfl (lv_at hl 2 rfl) ?_
    exact q_iret C hr hlk hP hS (Option.some.inj hf) dX10_plot_65
  · replace hf := zf c3 hf
    refine lv_iload_n hx hb dX10_plot_23 rfl (lv_at hl 2 rfl) ?_
    refine lv_if_lt (tgt := 38) hx hb dX10_plot_24 (by decide) (fun c4 => ?_) (fun c4 => ?_)
    · replace hf := zt c4 hf
      exact w_X10_plot_38 C hr hlk hR hag15 hf hP hS (lv_sub hl [0, 1, 2, 3] rfl)
    · replace hf := zf c4 hf
      refine lv_iload_n hx hb dX10_plot_27 rfl (lv_at hl 3 rfl) ?_
      obtain ⟨r6, hg5, hf⟩ := zb hf
      try dsimp only at hf
      refine q_calli C hS (q_runS C hP (c_X10_bits (l := l) C.2.2.1 hg5) (As := [.int x3]) (rest := []) ⟨gd_S k_902 k_903 k_53 k_904, ⟨rfl, rfl⟩, kd_X10_bits, ⟨Nat.le_trans (Nat.le_of_ble_eq_true rfl) hR.1, Nat.le_trans (Nat.le_of_ble_eq_true rfl) hR.2⟩⟩ rfl rfl (Nat.le_of_ble_eq_true rfl) hl.1 dX10_plot_28) (fun H locs hP hS => ?_)
      refine lv_iload_n hx hb dX10_plot_31 rfl (lv_at hl 2 rfl) ?_
      obtain ⟨r8, hg7, hf⟩ := zb hf
      try dsimp only at hf
      refine q_calli C hS (q_runS C hP (c_X10_bits (l := l) C.2.2.1 hg7) (As := [.int x2]) (rest := [.int r6]) ⟨gd_S k_902 k_903 k_53 k_904, ⟨rfl, rfl⟩, kd_X10_bits, ⟨Nat.le_trans (Nat.le_of_ble_eq_true rfl) hR.1, Nat.le_trans (Nat.le_of_ble_eq_true rfl) hR.2⟩⟩ rfl rfl (Nat.le_of_ble_eq_true rfl) hl.1 dX10_plot_32) (fun H locs hP hS => ?_)
      refine lv_icmp_ge (tgt := 58) hx hb dX10_plot_35 (by decide) (fun c9 => ?_) (fun c9 => ?_)
      · replace hf := zt c9 hf
        refine lv_iinc (v := x3 + 1) (lv' := [(3, .int (x3 + 1)), (0, .ref (ad 0)), (1, .int x1), (2, .int x2)]) hx hb dX10_plot_58 hl (k := 3) rfl rfl (by decide) rfl (fun ls hl => ?_)
        refine lv_goto (tgt := 15) hx hb dX10_plot_61 (by decide) ?_
        exact hag15 _ _ _ _ _ _ hf hP hS (lv_sub hl [1, 2, 3, 0] rfl)
      · replace hf := zf c9 hf
        exact w_X10_plot_38 C hr hlk hR hag15 hf hP hS (lv_sub hl [0, 1, 2, 3] rfl)
set_option maxRecDepth 100000 in
set_option maxHeartbeats 4000000 in
theorem wl_X10_plot_15 (C : CX p m c cX10_plot 4 s args RX10 D (TYM cs) (WM ad cs) (AM ad)) (hr : meth.sig.returnType = (some .int)) (hlk : meth.locks = false) (hR : 4 ≤ R.frames ∧ 95 ≤ R.locals) {x1 : Int32} {res : Int32 × Sg} : ∀ n : Nat, ∀ (x2 : Int32) (x3 : Int32) (σ : Sg) (H : Heap) (locs : List Loc) (ls : Array Slot), l_X10_plot_15 x1 n x2 x3 σ = some res → va_P D vwCl (WM ad cs σ) H → va_S (AM ad) s.heap H locs → lv_has ls 4 [(0, .ref (ad 0)), (1, .int x1), (2, .int x2), (3, .int x3)] → W p l e R s m args below meth c H locs 0 0 (MQ below (QI D (TYM cs) (WM ad cs) (AM ad) res.1 res.2) args s 0 0 (AM ad)) (F0 m 15 ls []) := by
  intro n
  induction n with
  | zero => intro x2 x3 σ H locs ls hf; cases hf
  | succ n ih =>
    intro x2 x3 σ H locs ls hf hP hS hl
    exact w_X10_plot_15 C hr hlk hR (ag15 := l_X10_plot_15 x1 n) ih hf hP hS hl
set_option maxRecDepth 100000 in
set_option maxHeartbeats 4000000 in
theorem w_X10_plot (C : CX p m c cX10_plot 4 s args RX10 D (TYM cs) (WM ad cs) (AM ad)) (hr : meth.sig.returnType = (some .int)) (hlk : meth.locks = false) (hR : 4 ≤ R.frames ∧ 95 ≤ R.locals) {σ : Sg} {x1 : Int32} {res : Int32 × Sg} (hf : f_X10_plot σ x1 = some res) {H : Heap} {locs : List Loc} (hP : va_P D vwCl (WM ad cs σ) H) (hS : va_S (AM ad) s.heap H locs) {ls : Array Slot} (hl : lv_has ls 4 [(0, .ref (ad 0)), (1, .int x1)]) : W p l e R s m args below meth c H locs 0 0 (MQ below (QI D (TYM cs) (WM ad cs) (AM ad) res.1 res.2) args s 0 0 (AM ad)) (F0 m 0 ls []) := by
  have hx := C.1.1
  have hb := C.1.2.1
  unfold f_X10_plot at hf
  refine lv_aload_n hx hb dX10_plot_0 rfl (lv_at hl 0 rfl) ?_
  refine lv_iload_n hx hb dX10_plot_1 rfl (lv_at hl 1 rfl) ?_
  obtain ⟨r2, hg1, hf⟩ := zb hf
  try dsimp only at hf
  refine q_calli C hS (q_runV C hP (c_X10_noThing (l := l) C.2.2.1 hg1) (ci := 9) (As := [.int x1]) (rest := []) ⟨gd_V k_799 k_801 k_23 k_53 k_802, ⟨rfl, rfl⟩, kd_X10_noThing, ⟨Nat.le_trans (Nat.le_of_ble_eq_true rfl) hR.1, Nat.le_trans (Nat.le_of_ble_eq_true rfl) hR.2⟩⟩ (o := 0) rfl rfl rfl rfl rfl (Nat.le_of_ble_eq_true rfl) hl.1 dX10_plot_2) (fun H locs hP hS => ?_)
  refine lv_if_eq (tgt := 10) hx hb dX10_plot_5 (by decide) (fun c3 => ?_) (fun c3 => ?_)
  · replace hf := zt c3 hf
    refine lv_bipush (v := (-9)) hx hb dX10_plot_10 (by decide) ?_
    refine lv_istore_n (lv' := [(2, .int (-9)), (0, .ref (ad 0)), (1, .int x1)]) hx hb dX10_plot_12 rfl hl (by decide) rfl (fun ls hl => ?_)
    refine lv_iconst (v := 0) hx hb dX10_plot_13 (by decide) ?_
    refine lv_istore_n (lv' := [(3, .int 0), (2, .int (-9)), (0, .ref (ad 0)), (1, .int x1)]) hx hb dX10_plot_14 rfl hl (by decide) rfl (fun ls hl => ?_)
    exact wl_X10_plot_15 C hr hlk hR fu _ _ _ _ _ _ hf hP hS (lv_sub hl [2, 3, 1, 0] rfl)
  · replace hf := zf c3 hf
    refine lv_iconst (v := (-1)) hx hb dX10_plot_8 (by decide) ?_
    exact q_iret C hr hlk hP hS (Option.some.inj hf) dX10_plot_9
theorem kd_X10_plot : yX10_plot.cls = RX10 ∧ yX10_plot.cls ≠ "java/lang/invoke/MethodHandle" ∧ yX10_plot.cls ≠ "java/lang/invoke/VarHandle" ∧ (parseMethodDescriptor yX10_plot.desc).map (fun d => d.parameters.length) = some 1 := by decide +kernel
def r_X10_plot : Room := { frames := 4, cells := 0, slots := 0, locals := 95 }
set_option maxRecDepth 100000 in
set_option maxHeartbeats 4000000 in
theorem c_X10_plot {l : Launch} {D : va_G} {ad : Nat → Nat} {cs : Nat → ClassId} (hD : ∀ σ, va_D (AM ad) (WM ad cs σ)) {σ : Sg} {x1 : Int32} {res : Int32 × Sg} (hf : f_X10_plot σ x1 = some res) : Met l yX10_plot (wm yX10_plot cX10_plot 4 (some .int)) r_X10_plot (va_Pc [.ref (ad 0), .int x1] (BW D (TYM cs) (WM ad cs) σ)) (QI D (TYM cs) (WM ad cs) (AM ad) res.1 res.2) 0 0 (AM ad) := by
  refine q_enter (by decide) hD (Nat.le_of_ble_eq_true rfl) ?_
  intro p e s m below meth c C hr hlk hP hS ls hl
  exact w_X10_plot C hr hlk ⟨Nat.le_of_ble_eq_true rfl, Nat.le_of_ble_eq_true rfl⟩ hf hP hS hl

end

section
variable {p : Program} {l : Launch} {e : Env} {R : Room} {s : State} {m : MethodId} {args : Array Value} {below : List Frame} {meth : Method} {c : Code} {D : va_G} {ad : Nat → Nat} {cs : Nat → ClassId}
set_option maxRecDepth 100000 in
set_option maxHeartbeats 4000000 in
theorem w_X10_sheet_31 (C : CX p m c cX10_sheet 5 s args RX10 D (TYM cs) (WM ad cs) (AM ad)) (hr : meth.sig.returnType = (some .int)) (hlk : meth.locks = false) (hR : 2 ≤ R.frames ∧ 45 ≤ R.locals) {σ : Sg}  {res : Int32 × Sg} (hf : f_X10_sheet_31 σ = some res) {H : Heap} {locs : List Loc} (hP : va_P D vwCl (WM ad cs σ) H) (hS : va_S (AM ad) s.heap H locs) {ls : Array Slot} (hl : lv_has ls 5 [(0, .ref (ad 0))]) : W p l e R s m args below meth c H locs 0 0 (MQ below (QI D (TYM cs) (WM ad cs) (AM ad) res.1 res.2) args s 0 0 (AM ad)) (F0 m 31 ls []) := by
  have hx := C.1.1
  have hb := C.1.2.1
  unfold f_X10_sheet_31 at hf
  refine lv_aload_n hx hb dX10_sheet_31 rfl (lv_at hl 0 rfl) ?_
  refine lv_bipush (v := (-2)) hx hb dX10_sheet_32 (by decide) ?_
  obtain ⟨⟨r2, σ3⟩, hg1, hf⟩ := zb hf
  try dsimp only at hf
  refine q_calli C hS (q_runV C hP (c_X10_refused (l := l) C.2.2.1 hg1) (ci := 9) (As := [.int (-2)]) (rest := []) ⟨gd_V k_763 k_765 k_16 k_53 k_766, ⟨rfl, rfl⟩, kd_X10_refused, ⟨Nat.le_trans (Nat.le_of_ble_eq_true rfl) hR.1, Nat.le_trans (Nat.le_of_ble_eq_true rfl) hR.2⟩⟩ (o := 0) rfl rfl rfl rfl rfl (Nat.le_of_ble_eq_true rfl) hl.1 dX10_sheet_34) (fun H locs hP hS => ?_)
  exact q_iret C hr hlk hP hS (Option.some.inj hf) dX10_sheet_37
set_option maxRecDepth 100000 in
set_option maxHeartbeats 4000000 in
theorem w_X10_sheet_65 (C : CX p m c cX10_sheet 5 s args RX10 D (TYM cs) (WM ad cs) (AM ad)) (hr : meth.sig.returnType = (some .int)) (hlk : meth.locks = false) (hR : 2 ≤ R.frames ∧ 45 ≤ R.locals) {σ : Sg} {x1 : Int32} {x3 : Int32} {x4 : Int32} {res : Int32 × Sg} {ag65 : Int32 → Sg → Option (Int32 × Sg)} (hag65 : ∀ (x4 : Int32) (σ : Sg) (H : Heap) (locs : List Loc) (ls : Array Slot), ag65 x4 σ = some res → va_P D vwCl (WM ad cs σ) H → va_S (AM ad) s.heap H locs → lv_has ls 5 [(0, .ref (ad 0)), (1, .int x1), (3, .int x3), (4, .int x4)] → W p l e R s m args below meth c H locs 0 0 (MQ below (QI D (TYM cs) (WM ad cs) (AM ad) res.1 res.2) args s 0 0 (AM ad)) (F0 m 65 ls [])) (hf : f_X10_sheet_65 ag65 σ x1 x3 x4 = some res) {H : Heap} {locs : List Loc} (hP : va_P D vwCl (WM ad cs σ) H) (hS : va_S (AM ad) s.heap H locs) {ls : Array Slot} (hl : lv_has ls 5 [(0, .ref (ad 0)), (1, .int x1), (3, .int x3), (4, .int x4)]) : W p l e R s m args below meth c H locs 0 0 (MQ below (QI D (TYM cs) (WM ad cs) (AM ad) res.1 res.2) args s 0 0 (AM ad)) (F0 m 65 ls []) := by
  have hx := C.1.1
  have hb := C.1.2.1
  unfold f_X10_sheet_65 at hf
  refine lv_iload hx hb dX10_sheet_65 (lv_at hl 3 rfl) ?_
  refine lv_iload_n hx hb dX10_sheet_67 rfl (lv_at hl 2 rfl) ?_
  refine lv_icmp_ge (tgt := 90) hx hb dX10_sheet_68 (by decide) (fun c1 => ?_) (fun c1 => ?_)
  · replace hf := zt c1 hf
    refine lv_aload_n hx hb dX10_sheet_90 rfl (lv_at hl 0 rfl) ?_
    refine lv_iconst (v := 1) hx hb dX10_sheet_91 (by decide) ?_
    obtain ⟨⟨r3, σ4⟩, hg2, hf⟩ := zb hf
    try dsimp only at hf
    refine q_calli C hS (q_runV C hP (c_X10_refused (l := l) C.2.2.1 hg2) (ci := 9) (As := [.int 1]) (rest := []) ⟨gd_V k_763 k_765 k_16 k_53 k_766, ⟨rfl, rfl⟩, kd_X10_refused, ⟨Nat.le_trans (Nat.le_of_ble_eq_true rfl) hR.1, Nat.le_trans (Nat.le_of_ble_eq_true rfl) hR.2⟩⟩ (o := 0) rfl rfl rfl rfl rfl (Nat.le_of_ble_eq_true rfl) hl.1 dX10_sheet_92) (fun H locs hP hS => ?_)
    exact q_iret C hr hlk hP hS (Option.some.inj hf) dX10_sheet_95
  · replace hf := zf c1 hf
    refine lv_aload_n hx hb dX10_sheet_71 rfl (lv_at hl 0 rfl) ?_
    refine gX10_26 C hP k_690 dX10_sheet_72 ?_
    refine lv_bipush (v := 60) hx hb dX10_sheet_75 (by decide) ?_
    refine lv_iload_n hx hb dX10_sheet_77 rfl (lv_at hl 1 rfl) ?_
    refine lv_imul hx hb dX10_sheet_78 ?_
    refine lv_iload hx hb dX10_sheet_79 (lv_at hl 3 rfl) ?_
    refine lv_iadd hx hb dX10_sheet_81 ?_
    refine lv_iconst (v := 0) hx hb dX10_sheet_82 (by decide) ?_
    obtain ⟨h5, hf⟩ := zc hf
    refine astM C hP hS (n := 240) rfl h5 dX10_sheet_83 (fun H locs hP hS => ?_)
    refine lv_iinc (v := x4 + 1) (lv' := [(4, .int (x4 + 1)), (0, .ref (ad 0)), (1, .int x1), (3, .int x3)]) hx hb dX10_sheet_84 hl (k := 3) rfl rfl (by decide) rfl (fun ls hl => ?_)
    refine lv_goto (tgt := 65) hx hb dX10_sheet_87 (by decide) ?_
    exact hag65 _ _ _ _ _ hf hP hS (lv_sub hl [1, 2, 3, 0] rfl)
set_option maxRecDepth 100000 in
set_option maxHeartbeats 4000000 in
theorem wl_X10_sheet_65 (C : CX p m c cX10_sheet 5 s args RX10 D (TYM cs) (WM ad cs) (AM ad)) (hr : meth.sig.returnType = (some .int)) (hlk : meth.locks = false) (hR : 2 ≤ R.frames ∧ 45 ≤ R.locals) {x1 : Int32} {x3 : Int32} {res : Int32 × Sg} : ∀ n : Nat, ∀ (x4 : Int32) (σ : Sg) (H : Heap) (locs : List Loc) (ls : Array Slot), l_X10_sheet_65 x1 x3 n x4 σ = some res → va_P D vwCl (WM ad cs σ) H → va_S (AM ad) s.heap H locs → lv_has ls 5 [(0, .ref (ad 0)), (1, .int x1), (3, .int x3), (4, .int x4)] → W p l e R s m args below meth c H locs 0 0 (MQ below (QI D (TYM cs) (WM ad cs) (AM ad) res.1 res.2) args s 0 0 (AM ad)) (F0 m 65 ls []) := by
  intro n
  induction n with
  | zero => intro x4 σ H locs ls hf; cases hf
  | succ n ih =>
    intro x4 σ H locs ls hf hP hS hl
    exact w_X10_sheet_65 C hr hlk hR (ag65 := l_X10_sheet_65 x1 x3 n) ih hf hP hS hl
set_option maxRecDepth 100000 in
set_option maxHeartbeats 4000000 in
theorem w_X10_sheet (C : CX p m c cX10_sheet 5 s args RX10 D (TYM cs) (WM ad cs) (AM ad)) (hr : meth.sig.returnType = (some .int)) (hlk : meth.locks = false) (hR : 2 ≤ R.frames ∧ 45 ≤ R.locals) {σ : Sg} {x1 : Int32} {x2 : Int32} {x3 : Int32} {res : Int32 × Sg} (hf : f_X10_sheet σ x1 x2 x3 = some res) {H : Heap} {locs : List Loc} (hP : va_P D vwCl (WM ad cs σ) H) (hS : va_S (AM ad) s.heap H locs) {ls : Array Slot} (hl : lv_has ls 5 [(0, .ref (ad 0)), (1, .int x1), (2, .int x2), (3, .int x3)]) : W p l e R s m args below meth c H locs 0 0 (MQ below (QI D (TYM cs) (WM ad cs) (AM ad) res.1 res.2) args s 0 0 (AM ad)) (F0 m 0 ls []) := by
  have hx := C.1.1
  have hb := C.1.2.1
  unfold f_X10_sheet at hf
  refine lv_iload_n hx hb dX10_sheet_0 rfl (lv_at hl 1 rfl) ?_
  obtain ⟨r2, hg1, hf⟩ := zb hf
  try dsimp only at hf
  refine q_calli C hS (q_runS C hP (c_X10_noSheet (l := l) C.2.2.1 hg1) (As := [.int x1]) (rest := []) ⟨gd_S k_756 k_757 k_53 k_758, ⟨rfl, rfl⟩, kd_X10_noSheet, ⟨Nat.le_trans (Nat.le_of_ble_eq_true rfl) hR.1, Nat.le_trans (Nat.le_of_ble_eq_true rfl) hR.2⟩⟩ rfl rfl (Nat.le_of_ble_eq_true rfl) hl.1 dX10_sheet_1) (fun H locs hP hS => ?_)
  refine lv_if_eq (tgt := 13) hx hb dX10_sheet_4 (by decide) (fun c3 => ?_) (fun c3 => ?_)
  · replace hf := zt c3 hf
    refine lv_iload_n hx hb dX10_sheet_13 rfl (lv_at hl 2 rfl) ?_
    refine lv_i2l hx hb dX10_sheet_14 rfl ?_
    refine lv_lconst (v := 0) hx hb dX10_sheet_15 (by decide) ?_
    refine lv_ldc2 (v := 2) hx hb C.1.2.2.2.1 (C.1.2.2.2.2 _ k_767) dX10_sheet_16 ?_
    obtain ⟨r5, hg4, hf⟩ := zb hf
    try dsimp only at hf
    refine q_calli C hS (q_runS C hP (c_X10_in (l := l) C.2.2.1 hg4) (As := [.long x2.toInt64, .long 0, .long 2]) (rest := []) ⟨gd_S k_760 k_761 k_53 k_762, ⟨rfl, rfl⟩, kd_X10_in, ⟨Nat.le_trans (Nat.le_of_ble_eq_true rfl) hR.1, Nat.le_trans (Nat.le_of_ble_eq_true rfl) hR.2⟩⟩ rfl rfl (Nat.le_of_ble_eq_true rfl) hl.1 dX10_sheet_19) (fun H locs hP hS => ?_)
    refine lv_if_eq (tgt := 31) hx hb dX10_sheet_22 (by decide) (fun c6 => ?_) (fun c6 => ?_)
    · replace hf := zt c6 hf
      exact w_X10_sheet_31 C hr hlk hR hf hP hS (lv_sub hl [0] rfl)
    · replace hf := zf c6 hf
      refine lv_iload_n hx hb dX10_sheet_25 rfl (lv_at hl 3 rfl) ?_
      refine lv_bipush (v := 60) hx hb dX10_sheet_26 (by decide) ?_
      refine lv_icmp_le (tgt := 38) hx hb dX10_sheet_28 (by decide) (fun c7 => ?_) (fun c7 => ?_)
      · replace hf := zt c7 hf
        refine lv_iload_n hx hb dX10_sheet_38 rfl (lv_at hl 3 rfl) ?_
        refine lv_if_ge (tgt := 48) hx hb dX10_sheet_39 (by decide) (fun c8 => ?_) (fun c8 => ?_)
        · replace hf := zt c8 hf
          refine lv_aload_n hx hb dX10_sheet_48 rfl (lv_at hl 0 rfl) ?_
          refine gX10_24 C hP k_688 dX10_sheet_49 ?_
          refine lv_iload_n hx hb dX10_sheet_52 rfl (lv_at hl 1 rfl) ?_
          refine lv_iload_n hx hb dX10_sheet_53 rfl (lv_at hl 3 rfl) ?_
          obtain ⟨h9, hf⟩ := zc hf
          refine astM C hP hS (n := 4) rfl h9 dX10_sheet_54 (fun H locs hP hS => ?_)
          refine lv_aload_n hx hb dX10_sheet_55 rfl (lv_at hl 0 rfl) ?_
          refine gX10_25 C hP k_689 dX10_sheet_56 ?_
          refine lv_iload_n hx hb dX10_sheet_59 rfl (lv_at hl 1 rfl) ?_
          refine lv_iload_n hx hb dX10_sheet_60 rfl (lv_at hl 2 rfl) ?_
          refine astM C hP hS (n := 4) rfl h9 dX10_sheet_61 (fun H locs hP hS => ?_)
          refine lv_iconst (v := 0) hx hb dX10_sheet_62 (by decide) ?_
          refine lv_istore (lv' := [(4, .int 0), (0, .ref (ad 0)), (1, .int x1), (2, .int x2), (3, .int x3)]) hx hb dX10_sheet_63 hl (by decide) rfl (fun ls hl => ?_)
          exact wl_X10_sheet_65 C hr hlk hR fu _ _ _ _ _ hf hP hS (lv_sub hl [1, 2, 4, 0] rfl)
        · replace hf := zf c8 hf
          refine lv_aload_n hx hb dX10_sheet_42 rfl (lv_at hl 0 rfl) ?_
          refine lv_iconst (v := 4) hx hb dX10_sheet_43 (by decide) ?_
          obtain ⟨⟨r11, σ12⟩, hg10, hf⟩ := zb hf
          try dsimp only at hf
          refine q_calli C hS (q_runV C hP (c_X10_faulted (l := l) C.2.2.1 hg10) (ci := 9) (As := [.int 4]) (rest := []) ⟨gd_V k_772 k_774 k_18 k_53 k_775, ⟨rfl, rfl⟩, kd_X10_faulted, ⟨Nat.le_trans (Nat.le_of_ble_eq_true rfl) hR.1, Nat.le_trans (Nat.le_of_ble_eq_true rfl) hR.2⟩⟩ (o := 0) rfl rfl rfl rfl rfl (Nat.le_of_ble_eq_true rfl) hl.1 dX10_sheet_44) (fun H locs hP hS => ?_)
          exact q_iret C hr hlk hP hS (Option.some.inj hf) dX10_sheet_47
      · replace hf := zf c7 hf
        exact w_X10_sheet_31 C hr hlk hR hf hP hS (lv_sub hl [0] rfl)
  · replace hf := zf c3 hf
    refine lv_aload_n hx hb dX10_sheet_7 rfl (lv_at hl 0 rfl) ?_
    refine lv_iconst (v := (-1)) hx hb dX10_sheet_8 (by decide) ?_
    obtain ⟨⟨r14, σ15⟩, hg13, hf⟩ := zb hf
    try dsimp only at hf
    refine q_calli C hS (q_runV C hP (c_X10_refused (l := l) C.2.2.1 hg13) (ci := 9) (As := [.int (-1)]) (rest := []) ⟨gd_V k_763 k_765 k_16 k_53 k_766, ⟨rfl, rfl⟩, kd_X10_refused, ⟨Nat.le_trans (Nat.le_of_ble_eq_true rfl) hR.1, Nat.le_trans (Nat.le_of_ble_eq_true rfl) hR.2⟩⟩ (o := 0) rfl rfl rfl rfl rfl (Nat.le_of_ble_eq_true rfl) hl.1 dX10_sheet_9) (fun H locs hP hS => ?_)
    exact q_iret C hr hlk hP hS (Option.some.inj hf) dX10_sheet_12
theorem kd_X10_sheet : yX10_sheet.cls = RX10 ∧ yX10_sheet.cls ≠ "java/lang/invoke/MethodHandle" ∧ yX10_sheet.cls ≠ "java/lang/invoke/VarHandle" ∧ (parseMethodDescriptor yX10_sheet.desc).map (fun d => d.parameters.length) = some 3 := by decide +kernel
def r_X10_sheet : Room := { frames := 2, cells := 0, slots := 0, locals := 45 }
set_option maxRecDepth 100000 in
set_option maxHeartbeats 4000000 in
theorem c_X10_sheet {l : Launch} {D : va_G} {ad : Nat → Nat} {cs : Nat → ClassId} (hD : ∀ σ, va_D (AM ad) (WM ad cs σ)) {σ : Sg} {x1 : Int32} {x2 : Int32} {x3 : Int32} {res : Int32 × Sg} (hf : f_X10_sheet σ x1 x2 x3 = some res) : Met l yX10_sheet (wm yX10_sheet cX10_sheet 5 (some .int)) r_X10_sheet (va_Pc [.ref (ad 0), .int x1, .int x2, .int x3] (BW D (TYM cs) (WM ad cs) σ)) (QI D (TYM cs) (WM ad cs) (AM ad) res.1 res.2) 0 0 (AM ad) := by
  refine q_enter (by decide) hD (Nat.le_of_ble_eq_true rfl) ?_
  intro p e s m below meth c C hr hlk hP hS ls hl
  exact w_X10_sheet C hr hlk ⟨Nat.le_of_ble_eq_true rfl, Nat.le_of_ble_eq_true rfl⟩ hf hP hS hl

set_option maxRecDepth 100000 in
set_option maxHeartbeats 4000000 in
theorem w_X10_lose_23 (C : CX p m c cX10_lose 3 s args RX10 D (TYM cs) (WM ad cs) (AM ad)) (hr : meth.sig.returnType = (some .int)) (hlk : meth.locks = false) (hR : 2 ≤ R.frames ∧ 45 ≤ R.locals) {σ : Sg} {x1 : Int32} {s0 : Int32} {res : Int32 × Sg} (hf : f_X10_lose_23 σ x1 s0 = some res) {H : Heap} {locs : List Loc} (hP : va_P D vwCl (WM ad cs σ) H) (hS : va_S (AM ad) s.heap H locs) {ls : Array Slot} (hl : lv_has ls 3 [(0, .ref (ad 0)), (1, .int x1)]) : W p l e R s m args below meth c H locs 0 0 (MQ below (QI D (TYM cs) (WM ad cs) (AM ad) res.1 res.2) args s 0 0 (AM ad)) (F0 m 23 ls [.int s0]) := by
  have hx := C.1.1
  have hb := C.1.2.1
  unfold f_X10_lose_23 at hf
  refine lv_istore_n (lv' := [(2, .int s0), (0, .ref (ad 0)), (1, .int x1)]) hx hb dX10_lose_23 rfl hl (by decide) rfl (fun ls hl => ?_)
  refine lv_aload_n hx hb dX10_lose_24 rfl (lv_at hl 1 rfl) ?_
  refine gX10_24 C hP k_688 dX10_lose_25 ?_
  refine lv_iload_n hx hb dX10_lose_28 rfl (lv_at hl 2 rfl) ?_
  refine lv_iconst (v := (-1)) hx hb dX10_lose_29 (by decide) ?_
  obtain ⟨h1, hf⟩ := zc hf
  refine astM C hP hS (n := 4) rfl h1 dX10_lose_30 (fun H locs hP hS => ?_)
  refine lv_iload_n hx hb dX10_lose_31 rfl (lv_at hl 0 rfl) ?_
  exact q_iret C hr hlk hP hS (Option.some.inj hf) dX10_lose_32
set_option maxRecDepth 100000 in
set_option maxHeartbeats 4000000 in
theorem w_X10_lose (C : CX p m c cX10_lose 3 s args RX10 D (TYM cs) (WM ad cs) (AM ad)) (hr : meth.sig.returnType = (some .int)) (hlk : meth.locks = false) (hR : 2 ≤ R.frames ∧ 45 ≤ R.locals) {σ : Sg} {x1 : Int32} {res : Int32 × Sg} (hf : f_X10_lose σ x1 = some res) {H : Heap} {locs : List Loc} (hP : va_P D vwCl (WM ad cs σ) H) (hS : va_S (AM ad) s.heap H locs) {ls : Array Slot} (hl : lv_has ls 3 [(0, .ref (ad 0)), (1, .int x1)]) : W p l e R s m args below meth c H locs 0 0 (MQ below (QI D (TYM cs) (WM ad cs) (AM ad) res.1 res.2) args s 0 0 (AM ad)) (F0 m 0 ls []) := by
  have hx := C.1.1
  have hb := C.1.2.1
  unfold f_X10_lose at hf
  refine lv_iload_n hx hb dX10_lose_0 rfl (lv_at hl 1 rfl) ?_
  obtain ⟨r2, hg1, hf⟩ := zb hf
  try dsimp only at hf
  refine q_calli C hS (q_runS C hP (c_X10_noSheet (l := l) C.2.2.1 hg1) (As := [.int x1]) (rest := []) ⟨gd_S k_756 k_757 k_53 k_758, ⟨rfl, rfl⟩, kd_X10_noSheet, ⟨Nat.le_trans (Nat.le_of_ble_eq_true rfl) hR.1, Nat.le_trans (Nat.le_of_ble_eq_true rfl) hR.2⟩⟩ rfl rfl (Nat.le_of_ble_eq_true rfl) hl.1 dX10_lose_1) (fun H locs hP hS => ?_)
  refine lv_if_eq (tgt := 9) hx hb dX10_lose_4 (by decide) (fun c3 => ?_) (fun c3 => ?_)
  · replace hf := zt c3 hf
    refine lv_aload_n hx hb dX10_lose_9 rfl (lv_at hl 0 rfl) ?_
    refine gX10_24 C hP k_688 dX10_lose_10 ?_
    refine lv_iload_n hx hb dX10_lose_13 rfl (lv_at hl 1 rfl) ?_
    obtain ⟨h4, hf⟩ := zc hf
    refine aldM C hP (n := 4) rfl h4 dX10_lose_14 ?_
    refine lv_if_ge (tgt := 22) hx hb dX10_lose_15 (by decide) (fun c5 => ?_) (fun c5 => ?_)
    · replace hf := zt c5 hf
      refine lv_iconst (v := 1) hx hb dX10_lose_22 (by decide) ?_
      exact w_X10_lose_23 C hr hlk hR hf hP hS (lv_sub hl [0, 1] rfl)
    · replace hf := zf c5 hf
      refine lv_iconst (v := 0) hx hb dX10_lose_18 (by decide) ?_
      refine lv_goto (tgt := 23) hx hb dX10_lose_19 (by decide) ?_
      exact w_X10_lose_23 C hr hlk hR hf hP hS (lv_sub hl [0, 1] rfl)
  · replace hf := zf c3 hf
    refine lv_iconst (v := (-1)) hx hb dX10_lose_7 (by decide) ?_
    exact q_iret C hr hlk hP hS (Option.some.inj hf) dX10_lose_8
theorem kd_X10_lose : yX10_lose.cls = RX10 ∧ yX10_lose.cls ≠ "java/lang/invoke/MethodHandle" ∧ yX10_lose.cls ≠ "java/lang/invoke/VarHandle" ∧ (parseMethodDescriptor yX10_lose.desc).map (fun d => d.parameters.length) = some 1 := by decide +kernel
def r_X10_lose : Room := { frames := 2, cells := 0, slots := 0, locals := 45 }
set_option maxRecDepth 100000 in
set_option maxHeartbeats 4000000 in
theorem c_X10_lose {l : Launch} {D : va_G} {ad : Nat → Nat} {cs : Nat → ClassId} (hD : ∀ σ, va_D (AM ad) (WM ad cs σ)) {σ : Sg} {x1 : Int32} {res : Int32 × Sg} (hf : f_X10_lose σ x1 = some res) : Met l yX10_lose (wm yX10_lose cX10_lose 3 (some .int)) r_X10_lose (va_Pc [.ref (ad 0), .int x1] (BW D (TYM cs) (WM ad cs) σ)) (QI D (TYM cs) (WM ad cs) (AM ad) res.1 res.2) 0 0 (AM ad) := by
  refine q_enter (by decide) hD (Nat.le_of_ble_eq_true rfl) ?_
  intro p e s m below meth c C hr hlk hP hS ls hl
  exact w_X10_lose C hr hlk ⟨Nat.le_of_ble_eq_true rfl, Nat.le_of_ble_eq_true rfl⟩ hf hP hS hl

set_option maxRecDepth 100000 in
set_option maxHeartbeats 4000000 in
theorem w_X10_noCell (C : CX p m c cX10_noCell 3 s args RX10 D (TYM cs) (WM ad cs) (AM ad)) (hr : meth.sig.returnType = (some .int)) (hlk : meth.locks = false) (hR : 1 ≤ R.frames ∧ 25 ≤ R.locals) {σ : Sg} {x1 : Int32} {x2 : Int32} {res : Int32} (hf : f_X10_noCell σ x1 x2 = some res) {H : Heap} {locs : List Loc} (hP : va_P D vwCl (WM ad cs σ) H) (hS : va_S (AM ad) s.heap H locs) {ls : Array Slot} (hl : lv_has ls 3 [(0, .ref (ad 0)), (1, .int x1), (2, .int x2)]) : W p l e R s m args below meth c H locs 0 0 (MQ below (QI D (TYM cs) (WM ad cs) (AM ad) res σ) args s 0 0 (AM ad)) (F0 m 0 ls []) := by
  have hx := C.1.1
  have hb := C.1.2.1
  unfold f_X10_noCell at hf
  refine lv_aload_n hx hb dX10_noCell_0 rfl (lv_at hl 0 rfl) ?_
  refine gX10_24 C hP k_688 dX10_noCell_1 ?_
  refine lv_iload_n hx hb dX10_noCell_4 rfl (lv_at hl 1 rfl) ?_
  obtain ⟨h1, hf⟩ := zc hf
  refine aldM C hP (n := 4) rfl h1 dX10_noCell_5 ?_
  refine lv_if_ge (tgt := 13) hx hb dX10_noCell_6 (by decide) (fun c2 => ?_) (fun c2 => ?_)
  · replace hf := zt c2 hf
    refine lv_iload_n hx hb dX10_noCell_13 rfl (lv_at hl 2 rfl) ?_
    refine lv_i2l hx hb dX10_noCell_14 rfl ?_
    refine lv_lconst (v := 0) hx hb dX10_noCell_15 (by decide) ?_
    refine lv_aload_n hx hb dX10_noCell_16 rfl (lv_at hl 0 rfl) ?_
    refine gX10_24 C hP k_688 dX10_noCell_17 ?_
    refine lv_iload_n hx hb dX10_noCell_20 rfl (lv_at hl 1 rfl) ?_
    refine aldM C hP (n := 4) rfl h1 dX10_noCell_21 ?_
    refine lv_i2l hx hb dX10_noCell_22 rfl ?_
    refine lv_lconst (v := 1) hx hb dX10_noCell_23 (by decide) ?_
    refine lv_lsub hx hb dX10_noCell_24 ?_
    obtain ⟨r4, hg3, hf⟩ := zb hf
    try dsimp only at hf
    refine q_calli C hS (q_runS C hP (c_X10_in (l := l) C.2.2.1 hg3) (As := [.long x2.toInt64, .long 0, .long (((σ 17 x1.toNatClampNeg).toInt64) - 1)]) (rest := []) ⟨gd_S k_760 k_761 k_53 k_762, ⟨rfl, rfl⟩, kd_X10_in, ⟨Nat.le_trans (Nat.le_of_ble_eq_true rfl) hR.1, Nat.le_trans (Nat.le_of_ble_eq_true rfl) hR.2⟩⟩ rfl rfl (Nat.le_of_ble_eq_true rfl) hl.1 dX10_noCell_25) (fun H locs hP hS => ?_)
    refine lv_if_eq (tgt := 35) hx hb dX10_noCell_28 (by decide) (fun c5 => ?_) (fun c5 => ?_)
    · replace hf := zt c5 hf
      refine lv_iconst (v := 3) hx hb dX10_noCell_35 (by decide) ?_
      exact q_iret C hr hlk hP hS (congrArg (fun q => (q, σ)) (Option.some.inj hf)) dX10_noCell_36
    · replace hf := zf c5 hf
      refine lv_iconst (v := 0) hx hb dX10_noCell_31 (by decide) ?_
      refine lv_goto (tgt := 36) hx hb dX10_noCell_32 (by decide) ?_
      exact q_iret C hr hlk hP hS (congrArg (fun q => (q, σ)) (Option.some.inj hf)) dX10_noCell_36
  · replace hf := zf c2 hf
    refine lv_iconst (v := 1) hx hb dX10_noCell_9 (by decide) ?_
    refine lv_goto (tgt := 36) hx hb dX10_noCell_10 (by decide) ?_
    exact q_iret C hr hlk hP hS (congrArg (fun q => (q, σ)) (Option.some.inj hf)) dX10_noCell_36
theorem kd_X10_noCell : yX10_noCell.cls = RX10 ∧ yX10_noCell.cls ≠ "java/lang/invoke/MethodHandle" ∧ yX10_noCell.cls ≠ "java/lang/invoke/VarHandle" ∧ (parseMethodDescriptor yX10_noCell.desc).map (fun d => d.parameters.length) = some 2 := by decide +kernel
def r_X10_noCell : Room := { frames := 1, cells := 0, slots := 0, locals := 25 }
set_option maxRecDepth 100000 in
set_option maxHeartbeats 4000000 in
theorem c_X10_noCell {l : Launch} {D : va_G} {ad : Nat → Nat} {cs : Nat → ClassId} (hD : ∀ σ, va_D (AM ad) (WM ad cs σ)) {σ : Sg} {x1 : Int32} {x2 : Int32} {res : Int32} (hf : f_X10_noCell σ x1 x2 = some res) : Met l yX10_noCell (wm yX10_noCell cX10_noCell 3 (some .int)) r_X10_noCell (va_Pc [.ref (ad 0), .int x1, .int x2] (BW D (TYM cs) (WM ad cs) σ)) (QI D (TYM cs) (WM ad cs) (AM ad) res σ) 0 0 (AM ad) := by
  refine q_enter (by decide) hD (Nat.le_of_ble_eq_true rfl) ?_
  intro p e s m below meth c C hr hlk hP hS ls hl
  exact w_X10_noCell C hr hlk ⟨Nat.le_of_ble_eq_true rfl, Nat.le_of_ble_eq_true rfl⟩ hf hP hS hl

set_option maxRecDepth 100000 in
set_option maxHeartbeats 4000000 in
theorem w_X10_put_73 (C : CX p m c cX10_put 4 s args RX10 D (TYM cs) (WM ad cs) (AM ad)) (hr : meth.sig.returnType = (some .int)) (hlk : meth.locks = false) (hR : 2 ≤ R.frames ∧ 47 ≤ R.locals) {σ : Sg} {s0 : Int32} {s1 : Int32} {res : Int32 × Sg} (hf : f_X10_put_73 σ s0 s1 = some res) {H : Heap} {locs : List Loc} (hP : va_P D vwCl (WM ad cs σ) H) (hS : va_S (AM ad) s.heap H locs) {ls : Array Slot} (hl : lv_has ls 4 [(0, .ref (ad 0))]) : W p l e R s m args below meth c H locs 0 0 (MQ below (QI D (TYM cs) (WM ad cs) (AM ad) res.1 res.2) args s 0 0 (AM ad)) (F0 m 73 ls [.int s0, .int s1, .ref (ad 19)]) := by
  have hx := C.1.1
  have hb := C.1.2.1
  unfold f_X10_put_73 at hf
  obtain ⟨h1, hf⟩ := zc hf
  refine astM C hP hS (n := 240) rfl h1 dX10_put_73 (fun H locs hP hS => ?_)
  refine lv_aload_n hx hb dX10_put_74 rfl (lv_at hl 0 rfl) ?_
  refine lv_iconst (v := 1) hx hb dX10_put_75 (by decide) ?_
  obtain ⟨⟨r3, σ4⟩, hg2, hf⟩ := zb hf
  try dsimp only at hf
  refine q_calli C hS (q_runV C hP (c_X10_refused (l := l) C.2.2.1 hg2) (ci := 9) (As := [.int 1]) (rest := []) ⟨gd_V k_763 k_765 k_16 k_53 k_766, ⟨rfl, rfl⟩, kd_X10_refused, ⟨Nat.le_trans (Nat.le_of_ble_eq_true rfl) hR.1, Nat.le_trans (Nat.le_of_ble_eq_true rfl) hR.2⟩⟩ (o := 0) rfl rfl rfl rfl rfl (Nat.le_of_ble_eq_true rfl) hl.1 dX10_put_76) (fun H locs hP hS => ?_)
  exact q_iret C hr hlk hP hS (Option.some.inj hf) dX10_put_79
set_option maxRecDepth 100000 in
set_option maxHeartbeats 4000000 in
theorem w_X10_put (C : CX p m c cX10_put 4 s args RX10 D (TYM cs) (WM ad cs) (AM ad)) (hr : meth.sig.returnType = (some .int)) (hlk : meth.locks = false) (hR : 2 ≤ R.frames ∧ 47 ≤ R.locals) {σ : Sg} {x1 : Int32} {x2 : Int32} {x3 : Int32} {res : Int32 × Sg} (hf : f_X10_put σ x1 x2 x3 = some res) {H : Heap} {locs : List Loc} (hP : va_P D vwCl (WM ad cs σ) H) (hS : va_S (AM ad) s.heap H locs) {ls : Array Slot} (hl : lv_has ls 4 [(0, .ref (ad 0)), (1, .int x1), (2, .int x2), (3, .int x3)]) : W p l e R s m args below meth c H locs 0 0 (MQ below (QI D (TYM cs) (WM ad cs) (AM ad) res.1 res.2) args s 0 0 (AM ad)) (F0 m 0 ls []) := by
  have hx := C.1.1
  have hb := C.1.2.1
  unfold f_X10_put at hf
  refine lv_iload_n hx hb dX10_put_0 rfl (lv_at hl 1 rfl) ?_
  obtain ⟨r2, hg1, hf⟩ := zb hf
  try dsimp only at hf
  refine q_calli C hS (q_runS C hP (c_X10_noSheet (l := l) C.2.2.1 hg1) (As := [.int x1]) (rest := []) ⟨gd_S k_756 k_757 k_53 k_758, ⟨rfl, rfl⟩, kd_X10_noSheet, ⟨Nat.le_trans (Nat.le_of_ble_eq_true rfl) hR.1, Nat.le_trans (Nat.le_of_ble_eq_true rfl) hR.2⟩⟩ rfl rfl (Nat.le_of_ble_eq_true rfl) hl.1 dX10_put_1) (fun H locs hP hS => ?_)
  refine lv_if_eq (tgt := 13) hx hb dX10_put_4 (by decide) (fun c3 => ?_) (fun c3 => ?_)
  · replace hf := zt c3 hf
    refine lv_aload_n hx hb dX10_put_13 rfl (lv_at hl 0 rfl) ?_
    refine lv_iload_n hx hb dX10_put_14 rfl (lv_at hl 1 rfl) ?_
    refine lv_iload_n hx hb dX10_put_15 rfl (lv_at hl 2 rfl) ?_
    obtain ⟨r5, hg4, hf⟩ := zb hf
    try dsimp only at hf
    refine q_calli C hS (q_runV C hP (c_X10_noCell (l := l) C.2.2.1 hg4) (ci := 9) (As := [.int x1, .int x2]) (rest := []) ⟨gd_V k_972 k_974 k_40 k_53 k_975, ⟨rfl, rfl⟩, kd_X10_noCell, ⟨Nat.le_trans (Nat.le_of_ble_eq_true rfl) hR.1, Nat.le_trans (Nat.le_of_ble_eq_true rfl) hR.2⟩⟩ (o := 0) rfl rfl rfl rfl rfl (Nat.le_of_ble_eq_true rfl) hl.1 dX10_put_16) (fun H locs hP hS => ?_)
    refine lv_if_le (tgt := 33) hx hb dX10_put_19 (by decide) (fun c6 => ?_) (fun c6 => ?_)
    · replace hf := zt c6 hf
      refine lv_aload_n hx hb dX10_put_33 rfl (lv_at hl 0 rfl) ?_
      refine gX10_26 C hP k_690 dX10_put_34 ?_
      refine lv_bipush (v := 60) hx hb dX10_put_37 (by decide) ?_
      refine lv_iload_n hx hb dX10_put_39 rfl (lv_at hl 1 rfl) ?_
      refine lv_imul hx hb dX10_put_40 ?_
      refine lv_iload_n hx hb dX10_put_41 rfl (lv_at hl 2 rfl) ?_
      refine lv_iadd hx hb dX10_put_42 ?_
      refine lv_aload_n hx hb dX10_put_43 rfl (lv_at hl 0 rfl) ?_
      refine gX10_25 C hP k_689 dX10_put_44 ?_
      refine lv_iload_n hx hb dX10_put_47 rfl (lv_at hl 1 rfl) ?_
      obtain ⟨h7, hf⟩ := zc hf
      refine aldM C hP (n := 4) rfl h7 dX10_put_48 ?_
      refine lv_if_ne (tgt := 57) hx hb dX10_put_49 (by decide) (fun c8 => ?_) (fun c8 => ?_)
      · replace hf := zf c8 hf
        refine lv_aload_n hx hb dX10_put_57 rfl (lv_at hl 0 rfl) ?_
        refine gX10_25 C hP k_689 dX10_put_58 ?_
        refine lv_iload_n hx hb dX10_put_61 rfl (lv_at hl 1 rfl) ?_
        refine aldM C hP (n := 4) rfl h7 dX10_put_62 ?_
        refine lv_iconst (v := 1) hx hb dX10_put_63 (by decide) ?_
        refine lv_icmp_ne (tgt := 72) hx hb dX10_put_64 (by decide) (fun c9 => ?_) (fun c9 => ?_)
        · replace hf := zf c9 hf
          refine lv_iload_n hx hb dX10_put_72 rfl (lv_at hl 3 rfl) ?_
          exact w_X10_put_73 C hr hlk hR hf hP hS (lv_sub hl [0] rfl)
        · replace hf := zt c9 hf
          refine lv_iload_n hx hb dX10_put_67 rfl (lv_at hl 3 rfl) ?_
          refine lv_i2s hx hb dX10_put_68 rfl ?_
          refine lv_goto (tgt := 73) hx hb dX10_put_69 (by decide) ?_
          exact w_X10_put_73 C hr hlk hR hf hP hS (lv_sub hl [0] rfl)
      · replace hf := zt c8 hf
        refine lv_iload_n hx hb dX10_put_52 rfl (lv_at hl 3 rfl) ?_
        refine lv_i2b hx hb dX10_put_53 rfl ?_
        refine lv_goto (tgt := 73) hx hb dX10_put_54 (by decide) ?_
        exact w_X10_put_73 C hr hlk hR hf hP hS (lv_sub hl [0] rfl)
    · replace hf := zf c6 hf
      refine lv_aload_n hx hb dX10_put_22 rfl (lv_at hl 0 rfl) ?_
      refine lv_aload_n hx hb dX10_put_23 rfl (lv_at hl 0 rfl) ?_
      refine lv_iload_n hx hb dX10_put_24 rfl (lv_at hl 1 rfl) ?_
      refine lv_iload_n hx hb dX10_put_25 rfl (lv_at hl 2 rfl) ?_
      obtain ⟨r11, hg10, hf⟩ := zb hf
      try dsimp only at hf
      refine q_calli C hS (q_runV C hP (c_X10_noCell (l := l) C.2.2.1 hg10) (ci := 9) (As := [.int x1, .int x2]) (rest := [.ref (ad 0)]) ⟨gd_V k_972 k_974 k_40 k_53 k_975, ⟨rfl, rfl⟩, kd_X10_noCell, ⟨Nat.le_trans (Nat.le_of_ble_eq_true rfl) hR.1, Nat.le_trans (Nat.le_of_ble_eq_true rfl) hR.2⟩⟩ (o := 0) rfl rfl rfl rfl rfl (Nat.le_of_ble_eq_true rfl) hl.1 dX10_put_26) (fun H locs hP hS => ?_)
      obtain ⟨⟨r13, σ14⟩, hg12, hf⟩ := zb hf
      try dsimp only at hf
      refine q_calli C hS (q_runV C hP (c_X10_faulted (l := l) C.2.2.1 hg12) (ci := 9) (As := [.int r11]) (rest := []) ⟨gd_V k_772 k_774 k_18 k_53 k_775, ⟨rfl, rfl⟩, kd_X10_faulted, ⟨Nat.le_trans (Nat.le_of_ble_eq_true rfl) hR.1, Nat.le_trans (Nat.le_of_ble_eq_true rfl) hR.2⟩⟩ (o := 0) rfl rfl rfl rfl rfl (Nat.le_of_ble_eq_true rfl) hl.1 dX10_put_29) (fun H locs hP hS => ?_)
      exact q_iret C hr hlk hP hS (Option.some.inj hf) dX10_put_32
  · replace hf := zf c3 hf
    refine lv_aload_n hx hb dX10_put_7 rfl (lv_at hl 0 rfl) ?_
    refine lv_iconst (v := (-1)) hx hb dX10_put_8 (by decide) ?_
    obtain ⟨⟨r16, σ17⟩, hg15, hf⟩ := zb hf
    try dsimp only at hf
    refine q_calli C hS (q_runV C hP (c_X10_refused (l := l) C.2.2.1 hg15) (ci := 9) (As := [.int (-1)]) (rest := []) ⟨gd_V k_763 k_765 k_16 k_53 k_766, ⟨rfl, rfl⟩, kd_X10_refused, ⟨Nat.le_trans (Nat.le_of_ble_eq_true rfl) hR.1, Nat.le_trans (Nat.le_of_ble_eq_true rfl) hR.2⟩⟩ (o := 0) rfl rfl rfl rfl rfl (Nat.le_of_ble_eq_true rfl) hl.1 dX10_put_9) (fun H locs hP hS => ?_)
    exact q_iret C hr hlk hP hS (Option.some.inj hf) dX10_put_12
theorem kd_X10_put : yX10_put.cls = RX10 ∧ yX10_put.cls ≠ "java/lang/invoke/MethodHandle" ∧ yX10_put.cls ≠ "java/lang/invoke/VarHandle" ∧ (parseMethodDescriptor yX10_put.desc).map (fun d => d.parameters.length) = some 3 := by decide +kernel
def r_X10_put : Room := { frames := 2, cells := 0, slots := 0, locals := 47 }
set_option maxRecDepth 100000 in
set_option maxHeartbeats 4000000 in
theorem c_X10_put {l : Launch} {D : va_G} {ad : Nat → Nat} {cs : Nat → ClassId} (hD : ∀ σ, va_D (AM ad) (WM ad cs σ)) {σ : Sg} {x1 : Int32} {x2 : Int32} {x3 : Int32} {res : Int32 × Sg} (hf : f_X10_put σ x1 x2 x3 = some res) : Met l yX10_put (wm yX10_put cX10_put 4 (some .int)) r_X10_put (va_Pc [.ref (ad 0), .int x1, .int x2, .int x3] (BW D (TYM cs) (WM ad cs) σ)) (QI D (TYM cs) (WM ad cs) (AM ad) res.1 res.2) 0 0 (AM ad) := by
  refine q_enter (by decide) hD (Nat.le_of_ble_eq_true rfl) ?_
  intro p e s m below meth c C hr hlk hP hS ls hl
  exact w_X10_put C hr hlk ⟨Nat.le_of_ble_eq_true rfl, Nat.le_of_ble_eq_true rfl⟩ hf hP hS hl

set_option maxRecDepth 100000 in
set_option maxHeartbeats 4000000 in
theorem w_X10_cell_24 (C : CX p m c cX10_cell 4 s args RX10 D (TYM cs) (WM ad cs) (AM ad)) (hr : meth.sig.returnType = (some .long)) (hlk : meth.locks = false) (hR : 2 ≤ R.frames ∧ 47 ≤ R.locals) {σ : Sg}  {res : Int64 × Sg} (hf : f_X10_cell_24 σ = some res) {H : Heap} {locs : List Loc} (hP : va_P D vwCl (WM ad cs σ) H) (hS : va_S (AM ad) s.heap H locs) {ls : Array Slot} (hl : lv_has ls 4 []) : W p l e R s m args below meth c H locs 0 0 (MQ below (QL D (TYM cs) (WM ad cs) (AM ad) res.1 res.2) args s 0 0 (AM ad)) (F0 m 24 ls []) := by
  have hx := C.1.1
  have hb := C.1.2.1
  unfold f_X10_cell_24 at hf
  obtain ⟨r2, hg1, hf⟩ := zb hf
  try dsimp only at hf
  refine q_calll C hS (q_runS C hP (c_X10_lost (l := l) C.2.2.1 hg1) (As := []) (rest := []) ⟨gd_S k_953 k_954 k_53 k_955, ⟨rfl, rfl⟩, kd_X10_lost, ⟨Nat.le_trans (Nat.le_of_ble_eq_true rfl) hR.1, Nat.le_trans (Nat.le_of_ble_eq_true rfl) hR.2⟩⟩ rfl rfl (Nat.le_of_ble_eq_true rfl) hl.1 dX10_cell_24) (fun H locs hP hS => ?_)
  exact q_lret C hr hlk hP hS (Option.some.inj hf) dX10_cell_27
set_option maxRecDepth 100000 in
set_option maxHeartbeats 4000000 in
theorem w_X10_cell_53 (C : CX p m c cX10_cell 4 s args RX10 D (TYM cs) (WM ad cs) (AM ad)) (hr : meth.sig.returnType = (some .long)) (hlk : meth.locks = false) (hR : 2 ≤ R.frames ∧ 47 ≤ R.locals) {σ : Sg} {x1 : Int32} {x2 : Int32} {res : Int64 × Sg} (hf : f_X10_cell_53 σ x1 x2 = some res) {H : Heap} {locs : List Loc} (hP : va_P D vwCl (WM ad cs σ) H) (hS : va_S (AM ad) s.heap H locs) {ls : Array Slot} (hl : lv_has ls 4 [(0, .ref (ad 0)), (1, .int x1), (2, .int x2)]) : W p l e R s m args below meth c H locs 0 0 (MQ below (QL D (TYM cs) (WM ad cs) (AM ad) res.1 res.2) args s 0 0 (AM ad)) (F0 m 53 ls []) := by
  have hx := C.1.1
  have hb := C.1.2.1
  unfold f_X10_cell_53 at hf
  refine lv_aload_n hx hb dX10_cell_53 rfl (lv_at hl 0 rfl) ?_
  refine lv_iload_n hx hb dX10_cell_54 rfl (lv_at hl 1 rfl) ?_
  refine lv_iload_n hx hb dX10_cell_55 rfl (lv_at hl 2 rfl) ?_
  obtain ⟨r2, hg1, hf⟩ := zb hf
  try dsimp only at hf
  refine q_calli C hS (q_runV C hP (c_X10_noCell (l := l) C.2.2.1 hg1) (ci := 9) (As := [.int x1, .int x2]) (rest := []) ⟨gd_V k_972 k_974 k_40 k_53 k_975, ⟨rfl, rfl⟩, kd_X10_noCell, ⟨Nat.le_trans (Nat.le_of_ble_eq_true rfl) hR.1, Nat.le_trans (Nat.le_of_ble_eq_true rfl) hR.2⟩⟩ (o := 0) rfl rfl rfl rfl rfl (Nat.le_of_ble_eq_true rfl) hl.1 dX10_cell_56) (fun H locs hP hS => ?_)
  refine lv_if_le (tgt := 75) hx hb dX10_cell_59 (by decide) (fun c3 => ?_) (fun c3 => ?_)
  · replace hf := zt c3 hf
    refine lv_aload_n hx hb dX10_cell_75 rfl (lv_at hl 0 rfl) ?_
    refine gX10_26 C hP k_690 dX10_cell_76 ?_
    refine lv_bipush (v := 60) hx hb dX10_cell_79 (by decide) ?_
    refine lv_iload_n hx hb dX10_cell_81 rfl (lv_at hl 1 rfl) ?_
    refine lv_imul hx hb dX10_cell_82 ?_
    refine lv_iload_n hx hb dX10_cell_83 rfl (lv_at hl 2 rfl) ?_
    refine lv_iadd hx hb dX10_cell_84 ?_
    obtain ⟨h4, hf⟩ := zc hf
    refine aldM C hP (n := 240) rfl h4 dX10_cell_85 ?_
    refine lv_i2l hx hb dX10_cell_86 rfl ?_
    exact q_lret C hr hlk hP hS (Option.some.inj hf) dX10_cell_87
  · replace hf := zf c3 hf
    refine lv_aload_n hx hb dX10_cell_62 rfl (lv_at hl 0 rfl) ?_
    refine lv_aload_n hx hb dX10_cell_63 rfl (lv_at hl 0 rfl) ?_
    refine lv_iload_n hx hb dX10_cell_64 rfl (lv_at hl 1 rfl) ?_
    refine lv_iload_n hx hb dX10_cell_65 rfl (lv_at hl 2 rfl) ?_
    obtain ⟨r6, hg5, hf⟩ := zb hf
    try dsimp only at hf
    refine q_calli C hS (q_runV C hP (c_X10_noCell (l := l) C.2.2.1 hg5) (ci := 9) (As := [.int x1, .int x2]) (rest := [.ref (ad 0)]) ⟨gd_V k_972 k_974 k_40 k_53 k_975, ⟨rfl, rfl⟩, kd_X10_noCell, ⟨Nat.le_trans (Nat.le_of_ble_eq_true rfl) hR.1, Nat.le_trans (Nat.le_of_ble_eq_true rfl) hR.2⟩⟩ (o := 0) rfl rfl rfl rfl rfl (Nat.le_of_ble_eq_true rfl) hl.1 dX10_cell_66) (fun H locs hP hS => ?_)
    obtain ⟨⟨r8, σ9⟩, hg7, hf⟩ := zb hf
    try dsimp only at hf
    refine q_calll C hS (q_runV C hP (c_X10_faultedLong (l := l) C.2.2.1 hg7) (ci := 9) (As := [.int r6]) (rest := []) ⟨gd_V k_980 k_982 k_41 k_53 k_983, ⟨rfl, rfl⟩, kd_X10_faultedLong, ⟨Nat.le_trans (Nat.le_of_ble_eq_true rfl) hR.1, Nat.le_trans (Nat.le_of_ble_eq_true rfl) hR.2⟩⟩ (o := 0) rfl rfl rfl rfl rfl (Nat.le_of_ble_eq_true rfl) hl.1 dX10_cell_69) (fun H locs hP hS => ?_)
    refine lv_goto (tgt := 87) hx hb dX10_cell_72 (by decide) ?_
    exact q_lret C hr hlk hP hS (Option.some.inj hf) dX10_cell_87
set_option maxRecDepth 100000 in
set_option maxHeartbeats 4000000 in
theorem w_X10_cell (C : CX p m c cX10_cell 4 s args RX10 D (TYM cs) (WM ad cs) (AM ad)) (hr : meth.sig.returnType = (some .long)) (hlk : meth.locks = false) (hR : 2 ≤ R.frames ∧ 47 ≤ R.locals) {σ : Sg} {x1 : Int32} {x2 : Int32} {x3 : Int32} {res : Int64 × Sg} (hf : f_X10_cell σ x1 x2 x3 = some res) {H : Heap} {locs : List Loc} (hP : va_P D vwCl (WM ad cs σ) H) (hS : va_S (AM ad) s.heap H locs) {ls : Array Slot} (hl : lv_has ls 4 [(0, .ref (ad 0)), (1, .int x1), (2, .int x2), (3, .int x3)]) : W p l e R s m args below meth c H locs 0 0 (MQ below (QL D (TYM cs) (WM ad cs) (AM ad) res.1 res.2) args s 0 0 (AM ad)) (F0 m 0 ls []) := by
  have hx := C.1.1
  have hb := C.1.2.1
  unfold f_X10_cell at hf
  refine lv_aload_n hx hb dX10_cell_0 rfl (lv_at hl 0 rfl) ?_
  refine lv_iconst (v := 0) hx hb dX10_cell_1 (by decide) ?_
  refine pX10_0 C hP hS k_664 dX10_cell_2 (fun H locs hP hS => ?_)
  refine lv_iload_n hx hb dX10_cell_5 rfl (lv_at hl 1 rfl) ?_
  obtain ⟨r2, hg1, hf⟩ := zb hf
  try dsimp only at hf
  refine q_calli C hS (q_runS C hP (c_X10_noSheet (l := l) C.2.2.1 hg1) (As := [.int x1]) (rest := []) ⟨gd_S k_756 k_757 k_53 k_758, ⟨rfl, rfl⟩, kd_X10_noSheet, ⟨Nat.le_trans (Nat.le_of_ble_eq_true rfl) hR.1, Nat.le_trans (Nat.le_of_ble_eq_true rfl) hR.2⟩⟩ rfl rfl (Nat.le_of_ble_eq_true rfl) hl.1 dX10_cell_6) (fun H locs hP hS => ?_)
  refine lv_if_ne (tgt := 24) hx hb dX10_cell_9 (by decide) (fun c3 => ?_) (fun c3 => ?_)
  · replace hf := zf c3 hf
    exact w_X10_cell_24 C hr hlk hR hf hP hS (lv_sub hl [] rfl)
  · replace hf := zt c3 hf
    refine lv_iload_n hx hb dX10_cell_12 rfl (lv_at hl 3 rfl) ?_
    refine lv_i2l hx hb dX10_cell_13 rfl ?_
    refine lv_lconst (v := 0) hx hb dX10_cell_14 (by decide) ?_
    refine lv_ldc2 (v := 2) hx hb C.1.2.2.2.1 (C.1.2.2.2.2 _ k_767) dX10_cell_15 ?_
    obtain ⟨r5, hg4, hf⟩ := zb hf
    try dsimp only at hf
    refine q_calli C hS (q_runS C hP (c_X10_in (l := l) C.2.2.1 hg4) (As := [.long x3.toInt64, .long 0, .long 2]) (rest := []) ⟨gd_S k_760 k_761 k_53 k_762, ⟨rfl, rfl⟩, kd_X10_in, ⟨Nat.le_trans (Nat.le_of_ble_eq_true rfl) hR.1, Nat.le_trans (Nat.le_of_ble_eq_true rfl) hR.2⟩⟩ rfl rfl (Nat.le_of_ble_eq_true rfl) hl.1 dX10_cell_18) (fun H locs hP hS => ?_)
    refine lv_if_ne (tgt := 28) hx hb dX10_cell_21 (by decide) (fun c6 => ?_) (fun c6 => ?_)
    · replace hf := zf c6 hf
      refine lv_aload_n hx hb dX10_cell_28 rfl (lv_at hl 0 rfl) ?_
      refine gX10_24 C hP k_688 dX10_cell_29 ?_
      refine lv_iload_n hx hb dX10_cell_32 rfl (lv_at hl 1 rfl) ?_
      obtain ⟨h7, hf⟩ := zc hf
      refine aldM C hP (n := 4) rfl h7 dX10_cell_33 ?_
      refine lv_if_lt (tgt := 53) hx hb dX10_cell_34 (by decide) (fun c8 => ?_) (fun c8 => ?_)
      · replace hf := zt c8 hf
        exact w_X10_cell_53 C hr hlk hR hf hP hS (lv_sub hl [0, 1, 2] rfl)
      · replace hf := zf c8 hf
        refine lv_aload_n hx hb dX10_cell_37 rfl (lv_at hl 0 rfl) ?_
        refine gX10_25 C hP k_689 dX10_cell_38 ?_
        refine lv_iload_n hx hb dX10_cell_41 rfl (lv_at hl 1 rfl) ?_
        refine aldM C hP (n := 4) rfl h7 dX10_cell_42 ?_
        refine lv_iload_n hx hb dX10_cell_43 rfl (lv_at hl 3 rfl) ?_
        refine lv_icmp_eq (tgt := 53) hx hb dX10_cell_44 (by decide) (fun c9 => ?_) (fun c9 => ?_)
        · replace hf := zt c9 hf
          exact w_X10_cell_53 C hr hlk hR hf hP hS (lv_sub hl [0, 1, 2] rfl)
        · replace hf := zf c9 hf
          refine lv_aload_n hx hb dX10_cell_47 rfl (lv_at hl 0 rfl) ?_
          refine lv_iconst (v := 2) hx hb dX10_cell_48 (by decide) ?_
          obtain ⟨⟨r11, σ12⟩, hg10, hf⟩ := zb hf
          try dsimp only at hf
          refine q_calll C hS (q_runV C hP (c_X10_faultedLong (l := l) C.2.2.1 hg10) (ci := 9) (As := [.int 2]) (rest := []) ⟨gd_V k_980 k_982 k_41 k_53 k_983, ⟨rfl, rfl⟩, kd_X10_faultedLong, ⟨Nat.le_trans (Nat.le_of_ble_eq_true rfl) hR.1, Nat.le_trans (Nat.le_of_ble_eq_true rfl) hR.2⟩⟩ (o := 0) rfl rfl rfl rfl rfl (Nat.le_of_ble_eq_true rfl) hl.1 dX10_cell_49) (fun H locs hP hS => ?_)
          exact q_lret C hr hlk hP hS (Option.some.inj hf) dX10_cell_52
    · replace hf := zt c6 hf
      exact w_X10_cell_24 C hr hlk hR hf hP hS (lv_sub hl [] rfl)
theorem kd_X10_cell : yX10_cell.cls = RX10 ∧ yX10_cell.cls ≠ "java/lang/invoke/MethodHandle" ∧ yX10_cell.cls ≠ "java/lang/invoke/VarHandle" ∧ (parseMethodDescriptor yX10_cell.desc).map (fun d => d.parameters.length) = some 3 := by decide +kernel
def r_X10_cell : Room := { frames := 2, cells := 0, slots := 0, locals := 47 }
set_option maxRecDepth 100000 in
set_option maxHeartbeats 4000000 in
theorem c_X10_cell {l : Launch} {D : va_G} {ad : Nat → Nat} {cs : Nat → ClassId} (hD : ∀ σ, va_D (AM ad) (WM ad cs σ)) {σ : Sg} {x1 : Int32} {x2 : Int32} {x3 : Int32} {res : Int64 × Sg} (hf : f_X10_cell σ x1 x2 x3 = some res) : Met l yX10_cell (wm yX10_cell cX10_cell 4 (some .long)) r_X10_cell (va_Pc [.ref (ad 0), .int x1, .int x2, .int x3] (BW D (TYM cs) (WM ad cs) σ)) (QL D (TYM cs) (WM ad cs) (AM ad) res.1 res.2) 0 0 (AM ad) := by
  refine q_enter (by decide) hD (Nat.le_of_ble_eq_true rfl) ?_
  intro p e s m below meth c C hr hlk hP hS ls hl
  exact w_X10_cell C hr hlk ⟨Nat.le_of_ble_eq_true rfl, Nat.le_of_ble_eq_true rfl⟩ hf hP hS hl

set_option maxRecDepth 100000 in
set_option maxHeartbeats 4000000 in
theorem w_X10_copy_14 (C : CX p m c cX10_copy 7 s args RX10 D (TYM cs) (WM ad cs) (AM ad)) (hr : meth.sig.returnType = (some .int)) (hlk : meth.locks = false) (hR : 2 ≤ R.frames ∧ 45 ≤ R.locals) {σ : Sg}  {res : Int32 × Sg} (hf : f_X10_copy_14 σ = some res) {H : Heap} {locs : List Loc} (hP : va_P D vwCl (WM ad cs σ) H) (hS : va_S (AM ad) s.heap H locs) {ls : Array Slot} (hl : lv_has ls 7 [(0, .ref (ad 0))]) : W p l e R s m args below meth c H locs 0 0 (MQ below (QI D (TYM cs) (WM ad cs) (AM ad) res.1 res.2) args s 0 0 (AM ad)) (F0 m 14 ls []) := by
  have hx := C.1.1
  have hb := C.1.2.1
  unfold f_X10_copy_14 at hf
  refine lv_aload_n hx hb dX10_copy_14 rfl (lv_at hl 0 rfl) ?_
  refine lv_iconst (v := (-1)) hx hb dX10_copy_15 (by decide) ?_
  obtain ⟨⟨r2, σ3⟩, hg1, hf⟩ := zb hf
  try dsimp only at hf
  refine q_calli C hS (q_runV C hP (c_X10_refused (l := l) C.2.2.1 hg1) (ci := 9) (As := [.int (-1)]) (rest := []) ⟨gd_V k_763 k_765 k_16 k_53 k_766, ⟨rfl, rfl⟩, kd_X10_refused, ⟨Nat.le_trans (Nat.le_of_ble_eq_true rfl) hR.1, Nat.le_trans (Nat.le_of_ble_eq_true rfl) hR.2⟩⟩ (o := 0) rfl rfl rfl rfl rfl (Nat.le_of_ble_eq_true rfl) hl.1 dX10_copy_16) (fun H locs hP hS => ?_)
  exact q_iret C hr hlk hP hS (Option.some.inj hf) dX10_copy_19
set_option maxRecDepth 100000 in
set_option maxHeartbeats 4000000 in
theorem w_X10_copy_38 (C : CX p m c cX10_copy 7 s args RX10 D (TYM cs) (WM ad cs) (AM ad)) (hr : meth.sig.returnType = (some .int)) (hlk : meth.locks = false) (hR : 2 ≤ R.frames ∧ 45 ≤ R.locals) {σ : Sg}  {res : Int32 × Sg} (hf : f_X10_copy_38 σ = some res) {H : Heap} {locs : List Loc} (hP : va_P D vwCl (WM ad cs σ) H) (hS : va_S (AM ad) s.heap H locs) {ls : Array Slot} (hl : lv_has ls 7 [(0, .ref (ad 0))]) : W p l e R s m args below meth c H locs 0 0 (MQ below (QI D (TYM cs) (WM ad cs) (AM ad) res.1 res.2) args s 0 0 (AM ad)) (F0 m 38 ls []) := by
  have hx := C.1.1
  have hb := C.1.2.1
  unfold f_X10_copy_38 at hf
  refine lv_aload_n hx hb dX10_copy_38 rfl (lv_at hl 0 rfl) ?_
  refine lv_iconst (v := 1) hx hb dX10_copy_39 (by decide) ?_
  obtain ⟨⟨r2, σ3⟩, hg1, hf⟩ := zb hf
  try dsimp only at hf
  refine q_calli C hS (q_runV C hP (c_X10_faulted (l := l) C.2.2.1 hg1) (ci := 9) (As := [.int 1]) (rest := []) ⟨gd_V k_772 k_774 k_18 k_53 k_775, ⟨rfl, rfl⟩, kd_X10_faulted, ⟨Nat.le_trans (Nat.le_of_ble_eq_true rfl) hR.1, Nat.le_trans (Nat.le_of_ble_eq_true rfl) hR.2⟩⟩ (o := 0) rfl rfl rfl rfl rfl (Nat.le_of_ble_eq_true rfl) hl.1 dX10_copy_40) (fun H locs hP hS => ?_)
  exact q_iret C hr hlk hP hS (Option.some.inj hf) dX10_copy_43
set_option maxRecDepth 100000 in
set_option maxHeartbeats 4000000 in
theorem w_X10_copy_98 (C : CX p m c cX10_copy 7 s args RX10 D (TYM cs) (WM ad cs) (AM ad)) (hr : meth.sig.returnType = (some .int)) (hlk : meth.locks = false) (hR : 2 ≤ R.frames ∧ 45 ≤ R.locals) {σ : Sg}  {res : Int32 × Sg} (hf : f_X10_copy_98 σ = some res) {H : Heap} {locs : List Loc} (hP : va_P D vwCl (WM ad cs σ) H) (hS : va_S (AM ad) s.heap H locs) {ls : Array Slot} (hl : lv_has ls 7 [(0, .ref (ad 0))]) : W p l e R s m args below meth c H locs 0 0 (MQ below (QI D (TYM cs) (WM ad cs) (AM ad) res.1 res.2) args s 0 0 (AM ad)) (F0 m 98 ls []) := by
  have hx := C.1.1
  have hb := C.1.2.1
  unfold f_X10_copy_98 at hf
  refine lv_aload_n hx hb dX10_copy_98 rfl (lv_at hl 0 rfl) ?_
  refine lv_iconst (v := 3) hx hb dX10_copy_99 (by decide) ?_
  obtain ⟨⟨r2, σ3⟩, hg1, hf⟩ := zb hf
  try dsimp only at hf
  refine q_calli C hS (q_runV C hP (c_X10_faulted (l := l) C.2.2.1 hg1) (ci := 9) (As := [.int 3]) (rest := []) ⟨gd_V k_772 k_774 k_18 k_53 k_775, ⟨rfl, rfl⟩, kd_X10_faulted, ⟨Nat.le_trans (Nat.le_of_ble_eq_true rfl) hR.1, Nat.le_trans (Nat.le_of_ble_eq_true rfl) hR.2⟩⟩ (o := 0) rfl rfl rfl rfl rfl (Nat.le_of_ble_eq_true rfl) hl.1 dX10_copy_100) (fun H locs hP hS => ?_)
  exact q_iret C hr hlk hP hS (Option.some.inj hf) dX10_copy_103
set_option maxRecDepth 100000 in
set_option maxHeartbeats 4000000 in
theorem w_X10_copy_144 (C : CX p m c cX10_copy 7 s args RX10 D (TYM cs) (WM ad cs) (AM ad)) (hr : meth.sig.returnType = (some .int)) (hlk : meth.locks = false) (hR : 2 ≤ R.frames ∧ 45 ≤ R.locals) {σ : Sg} {x3 : Int32} {x4 : Int32} {x5 : Int32} {x6 : Int32} {res : Int32 × Sg} {ag144 : Int32 → Sg → Option (Int32 × Sg)} (hag144 : ∀ (x6 : Int32) (σ : Sg) (H : Heap) (locs : List Loc) (ls : Array Slot), ag144 x6 σ = some res → va_P D vwCl (WM ad cs σ) H → va_S (AM ad) s.heap H locs → lv_has ls 7 [(0, .ref (ad 0)), (3, .int x3), (4, .int x4), (5, .int x5), (6, .int x6)] → W p l e R s m args below meth c H locs 0 0 (MQ below (QI D (TYM cs) (WM ad cs) (AM ad) res.1 res.2) args s 0 0 (AM ad)) (F0 m 144 ls [])) (hf : f_X10_copy_144 ag144 σ x3 x4 x5 x6 = some res) {H : Heap} {locs : List Loc} (hP : va_P D vwCl (WM ad cs σ) H) (hS : va_S (AM ad) s.heap H locs) {ls : Array Slot} (hl : lv_has ls 7 [(0, .ref (ad 0)), (3, .int x3), (4, .int x4), (5, .int x5), (6, .int x6)]) : W p l e R s m args below meth c H locs 0 0 (MQ below (QI D (TYM cs) (WM ad cs) (AM ad) res.1 res.2) args s 0 0 (AM ad)) (F0 m 144 ls []) := by
  have hx := C.1.1
  have hb := C.1.2.1
  unfold f_X10_copy_144 at hf
  refine lv_iload hx hb dX10_copy_144 (lv_at hl 4 rfl) ?_
  refine lv_iload hx hb dX10_copy_146 (lv_at hl 3 rfl) ?_
  refine lv_icmp_ge (tgt := 179) hx hb dX10_copy_148 (by decide) (fun c1 => ?_) (fun c1 => ?_)
  · replace hf := zt c1 hf
    refine lv_aload_n hx hb dX10_copy_179 rfl (lv_at hl 0 rfl) ?_
    refine lv_iload hx hb dX10_copy_180 (lv_at hl 3 rfl) ?_
    obtain ⟨⟨r3, σ4⟩, hg2, hf⟩ := zb hf
    try dsimp only at hf
    refine q_calli C hS (q_runV C hP (c_X10_refused (l := l) C.2.2.1 hg2) (ci := 9) (As := [.int x5]) (rest := []) ⟨gd_V k_763 k_765 k_16 k_53 k_766, ⟨rfl, rfl⟩, kd_X10_refused, ⟨Nat.le_trans (Nat.le_of_ble_eq_true rfl) hR.1, Nat.le_trans (Nat.le_of_ble_eq_true rfl) hR.2⟩⟩ (o := 0) rfl rfl rfl rfl rfl (Nat.le_of_ble_eq_true rfl) hl.1 dX10_copy_182) (fun H locs hP hS => ?_)
    exact q_iret C hr hlk hP hS (Option.some.inj hf) dX10_copy_185
  · replace hf := zf c1 hf
    refine lv_aload_n hx hb dX10_copy_151 rfl (lv_at hl 0 rfl) ?_
    refine gX10_26 C hP k_690 dX10_copy_152 ?_
    refine lv_bipush (v := 60) hx hb dX10_copy_155 (by decide) ?_
    refine lv_iload_n hx hb dX10_copy_157 rfl (lv_at hl 1 rfl) ?_
    refine lv_imul hx hb dX10_copy_158 ?_
    refine lv_iload hx hb dX10_copy_159 (lv_at hl 2 rfl) ?_
    refine lv_iadd hx hb dX10_copy_161 ?_
    refine lv_iload hx hb dX10_copy_162 (lv_at hl 4 rfl) ?_
    refine lv_iadd hx hb dX10_copy_164 ?_
    refine lv_aload_n hx hb dX10_copy_165 rfl (lv_at hl 0 rfl) ?_
    refine gX10_27 C hP k_691 dX10_copy_166 ?_
    refine lv_iload hx hb dX10_copy_169 (lv_at hl 4 rfl) ?_
    obtain ⟨h5, hf⟩ := zc hf
    refine aldM C hP (n := 60) rfl h5 dX10_copy_171 ?_
    obtain ⟨h6, hf⟩ := zc hf
    refine astM C hP hS (n := 240) rfl h6 dX10_copy_172 (fun H locs hP hS => ?_)
    refine lv_iinc (v := x6 + 1) (lv' := [(6, .int (x6 + 1)), (0, .ref (ad 0)), (3, .int x3), (4, .int x4), (5, .int x5)]) hx hb dX10_copy_173 hl (k := 4) rfl rfl (by decide) rfl (fun ls hl => ?_)
    refine lv_goto (tgt := 144) hx hb dX10_copy_176 (by decide) ?_
    exact hag144 _ _ _ _ _ hf hP hS (lv_sub hl [1, 2, 3, 4, 0] rfl)
set_option maxRecDepth 100000 in
set_option maxHeartbeats 4000000 in
theorem wl_X10_copy_144 (C : CX p m c cX10_copy 7 s args RX10 D (TYM cs) (WM ad cs) (AM ad)) (hr : meth.sig.returnType = (some .int)) (hlk : meth.locks = false) (hR : 2 ≤ R.frames ∧ 45 ≤ R.locals) {x3 : Int32} {x4 : Int32} {x5 : Int32} {res : Int32 × Sg} : ∀ n : Nat, ∀ (x6 : Int32) (σ : Sg) (H : Heap) (locs : List Loc) (ls : Array Slot), l_X10_copy_144 x3 x4 x5 n x6 σ = some res → va_P D vwCl (WM ad cs σ) H → va_S (AM ad) s.heap H locs → lv_has ls 7 [(0, .ref (ad 0)), (3, .int x3), (4, .int x4), (5, .int x5), (6, .int x6)] → W p l e R s m args below meth c H locs 0 0 (MQ below (QI D (TYM cs) (WM ad cs) (AM ad) res.1 res.2) args s 0 0 (AM ad)) (F0 m 144 ls []) := by
  intro n
  induction n with
  | zero => intro x6 σ H locs ls hf; cases hf
  | succ n ih =>
    intro x6 σ H locs ls hf hP hS hl
    exact w_X10_copy_144 C hr hlk hR (ag144 := l_X10_copy_144 x3 x4 x5 n) ih hf hP hS hl
set_option maxRecDepth 100000 in
set_option maxHeartbeats 4000000 in
theorem w_X10_copy_107 (C : CX p m c cX10_copy 7 s args RX10 D (TYM cs) (WM ad cs) (AM ad)) (hr : meth.sig.returnType = (some .int)) (hlk : meth.locks = false) (hR : 2 ≤ R.frames ∧ 45 ≤ R.locals) {σ : Sg} {x1 : Int32} {x2 : Int32} {x3 : Int32} {x4 : Int32} {x5 : Int32} {x6 : Int32} {res : Int32 × Sg} {ag107 : Int32 → Sg → Option (Int32 × Sg)} (hag107 : ∀ (x6 : Int32) (σ : Sg) (H : Heap) (locs : List Loc) (ls : Array Slot), ag107 x6 σ = some res → va_P D vwCl (WM ad cs σ) H → va_S (AM ad) s.heap H locs → lv_has ls 7 [(0, .ref (ad 0)), (1, .int x1), (2, .int x2), (3, .int x3), (4, .int x4), (5, .int x5), (6, .int x6)] → W p l e R s m args below meth c H locs 0 0 (MQ below (QI D (TYM cs) (WM ad cs) (AM ad) res.1 res.2) args s 0 0 (AM ad)) (F0 m 107 ls [])) (hf : f_X10_copy_107 ag107 σ x1 x2 x3 x4 x5 x6 = some res) {H : Heap} {locs : List Loc} (hP : va_P D vwCl (WM ad cs σ) H) (hS : va_S (AM ad) s.heap H locs) {ls : Array Slot} (hl : lv_has ls 7 [(0, .ref (ad 0)), (1, .int x1), (2, .int x2), (3, .int x3), (4, .int x4), (5, .int x5), (6, .int x6)]) : W p l e R s m args below meth c H locs 0 0 (MQ below (QI D (TYM cs) (WM ad cs) (AM ad) res.1 res.2) args s 0 0 (AM ad)) (F0 m 107 ls []) := by
  have hx := C.1.1
  have hb := C.1.2.1
  unfold f_X10_copy_107 at hf
  refine lv_iload hx hb dX10_copy_107 (lv_at hl 6 rfl) ?_
  refine lv_iload hx hb dX10_copy_109 (lv_at hl 5 rfl) ?_
  refine lv_icmp_ge (tgt := 141) hx hb dX10_copy_111 (by decide) (fun c1 => ?_) (fun c1 => ?_)
  · replace hf := zt c1 hf
    refine lv_iconst (v := 0) hx hb dX10_copy_141 (by decide) ?_
    refine lv_istore (lv' := [(6, .int 0), (0, .ref (ad 0)), (1, .int x1), (2, .int x2), (3, .int x3), (4, .int x4), (5, .int x5)]) hx hb dX10_copy_142 hl (by decide) rfl (fun ls hl => ?_)
    exact wl_X10_copy_144 C hr hlk hR fu _ _ _ _ _ hf hP hS (lv_sub hl [1, 4, 5, 6, 0] rfl)
  · replace hf := zf c1 hf
    refine lv_aload_n hx hb dX10_copy_114 rfl (lv_at hl 0 rfl) ?_
    refine gX10_27 C hP k_691 dX10_copy_115 ?_
    refine lv_iload hx hb dX10_copy_118 (lv_at hl 6 rfl) ?_
    refine lv_aload_n hx hb dX10_copy_120 rfl (lv_at hl 0 rfl) ?_
    refine gX10_26 C hP k_690 dX10_copy_121 ?_
    refine lv_bipush (v := 60) hx hb dX10_copy_124 (by decide) ?_
    refine lv_iload_n hx hb dX10_copy_126 rfl (lv_at hl 1 rfl) ?_
    refine lv_imul hx hb dX10_copy_127 ?_
    refine lv_iload_n hx hb dX10_copy_128 rfl (lv_at hl 2 rfl) ?_
    refine lv_iadd hx hb dX10_copy_129 ?_
    refine lv_iload hx hb dX10_copy_130 (lv_at hl 6 rfl) ?_
    refine lv_iadd hx hb dX10_copy_132 ?_
    obtain ⟨h2, hf⟩ := zc hf
    refine aldM C hP (n := 240) rfl h2 dX10_copy_133 ?_
    obtain ⟨h3, hf⟩ := zc hf
    refine astM C hP hS (n := 60) rfl h3 dX10_copy_134 (fun H locs hP hS => ?_)
    refine lv_iinc (v := x6 + 1) (lv' := [(6, .int (x6 + 1)), (0, .ref (ad 0)), (1, .int x1), (2, .int x2), (3, .int x3), (4, .int x4), (5, .int x5)]) hx hb dX10_copy_135 hl (k := 6) rfl rfl (by decide) rfl (fun ls hl => ?_)
    refine lv_goto (tgt := 107) hx hb dX10_copy_138 (by decide) ?_
    exact hag107 _ _ _ _ _ hf hP hS (lv_sub hl [1, 2, 3, 4, 5, 6, 0] rfl)
set_option maxRecDepth 100000 in
set_option maxHeartbeats 4000000 in
theorem wl_X10_copy_107 (C : CX p m c cX10_copy 7 s args RX10 D (TYM cs) (WM ad cs) (AM ad)) (hr : meth.sig.returnType = (some .int)) (hlk : meth.locks = false) (hR : 2 ≤ R.frames ∧ 45 ≤ R.locals) {x1 : Int32} {x2 : Int32} {x3 : Int32} {x4 : Int32} {x5 : Int32} {res : Int32 × Sg} : ∀ n : Nat, ∀ (x6 : Int32) (σ : Sg) (H : Heap) (locs : List Loc) (ls : Array Slot), l_X10_copy_107 x1 x2 x3 x4 x5 n x6 σ = some res → va_P D vwCl (WM ad cs σ) H → va_S (AM ad) s.heap H locs → lv_has ls 7 [(0, .ref (ad 0)), (1, .int x1), (2, .int x2), (3, .int x3), (4, .int x4), (5, .int x5), (6, .int x6)] → W p l e R s m args below meth c H locs 0 0 (MQ below (QI D (TYM cs) (WM ad cs) (AM ad) res.1 res.2) args s 0 0 (AM ad)) (F0 m 107 ls []) := by
  intro n
  induction n with
  | zero => intro x6 σ H locs ls hf; cases hf
  | succ n ih =>
    intro x6 σ H locs ls hf hP hS hl
    exact w_X10_copy_107 C hr hlk hR (ag107 := l_X10_copy_107 x1 x2 x3 x4 x5 n) ih hf hP hS hl
set_option maxRecDepth 100000 in
set_option maxHeartbeats 4000000 in
theorem w_X10_copy (C : CX p m c cX10_copy 7 s args RX10 D (TYM cs) (WM ad cs) (AM ad)) (hr : meth.sig.returnType = (some .int)) (hlk : meth.locks = false) (hR : 2 ≤ R.frames ∧ 45 ≤ R.locals) {σ : Sg} {x1 : Int32} {x2 : Int32} {x3 : Int32} {x4 : Int32} {x5 : Int32} {res : Int32 × Sg} (hf : f_X10_copy σ x1 x2 x3 x4 x5 = some res) {H : Heap} {locs : List Loc} (hP : va_P D vwCl (WM ad cs σ) H) (hS : va_S (AM ad) s.heap H locs) {ls : Array Slot} (hl : lv_has ls 7 [(0, .ref (ad 0)), (1, .int x1), (2, .int x2), (3, .int x3), (4, .int x4), (5, .int x5)]) : W p l e R s m args below meth c H locs 0 0 (MQ below (QI D (TYM cs) (WM ad cs) (AM ad) res.1 res.2) args s 0 0 (AM ad)) (F0 m 0 ls []) := by
  have hx := C.1.1
  have hb := C.1.2.1
  unfold f_X10_copy at hf
  refine lv_iload_n hx hb dX10_copy_0 rfl (lv_at hl 1 rfl) ?_
  obtain ⟨r2, hg1, hf⟩ := zb hf
  try dsimp only at hf
  refine q_calli C hS (q_runS C hP (c_X10_noSheet (l := l) C.2.2.1 hg1) (As := [.int x1]) (rest := []) ⟨gd_S k_756 k_757 k_53 k_758, ⟨rfl, rfl⟩, kd_X10_noSheet, ⟨Nat.le_trans (Nat.le_of_ble_eq_true rfl) hR.1, Nat.le_trans (Nat.le_of_ble_eq_true rfl) hR.2⟩⟩ rfl rfl (Nat.le_of_ble_eq_true rfl) hl.1 dX10_copy_1) (fun H locs hP hS => ?_)
  refine lv_if_ne (tgt := 14) hx hb dX10_copy_4 (by decide) (fun c3 => ?_) (fun c3 => ?_)
  · replace hf := zf c3 hf
    exact w_X10_copy_14 C hr hlk hR hf hP hS (lv_sub hl [0] rfl)
  · replace hf := zt c3 hf
    refine lv_iload_n hx hb dX10_copy_7 rfl (lv_at hl 3 rfl) ?_
    obtain ⟨r5, hg4, hf⟩ := zb hf
    try dsimp only at hf
    refine q_calli C hS (q_runS C hP (c_X10_noSheet (l := l) C.2.2.1 hg4) (As := [.int x3]) (rest := []) ⟨gd_S k_756 k_757 k_53 k_758, ⟨rfl, rfl⟩, kd_X10_noSheet, ⟨Nat.le_trans (Nat.le_of_ble_eq_true rfl) hR.1, Nat.le_trans (Nat.le_of_ble_eq_true rfl) hR.2⟩⟩ rfl rfl (Nat.le_of_ble_eq_true rfl) hl.1 dX10_copy_8) (fun H locs hP hS => ?_)
    refine lv_if_eq (tgt := 20) hx hb dX10_copy_11 (by decide) (fun c6 => ?_) (fun c6 => ?_)
    · replace hf := zt c6 hf
      refine lv_aload_n hx hb dX10_copy_20 rfl (lv_at hl 0 rfl) ?_
      refine gX10_24 C hP k_688 dX10_copy_21 ?_
      refine lv_iload_n hx hb dX10_copy_24 rfl (lv_at hl 1 rfl) ?_
      obtain ⟨h7, hf⟩ := zc hf
      refine aldM C hP (n := 4) rfl h7 dX10_copy_25 ?_
      refine lv_if_lt (tgt := 38) hx hb dX10_copy_26 (by decide) (fun c8 => ?_) (fun c8 => ?_)
      · replace hf := zt c8 hf
        exact w_X10_copy_38 C hr hlk hR hf hP hS (lv_sub hl [0] rfl)
      · replace hf := zf c8 hf
        refine lv_aload_n hx hb dX10_copy_29 rfl (lv_at hl 0 rfl) ?_
        refine gX10_24 C hP k_688 dX10_copy_30 ?_
        refine lv_iload_n hx hb dX10_copy_33 rfl (lv_at hl 3 rfl) ?_
        obtain ⟨h9, hf⟩ := zc hf
        refine aldM C hP (n := 4) rfl h9 dX10_copy_34 ?_
        refine lv_if_ge (tgt := 44) hx hb dX10_copy_35 (by decide) (fun c10 => ?_) (fun c10 => ?_)
        · replace hf := zt c10 hf
          refine lv_aload_n hx hb dX10_copy_44 rfl (lv_at hl 0 rfl) ?_
          refine gX10_25 C hP k_689 dX10_copy_45 ?_
          refine lv_iload_n hx hb dX10_copy_48 rfl (lv_at hl 1 rfl) ?_
          refine aldM C hP (n := 4) rfl h7 dX10_copy_49 ?_
          refine lv_aload_n hx hb dX10_copy_50 rfl (lv_at hl 0 rfl) ?_
          refine gX10_25 C hP k_689 dX10_copy_51 ?_
          refine lv_iload_n hx hb dX10_copy_54 rfl (lv_at hl 3 rfl) ?_
          refine aldM C hP (n := 4) rfl h9 dX10_copy_55 ?_
          refine lv_icmp_eq (tgt := 65) hx hb dX10_copy_56 (by decide) (fun c11 => ?_) (fun c11 => ?_)
          · replace hf := zt c11 hf
            refine lv_iload_n hx hb dX10_copy_65 rfl (lv_at hl 2 rfl) ?_
            refine lv_iload hx hb dX10_copy_66 (lv_at hl 5 rfl) ?_
            refine lv_i2l hx hb dX10_copy_68 rfl ?_
            refine lv_aload_n hx hb dX10_copy_69 rfl (lv_at hl 0 rfl) ?_
            refine gX10_24 C hP k_688 dX10_copy_70 ?_
            refine lv_iload_n hx hb dX10_copy_73 rfl (lv_at hl 1 rfl) ?_
            refine aldM C hP (n := 4) rfl h7 dX10_copy_74 ?_
            obtain ⟨r13, hg12, hf⟩ := zb hf
            try dsimp only at hf
            refine q_calli C hS (q_runS C hP (c_X10_isBeyond (l := l) C.2.2.1 hg12) (As := [.int x2, .long x5.toInt64, .int (σ 17 x1.toNatClampNeg)]) (rest := []) ⟨gd_S k_776 k_777 k_53 k_778, ⟨rfl, rfl⟩, kd_X10_isBeyond, ⟨Nat.le_trans (Nat.le_of_ble_eq_true rfl) hR.1, Nat.le_trans (Nat.le_of_ble_eq_true rfl) hR.2⟩⟩ rfl rfl (Nat.le_of_ble_eq_true rfl) hl.1 dX10_copy_75) (fun H locs hP hS => ?_)
            refine lv_if_ne (tgt := 98) hx hb dX10_copy_78 (by decide) (fun c14 => ?_) (fun c14 => ?_)
            · replace hf := zf c14 hf
              exact w_X10_copy_98 C hr hlk hR hf hP hS (lv_sub hl [0] rfl)
            · replace hf := zt c14 hf
              refine lv_iload hx hb dX10_copy_81 (lv_at hl 4 rfl) ?_
              refine lv_iload hx hb dX10_copy_83 (lv_at hl 5 rfl) ?_
              refine lv_i2l hx hb dX10_copy_85 rfl ?_
              refine lv_aload_n hx hb dX10_copy_86 rfl (lv_at hl 0 rfl) ?_
              refine gX10_24 C hP k_688 dX10_copy_87 ?_
              refine lv_iload_n hx hb dX10_copy_90 rfl (lv_at hl 3 rfl) ?_
              refine aldM C hP (n := 4) rfl h9 dX10_copy_91 ?_
              obtain ⟨r16, hg15, hf⟩ := zb hf
              try dsimp only at hf
              refine q_calli C hS (q_runS C hP (c_X10_isBeyond (l := l) C.2.2.1 hg15) (As := [.int x4, .long x5.toInt64, .int (σ 17 x3.toNatClampNeg)]) (rest := []) ⟨gd_S k_776 k_777 k_53 k_778, ⟨rfl, rfl⟩, kd_X10_isBeyond, ⟨Nat.le_trans (Nat.le_of_ble_eq_true rfl) hR.1, Nat.le_trans (Nat.le_of_ble_eq_true rfl) hR.2⟩⟩ rfl rfl (Nat.le_of_ble_eq_true rfl) hl.1 dX10_copy_92) (fun H locs hP hS => ?_)
              refine lv_if_eq (tgt := 104) hx hb dX10_copy_95 (by decide) (fun c17 => ?_) (fun c17 => ?_)
              · replace hf := zt c17 hf
                refine lv_iconst (v := 0) hx hb dX10_copy_104 (by decide) ?_
                refine lv_istore (lv' := [(6, .int 0), (0, .ref (ad 0)), (1, .int x1), (2, .int x2), (3, .int x3), (4, .int x4), (5, .int x5)]) hx hb dX10_copy_105 hl (by decide) rfl (fun ls hl => ?_)
                exact wl_X10_copy_107 C hr hlk hR fu _ _ _ _ _ hf hP hS (lv_sub hl [1, 2, 3, 4, 5, 6, 0] rfl)
              · replace hf := zf c17 hf
                exact w_X10_copy_98 C hr hlk hR hf hP hS (lv_sub hl [0] rfl)
          · replace hf := zf c11 hf
            refine lv_aload_n hx hb dX10_copy_59 rfl (lv_at hl 0 rfl) ?_
            refine lv_iconst (v := 2) hx hb dX10_copy_60 (by decide) ?_
            obtain ⟨⟨r19, σ20⟩, hg18, hf⟩ := zb hf
            try dsimp only at hf
            refine q_calli C hS (q_runV C hP (c_X10_faulted (l := l) C.2.2.1 hg18) (ci := 9) (As := [.int 2]) (rest := []) ⟨gd_V k_772 k_774 k_18 k_53 k_775, ⟨rfl, rfl⟩, kd_X10_faulted, ⟨Nat.le_trans (Nat.le_of_ble_eq_true rfl) hR.1, Nat.le_trans (Nat.le_of_ble_eq_true rfl) hR.2⟩⟩ (o := 0) rfl rfl rfl rfl rfl (Nat.le_of_ble_eq_true rfl) hl.1 dX10_copy_61) (fun H locs hP hS => ?_)
            exact q_iret C hr hlk hP hS (Option.some.inj hf) dX10_copy_64
        · replace hf := zf c10 hf
          exact w_X10_copy_38 C hr hlk hR hf hP hS (lv_sub hl [0] rfl)
    · replace hf := zf c6 hf
      exact w_X10_copy_14 C hr hlk hR hf hP hS (lv_sub hl [0] rfl)
theorem kd_X10_copy : yX10_copy.cls = RX10 ∧ yX10_copy.cls ≠ "java/lang/invoke/MethodHandle" ∧ yX10_copy.cls ≠ "java/lang/invoke/VarHandle" ∧ (parseMethodDescriptor yX10_copy.desc).map (fun d => d.parameters.length) = some 5 := by decide +kernel
def r_X10_copy : Room := { frames := 2, cells := 0, slots := 0, locals := 45 }
set_option maxRecDepth 100000 in
set_option maxHeartbeats 4000000 in
theorem c_X10_copy {l : Launch} {D : va_G} {ad : Nat → Nat} {cs : Nat → ClassId} (hD : ∀ σ, va_D (AM ad) (WM ad cs σ)) {σ : Sg} {x1 : Int32} {x2 : Int32} {x3 : Int32} {x4 : Int32} {x5 : Int32} {res : Int32 × Sg} (hf : f_X10_copy σ x1 x2 x3 x4 x5 = some res) : Met l yX10_copy (wm yX10_copy cX10_copy 7 (some .int)) r_X10_copy (va_Pc [.ref (ad 0), .int x1, .int x2, .int x3, .int x4, .int x5] (BW D (TYM cs) (WM ad cs) σ)) (QI D (TYM cs) (WM ad cs) (AM ad) res.1 res.2) 0 0 (AM ad) := by
  refine q_enter (by decide) hD (Nat.le_of_ble_eq_true rfl) ?_
  intro p e s m below meth c C hr hlk hP hS ls hl
  exact w_X10_copy C hr hlk ⟨Nat.le_of_ble_eq_true rfl, Nat.le_of_ble_eq_true rfl⟩ hf hP hS hl

set_option maxRecDepth 100000 in
set_option maxHeartbeats 4000000 in
theorem w_X10_traced (C : CX p m c cX10_traced 2 s args RX10 D (TYM cs) (WM ad cs) (AM ad)) (hr : meth.sig.returnType = none) (hlk : meth.locks = false) (hR : 0 ≤ R.frames ∧ 0 ≤ R.locals) {σ : Sg} {x1 : Int32} {res : Sg} (hf : f_X10_traced σ x1 = some res) {H : Heap} {locs : List Loc} (hP : va_P D vwCl (WM ad cs σ) H) (hS : va_S (AM ad) s.heap H locs) {ls : Array Slot} (hl : lv_has ls 2 [(0, .ref (ad 0)), (1, .int x1)]) : W p l e R s m args below meth c H locs 0 0 (MQ below (QV D (TYM cs) (WM ad cs) (AM ad) res) args s 0 0 (AM ad)) (F0 m 0 ls []) := by
  have hx := C.1.1
  have hb := C.1.2.1
  unfold f_X10_traced at hf
  refine lv_aload_n hx hb dX10_traced_0 rfl (lv_at hl 0 rfl) ?_
  refine lv_bipush (v := 31) hx hb dX10_traced_1 (by decide) ?_
  refine lv_aload_n hx hb dX10_traced_3 rfl (lv_at hl 0 rfl) ?_
  refine gX10_28 C hP k_692 dX10_traced_4 ?_
  refine lv_imul hx hb dX10_traced_7 ?_
  refine lv_iload_n hx hb dX10_traced_8 rfl (lv_at hl 1 rfl) ?_
  refine lv_iadd hx hb dX10_traced_9 ?_
  refine pX10_28 C hP hS k_692 dX10_traced_10 (fun H locs hP hS => ?_)
  exact q_vret C hr hlk hP hS (Option.some.inj hf) dX10_traced_13
theorem kd_X10_traced : yX10_traced.cls = RX10 ∧ yX10_traced.cls ≠ "java/lang/invoke/MethodHandle" ∧ yX10_traced.cls ≠ "java/lang/invoke/VarHandle" ∧ (parseMethodDescriptor yX10_traced.desc).map (fun d => d.parameters.length) = some 1 := by decide +kernel
def r_X10_traced : Room := { frames := 0, cells := 0, slots := 0, locals := 0 }
set_option maxRecDepth 100000 in
set_option maxHeartbeats 4000000 in
theorem c_X10_traced {l : Launch} {D : va_G} {ad : Nat → Nat} {cs : Nat → ClassId} (hD : ∀ σ, va_D (AM ad) (WM ad cs σ)) {σ : Sg} {x1 : Int32} {res : Sg} (hf : f_X10_traced σ x1 = some res) : Met l yX10_traced (wm yX10_traced cX10_traced 2 none) r_X10_traced (va_Pc [.ref (ad 0), .int x1] (BW D (TYM cs) (WM ad cs) σ)) (QV D (TYM cs) (WM ad cs) (AM ad) res) 0 0 (AM ad) := by
  refine q_enter (by decide) hD (Nat.le_of_ble_eq_true rfl) ?_
  intro p e s m below meth c C hr hlk hP hS ls hl
  exact w_X10_traced C hr hlk ⟨Nat.le_of_ble_eq_true rfl, Nat.le_of_ble_eq_true rfl⟩ hf hP hS hl

set_option maxRecDepth 100000 in
set_option maxHeartbeats 4000000 in
theorem w_X10_tell_51 (C : CX p m c cX10_tell 4 s args RX10 D (TYM cs) (WM ad cs) (AM ad)) (hr : meth.sig.returnType = (some .int)) (hlk : meth.locks = false) (hR : 2 ≤ R.frames ∧ 46 ≤ R.locals) {σ : Sg} {x1 : Int32} {x2 : Int32} {res : Int32 × Sg} (hf : f_X10_tell_51 σ x1 x2 = some res) {H : Heap} {locs : List Loc} (hP : va_P D vwCl (WM ad cs σ) H) (hS : va_S (AM ad) s.heap H locs) {ls : Array Slot} (hl : lv_has ls 4 [(0, .ref (ad 0)), (1, .int x1), (2, .int x2)]) : W p l e R s m args below meth c H locs 0 0 (MQ below (QI D (TYM cs) (WM ad cs) (AM ad) res.1 res.2) args s 0 0 (AM ad)) (F0 m 51 ls []) := by
  have hx := C.1.1
  have hb := C.1.2.1
  unfold f_X10_tell_51 at hf
  refine lv_aload_n hx hb dX10_tell_51 rfl (lv_at hl 0 rfl) ?_
  refine gX10_4 C hP k_668 dX10_tell_52 ?_
  refine lv_iload_n hx hb dX10_tell_55 rfl (lv_at hl 1 rfl) ?_
  obtain ⟨h1, hf⟩ := zc hf
  refine aldM C hP (n := 8) rfl h1 dX10_tell_56 ?_
  refine lv_istore_n (lv' := [(3, .int (σ 3 x1.toNatClampNeg)), (0, .ref (ad 0)), (1, .int x1), (2, .int x2)]) hx hb dX10_tell_57 rfl hl (by decide) rfl (fun ls hl => ?_)
  refine lv_iload_n hx hb dX10_tell_58 rfl (lv_at hl 3 rfl) ?_
  refine lv_if_ne (tgt := 66) hx hb dX10_tell_59 (by decide) (fun c2 => ?_) (fun c2 => ?_)
  · replace hf := zf c2 hf
    refine lv_iload_n hx hb dX10_tell_66 rfl (lv_at hl 3 rfl) ?_
    refine lv_iconst (v := 1) hx hb dX10_tell_67 (by decide) ?_
    refine lv_icmp_ne (tgt := 78) hx hb dX10_tell_68 (by decide) (fun c3 => ?_) (fun c3 => ?_)
    · replace hf := zf c3 hf
      refine lv_iconst (v := 2) hx hb dX10_tell_78 (by decide) ?_
      refine lv_iload_n hx hb dX10_tell_79 rfl (lv_at hl 0 rfl) ?_
      refine lv_imul hx hb dX10_tell_80 ?_
      refine lv_bipush (v := 100) hx hb dX10_tell_81 (by decide) ?_
      refine lv_iadd hx hb dX10_tell_83 ?_
      exact q_iret C hr hlk hP hS (Option.some.inj hf) dX10_tell_84
    · replace hf := zt c3 hf
      refine lv_iload_n hx hb dX10_tell_71 rfl (lv_at hl 0 rfl) ?_
      refine lv_bipush (v := 100) hx hb dX10_tell_72 (by decide) ?_
      refine lv_iadd hx hb dX10_tell_74 ?_
      refine lv_goto (tgt := 84) hx hb dX10_tell_75 (by decide) ?_
      exact q_iret C hr hlk hP hS (Option.some.inj hf) dX10_tell_84
  · replace hf := zt c2 hf
    refine lv_iload_n hx hb dX10_tell_62 rfl (lv_at hl 0 rfl) ?_
    refine lv_goto (tgt := 84) hx hb dX10_tell_63 (by decide) ?_
    exact q_iret C hr hlk hP hS (Option.some.inj hf) dX10_tell_84
set_option maxRecDepth 100000 in
set_option maxHeartbeats 4000000 in
theorem w_X10_tell_36 (C : CX p m c cX10_tell 4 s args RX10 D (TYM cs) (WM ad cs) (AM ad)) (hr : meth.sig.returnType = (some .int)) (hlk : meth.locks = false) (hR : 2 ≤ R.frames ∧ 46 ≤ R.locals) {σ : Sg} {x1 : Int32} {x2 : Int32} {res : Int32 × Sg} (hf : f_X10_tell_36 σ x1 x2 = some res) {H : Heap} {locs : List Loc} (hP : va_P D vwCl (WM ad cs σ) H) (hS : va_S (AM ad) s.heap H locs) {ls : Array Slot} (hl : lv_has ls 4 [(0, .ref (ad 0)), (1, .int x1), (2, .int x2)]) : W p l e R s m args below meth c H locs 0 0 (MQ below (QI D (TYM cs) (WM ad cs) (AM ad) res.1 res.2) args s 0 0 (AM ad)) (F0 m 36 ls []) := by
  have hx := C.1.1
  have hb := C.1.2.1
  unfold f_X10_tell_36 at hf
  refine lv_aload_n hx hb dX10_tell_36 rfl (lv_at hl 0 rfl) ?_
  refine lv_iconst (v := 1) hx hb dX10_tell_37 (by decide) ?_
  obtain ⟨σ2, hg1, hf⟩ := zb hf
  try dsimp only at hf
  refine q_callv C hS (q_runV C hP (c_X10_traced (l := l) C.2.2.1 hg1) (ci := 9) (As := [.int 1]) (rest := []) ⟨gd_V k_992 k_994 k_42 k_53 k_995, ⟨rfl, rfl⟩, kd_X10_traced, ⟨Nat.le_trans (Nat.le_of_ble_eq_true rfl) hR.1, Nat.le_trans (Nat.le_of_ble_eq_true rfl) hR.2⟩⟩ (o := 0) rfl rfl rfl rfl rfl (Nat.le_of_ble_eq_true rfl) hl.1 dX10_tell_38) (fun H locs hP hS => ?_)
  refine lv_iload_n hx hb dX10_tell_41 rfl (lv_at hl 2 rfl) ?_
  refine lv_iconst (v := 2) hx hb dX10_tell_42 (by decide) ?_
  refine lv_icmp_ne (tgt := 51) hx hb dX10_tell_43 (by decide) (fun c3 => ?_) (fun c3 => ?_)
  · replace hf := zf c3 hf
    exact w_X10_tell_51 C hr hlk hR hf hP hS (lv_sub hl [0, 1, 2] rfl)
  · replace hf := zt c3 hf
    refine lv_aload_n hx hb dX10_tell_46 rfl (lv_at hl 0 rfl) ?_
    refine lv_iconst (v := 1) hx hb dX10_tell_47 (by decide) ?_
    obtain ⟨σ5, hg4, hf⟩ := zb hf
    try dsimp only at hf
    refine q_callv C hS (q_runV C hP (c_X10_traced (l := l) C.2.2.1 hg4) (ci := 9) (As := [.int 1]) (rest := []) ⟨gd_V k_992 k_994 k_42 k_53 k_995, ⟨rfl, rfl⟩, kd_X10_traced, ⟨Nat.le_trans (Nat.le_of_ble_eq_true rfl) hR.1, Nat.le_trans (Nat.le_of_ble_eq_true rfl) hR.2⟩⟩ (o := 0) rfl rfl rfl rfl rfl (Nat.le_of_ble_eq_true rfl) hl.1 dX10_tell_48) (fun H locs hP hS => ?_)
    exact w_X10_tell_51 C hr hlk hR hf hP hS (lv_sub hl [0, 1, 2] rfl)
set_option maxRecDepth 100000 in
set_option maxHeartbeats 4000000 in
theorem w_X10_tell_27 (C : CX p m c cX10_tell 4 s args RX10 D (TYM cs) (WM ad cs) (AM ad)) (hr : meth.sig.returnType = (some .int)) (hlk : meth.locks = false) (hR : 2 ≤ R.frames ∧ 46 ≤ R.locals) {σ : Sg} {x1 : Int32} {x2 : Int32} {res : Int32 × Sg} (hf : f_X10_tell_27 σ x1 x2 = some res) {H : Heap} {locs : List Loc} (hP : va_P D vwCl (WM ad cs σ) H) (hS : va_S (AM ad) s.heap H locs) {ls : Array Slot} (hl : lv_has ls 4 [(0, .ref (ad 0)), (1, .int x1), (2, .int x2)]) : W p l e R s m args below meth c H locs 0 0 (MQ below (QI D (TYM cs) (WM ad cs) (AM ad) res.1 res.2) args s 0 0 (AM ad)) (F0 m 27 ls []) := by
  have hx := C.1.1
  have hb := C.1.2.1
  unfold f_X10_tell_27 at hf
  refine lv_iload_n hx hb dX10_tell_27 rfl (lv_at hl 2 rfl) ?_
  refine lv_if_le (tgt := 36) hx hb dX10_tell_28 (by decide) (fun c1 => ?_) (fun c1 => ?_)
  · replace hf := zt c1 hf
    exact w_X10_tell_36 C hr hlk hR hf hP hS (lv_sub hl [0, 1, 2] rfl)
  · replace hf := zf c1 hf
    refine lv_aload_n hx hb dX10_tell_31 rfl (lv_at hl 0 rfl) ?_
    refine lv_iconst (v := 2) hx hb dX10_tell_32 (by decide) ?_
    obtain ⟨σ3, hg2, hf⟩ := zb hf
    try dsimp only at hf
    refine q_callv C hS (q_runV C hP (c_X10_traced (l := l) C.2.2.1 hg2) (ci := 9) (As := [.int 2]) (rest := []) ⟨gd_V k_992 k_994 k_42 k_53 k_995, ⟨rfl, rfl⟩, kd_X10_traced, ⟨Nat.le_trans (Nat.le_of_ble_eq_true rfl) hR.1, Nat.le_trans (Nat.le_of_ble_eq_true rfl) hR.2⟩⟩ (o := 0) rfl rfl rfl rfl rfl (Nat.le_of_ble_eq_true rfl) hl.1 dX10_tell_33) (fun H locs hP hS => ?_)
    exact w_X10_tell_36 C hr hlk hR hf hP hS (lv_sub hl [0, 1, 2] rfl)
set_option maxRecDepth 100000 in
set_option maxHeartbeats 4000000 in
theorem w_X10_tell (C : CX p m c cX10_tell 4 s args RX10 D (TYM cs) (WM ad cs) (AM ad)) (hr : meth.sig.returnType = (some .int)) (hlk : meth.locks = false) (hR : 2 ≤ R.frames ∧ 46 ≤ R.locals) {σ : Sg} {x1 : Int32} {res : Int32 × Sg} (hf : f_X10_tell σ x1 = some res) {H : Heap} {locs : List Loc} (hP : va_P D vwCl (WM ad cs σ) H) (hS : va_S (AM ad) s.heap H locs) {ls : Array Slot} (hl : lv_has ls 4 [(0, .ref (ad 0)), (1, .int x1)]) : W p l e R s m args below meth c H locs 0 0 (MQ below (QI D (TYM cs) (WM ad cs) (AM ad) res.1 res.2) args s 0 0 (AM ad)) (F0 m 0 ls []) := by
  have hx := C.1.1
  have hb := C.1.2.1
  unfold f_X10_tell at hf
  refine lv_aload_n hx hb dX10_tell_0 rfl (lv_at hl 0 rfl) ?_
  refine lv_iload_n hx hb dX10_tell_1 rfl (lv_at hl 1 rfl) ?_
  obtain ⟨r2, hg1, hf⟩ := zb hf
  try dsimp only at hf
  refine q_calli C hS (q_runV C hP (c_X10_noThing (l := l) C.2.2.1 hg1) (ci := 9) (As := [.int x1]) (rest := []) ⟨gd_V k_799 k_801 k_23 k_53 k_802, ⟨rfl, rfl⟩, kd_X10_noThing, ⟨Nat.le_trans (Nat.le_of_ble_eq_true rfl) hR.1, Nat.le_trans (Nat.le_of_ble_eq_true rfl) hR.2⟩⟩ (o := 0) rfl rfl rfl rfl rfl (Nat.le_of_ble_eq_true rfl) hl.1 dX10_tell_2) (fun H locs hP hS => ?_)
  refine lv_if_eq (tgt := 10) hx hb dX10_tell_5 (by decide) (fun c3 => ?_) (fun c3 => ?_)
  · replace hf := zt c3 hf
    refine lv_aload_n hx hb dX10_tell_10 rfl (lv_at hl 0 rfl) ?_
    refine gX10_2 C hP k_666 dX10_tell_11 ?_
    refine lv_iload_n hx hb dX10_tell_14 rfl (lv_at hl 1 rfl) ?_
    obtain ⟨h4, hf⟩ := zc hf
    refine aldM C hP (n := 8) rfl h4 dX10_tell_15 ?_
    refine lv_istore_n (lv' := [(2, .int (σ 1 x1.toNatClampNeg)), (0, .ref (ad 0)), (1, .int x1)]) hx hb dX10_tell_16 rfl hl (by decide) rfl (fun ls hl => ?_)
    refine lv_iload_n hx hb dX10_tell_17 rfl (lv_at hl 0 rfl) ?_
    refine lv_iconst (v := 2) hx hb dX10_tell_18 (by decide) ?_
    refine lv_icmp_ne (tgt := 27) hx hb dX10_tell_19 (by decide) (fun c5 => ?_) (fun c5 => ?_)
    · replace hf := zf c5 hf
      exact w_X10_tell_27 C hr hlk hR hf hP hS (lv_sub hl [1, 2, 0] rfl)
    · replace hf := zt c5 hf
      refine lv_aload_n hx hb dX10_tell_22 rfl (lv_at hl 1 rfl) ?_
      refine lv_iconst (v := 3) hx hb dX10_tell_23 (by decide) ?_
      obtain ⟨σ7, hg6, hf⟩ := zb hf
      try dsimp only at hf
      refine q_callv C hS (q_runV C hP (c_X10_traced (l := l) C.2.2.1 hg6) (ci := 9) (As := [.int 3]) (rest := []) ⟨gd_V k_992 k_994 k_42 k_53 k_995, ⟨rfl, rfl⟩, kd_X10_traced, ⟨Nat.le_trans (Nat.le_of_ble_eq_true rfl) hR.1, Nat.le_trans (Nat.le_of_ble_eq_true rfl) hR.2⟩⟩ (o := 0) rfl rfl rfl rfl rfl (Nat.le_of_ble_eq_true rfl) hl.1 dX10_tell_24) (fun H locs hP hS => ?_)
      exact w_X10_tell_27 C hr hlk hR hf hP hS (lv_sub hl [1, 2, 0] rfl)
  · replace hf := zf c3 hf
    refine lv_iconst (v := (-1)) hx hb dX10_tell_8 (by decide) ?_
    exact q_iret C hr hlk hP hS (Option.some.inj hf) dX10_tell_9
theorem kd_X10_tell : yX10_tell.cls = RX10 ∧ yX10_tell.cls ≠ "java/lang/invoke/MethodHandle" ∧ yX10_tell.cls ≠ "java/lang/invoke/VarHandle" ∧ (parseMethodDescriptor yX10_tell.desc).map (fun d => d.parameters.length) = some 1 := by decide +kernel
def r_X10_tell : Room := { frames := 2, cells := 0, slots := 0, locals := 46 }
set_option maxRecDepth 100000 in
set_option maxHeartbeats 4000000 in
theorem c_X10_tell {l : Launch} {D : va_G} {ad : Nat → Nat} {cs : Nat → ClassId} (hD : ∀ σ, va_D (AM ad) (WM ad cs σ)) {σ : Sg} {x1 : Int32} {res : Int32 × Sg} (hf : f_X10_tell σ x1 = some res) : Met l yX10_tell (wm yX10_tell cX10_tell 4 (some .int)) r_X10_tell (va_Pc [.ref (ad 0), .int x1] (BW D (TYM cs) (WM ad cs) σ)) (QI D (TYM cs) (WM ad cs) (AM ad) res.1 res.2) 0 0 (AM ad) := by
  refine q_enter (by decide) hD (Nat.le_of_ble_eq_true rfl) ?_
  intro p e s m below meth c C hr hlk hP hS ls hl
  exact w_X10_tell C hr hlk ⟨Nat.le_of_ble_eq_true rfl, Nat.le_of_ble_eq_true rfl⟩ hf hP hS hl

set_option maxRecDepth 100000 in
set_option maxHeartbeats 4000000 in
theorem w_X10_call_26 (C : CX p m c cX10_call 2 s args RX10 D (TYM cs) (WM ad cs) (AM ad)) (hr : meth.sig.returnType = (some .int)) (hlk : meth.locks = false) (hR : 2 ≤ R.frames ∧ 46 ≤ R.locals) {σ : Sg} {x1 : Int32} {s0 : Int32} {res : Int32 × Sg} (hf : f_X10_call_26 σ x1 s0 = some res) {H : Heap} {locs : List Loc} (hP : va_P D vwCl (WM ad cs σ) H) (hS : va_S (AM ad) s.heap H locs) {ls : Array Slot} (hl : lv_has ls 2 [(0, .ref (ad 0)), (1, .int x1)]) : W p l e R s m args below meth c H locs 0 0 (MQ below (QI D (TYM cs) (WM ad cs) (AM ad) res.1 res.2) args s 0 0 (AM ad)) (F0 m 26 ls [.int s0, .ref (ad 0)]) := by
  have hx := C.1.1
  have hb := C.1.2.1
  unfold f_X10_call_26 at hf
  obtain ⟨σ2, hg1, hf⟩ := zb hf
  try dsimp only at hf
  refine q_callv C hS (q_runV C hP (c_X10_traced (l := l) C.2.2.1 hg1) (ci := 9) (As := [.int s0]) (rest := []) ⟨gd_V k_992 k_994 k_42 k_53 k_995, ⟨rfl, rfl⟩, kd_X10_traced, ⟨Nat.le_trans (Nat.le_of_ble_eq_true rfl) hR.1, Nat.le_trans (Nat.le_of_ble_eq_true rfl) hR.2⟩⟩ (o := 0) rfl rfl rfl rfl rfl (Nat.le_of_ble_eq_true rfl) hl.1 dX10_call_26) (fun H locs hP hS => ?_)
  refine lv_aload_n hx hb dX10_call_29 rfl (lv_at hl 0 rfl) ?_
  refine gX10_2 C hP k_666 dX10_call_30 ?_
  refine lv_iload_n hx hb dX10_call_33 rfl (lv_at hl 1 rfl) ?_
  obtain ⟨h3, hf⟩ := zc hf
  refine aldM C hP (n := 8) rfl h3 dX10_call_34 ?_
  refine lv_iconst (v := 2) hx hb dX10_call_35 (by decide) ?_
  refine lv_icmp_ne (tgt := 44) hx hb dX10_call_36 (by decide) (fun c4 => ?_) (fun c4 => ?_)
  · replace hf := zf c4 hf
    refine lv_iload_n hx hb dX10_call_44 rfl (lv_at hl 1 rfl) ?_
    exact q_iret C hr hlk hP hS (Option.some.inj hf) dX10_call_45
  · replace hf := zt c4 hf
    refine lv_bipush (v := 20) hx hb dX10_call_39 (by decide) ?_
    refine lv_goto (tgt := 45) hx hb dX10_call_41 (by decide) ?_
    exact q_iret C hr hlk hP hS (Option.some.inj hf) dX10_call_45
set_option maxRecDepth 100000 in
set_option maxHeartbeats 4000000 in
theorem w_X10_call (C : CX p m c cX10_call 2 s args RX10 D (TYM cs) (WM ad cs) (AM ad)) (hr : meth.sig.returnType = (some .int)) (hlk : meth.locks = false) (hR : 2 ≤ R.frames ∧ 46 ≤ R.locals) {σ : Sg} {x1 : Int32} {res : Int32 × Sg} (hf : f_X10_call σ x1 = some res) {H : Heap} {locs : List Loc} (hP : va_P D vwCl (WM ad cs σ) H) (hS : va_S (AM ad) s.heap H locs) {ls : Array Slot} (hl : lv_has ls 2 [(0, .ref (ad 0)), (1, .int x1)]) : W p l e R s m args below meth c H locs 0 0 (MQ below (QI D (TYM cs) (WM ad cs) (AM ad) res.1 res.2) args s 0 0 (AM ad)) (F0 m 0 ls []) := by
  have hx := C.1.1
  have hb := C.1.2.1
  unfold f_X10_call at hf
  refine lv_aload_n hx hb dX10_call_0 rfl (lv_at hl 0 rfl) ?_
  refine lv_iload_n hx hb dX10_call_1 rfl (lv_at hl 1 rfl) ?_
  obtain ⟨r2, hg1, hf⟩ := zb hf
  try dsimp only at hf
  refine q_calli C hS (q_runV C hP (c_X10_noThing (l := l) C.2.2.1 hg1) (ci := 9) (As := [.int x1]) (rest := []) ⟨gd_V k_799 k_801 k_23 k_53 k_802, ⟨rfl, rfl⟩, kd_X10_noThing, ⟨Nat.le_trans (Nat.le_of_ble_eq_true rfl) hR.1, Nat.le_trans (Nat.le_of_ble_eq_true rfl) hR.2⟩⟩ (o := 0) rfl rfl rfl rfl rfl (Nat.le_of_ble_eq_true rfl) hl.1 dX10_call_2) (fun H locs hP hS => ?_)
  refine lv_if_eq (tgt := 10) hx hb dX10_call_5 (by decide) (fun c3 => ?_) (fun c3 => ?_)
  · replace hf := zt c3 hf
    refine lv_aload_n hx hb dX10_call_10 rfl (lv_at hl 0 rfl) ?_
    refine lv_aload_n hx hb dX10_call_11 rfl (lv_at hl 0 rfl) ?_
    refine gX10_2 C hP k_666 dX10_call_12 ?_
    refine lv_iload_n hx hb dX10_call_15 rfl (lv_at hl 1 rfl) ?_
    obtain ⟨h4, hf⟩ := zc hf
    refine aldM C hP (n := 8) rfl h4 dX10_call_16 ?_
    refine lv_iconst (v := 2) hx hb dX10_call_17 (by decide) ?_
    refine lv_icmp_ne (tgt := 25) hx hb dX10_call_18 (by decide) (fun c5 => ?_) (fun c5 => ?_)
    · replace hf := zf c5 hf
      refine lv_iconst (v := 4) hx hb dX10_call_25 (by decide) ?_
      exact w_X10_call_26 C hr hlk hR hf hP hS (lv_sub hl [0, 1] rfl)
    · replace hf := zt c5 hf
      refine lv_iconst (v := 5) hx hb dX10_call_21 (by decide) ?_
      refine lv_goto (tgt := 26) hx hb dX10_call_22 (by decide) ?_
      exact w_X10_call_26 C hr hlk hR hf hP hS (lv_sub hl [0, 1] rfl)
  · replace hf := zf c3 hf
    refine lv_iconst (v := (-1)) hx hb dX10_call_8 (by decide) ?_
    exact q_iret C hr hlk hP hS (Option.some.inj hf) dX10_call_9
theorem kd_X10_call : yX10_call.cls = RX10 ∧ yX10_call.cls ≠ "java/lang/invoke/MethodHandle" ∧ yX10_call.cls ≠ "java/lang/invoke/VarHandle" ∧ (parseMethodDescriptor yX10_call.desc).map (fun d => d.parameters.length) = some 1 := by decide +kernel
def r_X10_call : Room := { frames := 2, cells := 0, slots := 0, locals := 46 }
set_option maxRecDepth 100000 in
set_option maxHeartbeats 4000000 in
theorem c_X10_call {l : Launch} {D : va_G} {ad : Nat → Nat} {cs : Nat → ClassId} (hD : ∀ σ, va_D (AM ad) (WM ad cs σ)) {σ : Sg} {x1 : Int32} {res : Int32 × Sg} (hf : f_X10_call σ x1 = some res) : Met l yX10_call (wm yX10_call cX10_call 2 (some .int)) r_X10_call (va_Pc [.ref (ad 0), .int x1] (BW D (TYM cs) (WM ad cs) σ)) (QI D (TYM cs) (WM ad cs) (AM ad) res.1 res.2) 0 0 (AM ad) := by
  refine q_enter (by decide) hD (Nat.le_of_ble_eq_true rfl) ?_
  intro p e s m below meth c C hr hlk hP hS ls hl
  exact w_X10_call C hr hlk ⟨Nat.le_of_ble_eq_true rfl, Nat.le_of_ble_eq_true rfl⟩ hf hP hS hl

set_option maxRecDepth 100000 in
set_option maxHeartbeats 4000000 in
theorem w_X10_as (C : CX p m c cX10_as 3 s args RX10 D (TYM cs) (WM ad cs) (AM ad)) (hr : meth.sig.returnType = (some .int)) (hlk : meth.locks = false) (hR : 2 ≤ R.frames ∧ 46 ≤ R.locals) {σ : Sg} {x1 : Int32} {x2 : Int32} {res : Int32 × Sg} (hf : f_X10_as σ x1 x2 = some res) {H : Heap} {locs : List Loc} (hP : va_P D vwCl (WM ad cs σ) H) (hS : va_S (AM ad) s.heap H locs) {ls : Array Slot} (hl : lv_has ls 3 [(0, .ref (ad 0)), (1, .int x1), (2, .int x2)]) : W p l e R s m args below meth c H locs 0 0 (MQ below (QI D (TYM cs) (WM ad cs) (AM ad) res.1 res.2) args s 0 0 (AM ad)) (F0 m 0 ls []) := by
  have hx := C.1.1
  have hb := C.1.2.1
  unfold f_X10_as at hf
  refine lv_aload_n hx hb dX10_as_0 rfl (lv_at hl 0 rfl) ?_
  refine lv_iload_n hx hb dX10_as_1 rfl (lv_at hl 1 rfl) ?_
  obtain ⟨r2, hg1, hf⟩ := zb hf
  try dsimp only at hf
  refine q_calli C hS (q_runV C hP (c_X10_noThing (l := l) C.2.2.1 hg1) (ci := 9) (As := [.int x1]) (rest := []) ⟨gd_V k_799 k_801 k_23 k_53 k_802, ⟨rfl, rfl⟩, kd_X10_noThing, ⟨Nat.le_trans (Nat.le_of_ble_eq_true rfl) hR.1, Nat.le_trans (Nat.le_of_ble_eq_true rfl) hR.2⟩⟩ (o := 0) rfl rfl rfl rfl rfl (Nat.le_of_ble_eq_true rfl) hl.1 dX10_as_2) (fun H locs hP hS => ?_)
  refine lv_if_eq (tgt := 14) hx hb dX10_as_5 (by decide) (fun c3 => ?_) (fun c3 => ?_)
  · replace hf := zt c3 hf
    refine lv_iload_n hx hb dX10_as_14 rfl (lv_at hl 2 rfl) ?_
    refine lv_i2l hx hb dX10_as_15 rfl ?_
    refine lv_lconst (v := 0) hx hb dX10_as_16 (by decide) ?_
    refine lv_ldc2 (v := 2) hx hb C.1.2.2.2.1 (C.1.2.2.2.2 _ k_767) dX10_as_17 ?_
    obtain ⟨r5, hg4, hf⟩ := zb hf
    try dsimp only at hf
    refine q_calli C hS (q_runS C hP (c_X10_in (l := l) C.2.2.1 hg4) (As := [.long x2.toInt64, .long 0, .long 2]) (rest := []) ⟨gd_S k_760 k_761 k_53 k_762, ⟨rfl, rfl⟩, kd_X10_in, ⟨Nat.le_trans (Nat.le_of_ble_eq_true rfl) hR.1, Nat.le_trans (Nat.le_of_ble_eq_true rfl) hR.2⟩⟩ rfl rfl (Nat.le_of_ble_eq_true rfl) hl.1 dX10_as_20) (fun H locs hP hS => ?_)
    refine lv_if_ne (tgt := 33) hx hb dX10_as_23 (by decide) (fun c6 => ?_) (fun c6 => ?_)
    · replace hf := zf c6 hf
      refine lv_aload_n hx hb dX10_as_33 rfl (lv_at hl 0 rfl) ?_
      refine gX10_2 C hP k_666 dX10_as_34 ?_
      refine lv_iload_n hx hb dX10_as_37 rfl (lv_at hl 1 rfl) ?_
      obtain ⟨h7, hf⟩ := zc hf
      refine aldM C hP (n := 8) rfl h7 dX10_as_38 ?_
      refine lv_iload_n hx hb dX10_as_39 rfl (lv_at hl 2 rfl) ?_
      refine lv_icmp_lt (tgt := 51) hx hb dX10_as_40 (by decide) (fun c8 => ?_) (fun c8 => ?_)
      · replace hf := zt c8 hf
        refine lv_aload_n hx hb dX10_as_51 rfl (lv_at hl 0 rfl) ?_
        refine lv_iconst (v := 2) hx hb dX10_as_52 (by decide) ?_
        obtain ⟨⟨r10, σ11⟩, hg9, hf⟩ := zb hf
        try dsimp only at hf
        refine q_calli C hS (q_runV C hP (c_X10_faulted (l := l) C.2.2.1 hg9) (ci := 9) (As := [.int 2]) (rest := []) ⟨gd_V k_772 k_774 k_18 k_53 k_775, ⟨rfl, rfl⟩, kd_X10_faulted, ⟨Nat.le_trans (Nat.le_of_ble_eq_true rfl) hR.1, Nat.le_trans (Nat.le_of_ble_eq_true rfl) hR.2⟩⟩ (o := 0) rfl rfl rfl rfl rfl (Nat.le_of_ble_eq_true rfl) hl.1 dX10_as_53) (fun H locs hP hS => ?_)
        exact q_iret C hr hlk hP hS (Option.some.inj hf) dX10_as_56
      · replace hf := zf c8 hf
        refine lv_aload_n hx hb dX10_as_43 rfl (lv_at hl 0 rfl) ?_
        refine lv_iconst (v := 1) hx hb dX10_as_44 (by decide) ?_
        obtain ⟨⟨r13, σ14⟩, hg12, hf⟩ := zb hf
        try dsimp only at hf
        refine q_calli C hS (q_runV C hP (c_X10_refused (l := l) C.2.2.1 hg12) (ci := 9) (As := [.int 1]) (rest := []) ⟨gd_V k_763 k_765 k_16 k_53 k_766, ⟨rfl, rfl⟩, kd_X10_refused, ⟨Nat.le_trans (Nat.le_of_ble_eq_true rfl) hR.1, Nat.le_trans (Nat.le_of_ble_eq_true rfl) hR.2⟩⟩ (o := 0) rfl rfl rfl rfl rfl (Nat.le_of_ble_eq_true rfl) hl.1 dX10_as_45) (fun H locs hP hS => ?_)
        refine lv_goto (tgt := 56) hx hb dX10_as_48 (by decide) ?_
        exact q_iret C hr hlk hP hS (Option.some.inj hf) dX10_as_56
    · replace hf := zt c6 hf
      refine lv_aload_n hx hb dX10_as_26 rfl (lv_at hl 0 rfl) ?_
      refine lv_bipush (v := (-2)) hx hb dX10_as_27 (by decide) ?_
      obtain ⟨⟨r16, σ17⟩, hg15, hf⟩ := zb hf
      try dsimp only at hf
      refine q_calli C hS (q_runV C hP (c_X10_refused (l := l) C.2.2.1 hg15) (ci := 9) (As := [.int (-2)]) (rest := []) ⟨gd_V k_763 k_765 k_16 k_53 k_766, ⟨rfl, rfl⟩, kd_X10_refused, ⟨Nat.le_trans (Nat.le_of_ble_eq_true rfl) hR.1, Nat.le_trans (Nat.le_of_ble_eq_true rfl) hR.2⟩⟩ (o := 0) rfl rfl rfl rfl rfl (Nat.le_of_ble_eq_true rfl) hl.1 dX10_as_29) (fun H locs hP hS => ?_)
      exact q_iret C hr hlk hP hS (Option.some.inj hf) dX10_as_32
  · replace hf := zf c3 hf
    refine lv_aload_n hx hb dX10_as_8 rfl (lv_at hl 0 rfl) ?_
    refine lv_iconst (v := (-1)) hx hb dX10_as_9 (by decide) ?_
    obtain ⟨⟨r19, σ20⟩, hg18, hf⟩ := zb hf
    try dsimp only at hf
    refine q_calli C hS (q_runV C hP (c_X10_refused (l := l) C.2.2.1 hg18) (ci := 9) (As := [.int (-1)]) (rest := []) ⟨gd_V k_763 k_765 k_16 k_53 k_766, ⟨rfl, rfl⟩, kd_X10_refused, ⟨Nat.le_trans (Nat.le_of_ble_eq_true rfl) hR.1, Nat.le_trans (Nat.le_of_ble_eq_true rfl) hR.2⟩⟩ (o := 0) rfl rfl rfl rfl rfl (Nat.le_of_ble_eq_true rfl) hl.1 dX10_as_10) (fun H locs hP hS => ?_)
    exact q_iret C hr hlk hP hS (Option.some.inj hf) dX10_as_13
theorem kd_X10_as : yX10_as.cls = RX10 ∧ yX10_as.cls ≠ "java/lang/invoke/MethodHandle" ∧ yX10_as.cls ≠ "java/lang/invoke/VarHandle" ∧ (parseMethodDescriptor yX10_as.desc).map (fun d => d.parameters.length) = some 2 := by decide +kernel
def r_X10_as : Room := { frames := 2, cells := 0, slots := 0, locals := 46 }
set_option maxRecDepth 100000 in
set_option maxHeartbeats 4000000 in
theorem c_X10_as {l : Launch} {D : va_G} {ad : Nat → Nat} {cs : Nat → ClassId} (hD : ∀ σ, va_D (AM ad) (WM ad cs σ)) {σ : Sg} {x1 : Int32} {x2 : Int32} {res : Int32 × Sg} (hf : f_X10_as σ x1 x2 = some res) : Met l yX10_as (wm yX10_as cX10_as 3 (some .int)) r_X10_as (va_Pc [.ref (ad 0), .int x1, .int x2] (BW D (TYM cs) (WM ad cs) σ)) (QI D (TYM cs) (WM ad cs) (AM ad) res.1 res.2) 0 0 (AM ad) := by
  refine q_enter (by decide) hD (Nat.le_of_ble_eq_true rfl) ?_
  intro p e s m below meth c C hr hlk hP hS ls hl
  exact w_X10_as C hr hlk ⟨Nat.le_of_ble_eq_true rfl, Nat.le_of_ble_eq_true rfl⟩ hf hP hS hl

set_option maxRecDepth 100000 in
set_option maxHeartbeats 4000000 in
theorem w_X10_trace (C : CX p m c cX10_trace 1 s args RX10 D (TYM cs) (WM ad cs) (AM ad)) (hr : meth.sig.returnType = (some .int)) (hlk : meth.locks = false) (hR : 0 ≤ R.frames ∧ 0 ≤ R.locals) {σ : Sg}  {res : Int32} (hf : f_X10_trace σ = some res) {H : Heap} {locs : List Loc} (hP : va_P D vwCl (WM ad cs σ) H) (hS : va_S (AM ad) s.heap H locs) {ls : Array Slot} (hl : lv_has ls 1 [(0, .ref (ad 0))]) : W p l e R s m args below meth c H locs 0 0 (MQ below (QI D (TYM cs) (WM ad cs) (AM ad) res σ) args s 0 0 (AM ad)) (F0 m 0 ls []) := by
  have hx := C.1.1
  have hb := C.1.2.1
  unfold f_X10_trace at hf
  refine lv_aload_n hx hb dX10_trace_0 rfl (lv_at hl 0 rfl) ?_
  refine gX10_28 C hP k_692 dX10_trace_1 ?_
  exact q_iret C hr hlk hP hS (congrArg (fun q => (q, σ)) (Option.some.inj hf)) dX10_trace_4
theorem kd_X10_trace : yX10_trace.cls = RX10 ∧ yX10_trace.cls ≠ "java/lang/invoke/MethodHandle" ∧ yX10_trace.cls ≠ "java/lang/invoke/VarHandle" ∧ (parseMethodDescriptor yX10_trace.desc).map (fun d => d.parameters.length) = some 0 := by decide +kernel
def r_X10_trace : Room := { frames := 0, cells := 0, slots := 0, locals := 0 }
set_option maxRecDepth 100000 in
set_option maxHeartbeats 4000000 in
theorem c_X10_trace {l : Launch} {D : va_G} {ad : Nat → Nat} {cs : Nat → ClassId} (hD : ∀ σ, va_D (AM ad) (WM ad cs σ)) {σ : Sg}  {res : Int32} (hf : f_X10_trace σ = some res) : Met l yX10_trace (wm yX10_trace cX10_trace 1 (some .int)) r_X10_trace (va_Pc [.ref (ad 0)] (BW D (TYM cs) (WM ad cs) σ)) (QI D (TYM cs) (WM ad cs) (AM ad) res σ) 0 0 (AM ad) := by
  refine q_enter (by decide) hD (Nat.le_of_ble_eq_true rfl) ?_
  intro p e s m below meth c C hr hlk hP hS ls hl
  exact w_X10_trace C hr hlk ⟨Nat.le_of_ble_eq_true rfl, Nat.le_of_ble_eq_true rfl⟩ hf hP hS hl

set_option maxRecDepth 100000 in
set_option maxHeartbeats 4000000 in
theorem w_X10_fault (C : CX p m c cX10_fault 1 s args RX10 D (TYM cs) (WM ad cs) (AM ad)) (hr : meth.sig.returnType = (some .int)) (hlk : meth.locks = false) (hR : 0 ≤ R.frames ∧ 0 ≤ R.locals) {σ : Sg}  {res : Int32} (hf : f_X10_fault σ = some res) {H : Heap} {locs : List Loc} (hP : va_P D vwCl (WM ad cs σ) H) (hS : va_S (AM ad) s.heap H locs) {ls : Array Slot} (hl : lv_has ls 1 [(0, .ref (ad 0))]) : W p l e R s m args below meth c H locs 0 0 (MQ below (QI D (TYM cs) (WM ad cs) (AM ad) res σ) args s 0 0 (AM ad)) (F0 m 0 ls []) := by
  have hx := C.1.1
  have hb := C.1.2.1
  unfold f_X10_fault at hf
  refine lv_aload_n hx hb dX10_fault_0 rfl (lv_at hl 0 rfl) ?_
  refine gX10_0 C hP k_664 dX10_fault_1 ?_
  exact q_iret C hr hlk hP hS (congrArg (fun q => (q, σ)) (Option.some.inj hf)) dX10_fault_4
theorem kd_X10_fault : yX10_fault.cls = RX10 ∧ yX10_fault.cls ≠ "java/lang/invoke/MethodHandle" ∧ yX10_fault.cls ≠ "java/lang/invoke/VarHandle" ∧ (parseMethodDescriptor yX10_fault.desc).map (fun d => d.parameters.length) = some 0 := by decide +kernel
def r_X10_fault : Room := { frames := 0, cells := 0, slots := 0, locals := 0 }
set_option maxRecDepth 100000 in
set_option maxHeartbeats 4000000 in
theorem c_X10_fault {l : Launch} {D : va_G} {ad : Nat → Nat} {cs : Nat → ClassId} (hD : ∀ σ, va_D (AM ad) (WM ad cs σ)) {σ : Sg}  {res : Int32} (hf : f_X10_fault σ = some res) : Met l yX10_fault (wm yX10_fault cX10_fault 1 (some .int)) r_X10_fault (va_Pc [.ref (ad 0)] (BW D (TYM cs) (WM ad cs) σ)) (QI D (TYM cs) (WM ad cs) (AM ad) res σ) 0 0 (AM ad) := by
  refine q_enter (by decide) hD (Nat.le_of_ble_eq_true rfl) ?_
  intro p e s m below meth c C hr hlk hP hS ls hl
  exact w_X10_fault C hr hlk ⟨Nat.le_of_ble_eq_true rfl, Nat.le_of_ble_eq_true rfl⟩ hf hP hS hl

set_option maxRecDepth 100000 in
set_option maxHeartbeats 4000000 in
theorem w_X10_many (C : CX p m c cX10_many 2 s args RX10 D (TYM cs) (WM ad cs) (AM ad)) (hr : meth.sig.returnType = (some .int)) (hlk : meth.locks = false) (hR : 0 ≤ R.frames ∧ 0 ≤ R.locals) {σ : Sg} {x1 : Int32} {res : Int32} (hf : f_X10_many σ x1 = some res) {H : Heap} {locs : List Loc} (hP : va_P D vwCl (WM ad cs σ) H) (hS : va_S (AM ad) s.heap H locs) {ls : Array Slot} (hl : lv_has ls 2 [(0, .ref (ad 0)), (1, .int x1)]) : W p l e R s m args below meth c H locs 0 0 (MQ below (QI D (TYM cs) (WM ad cs) (AM ad) res σ) args s 0 0 (AM ad)) (F0 m 0 ls []) := by
  have hx := C.1.1
  have hb := C.1.2.1
  unfold f_X10_many at hf
  refine lv_iload_n hx hb dX10_many_0 rfl (lv_at hl 1 rfl) ?_
  by_cases c1 : x1 = 0
  · replace hf := zt c1 hf
    refine lv_tableIn (off := 31) (tgt := 32) hx hb dX10_many_1 (by rw [c1]; decide) (by rw [c1]; decide) (by rw [c1]; rfl) (by decide) ?_
    refine lv_aload_n hx hb dX10_many_32 rfl (lv_at hl 0 rfl) ?_
    refine gX10_1 C hP k_665 dX10_many_33 ?_
    exact q_iret C hr hlk hP hS (congrArg (fun q => (q, σ)) (Option.some.inj hf)) dX10_many_36
  · replace hf := zf c1 hf
    by_cases c2 : x1 = 1
    · replace hf := zt c2 hf
      refine lv_tableIn (off := 36) (tgt := 37) hx hb dX10_many_1 (by rw [c2]; decide) (by rw [c2]; decide) (by rw [c2]; rfl) (by decide) ?_
      refine lv_aload_n hx hb dX10_many_37 rfl (lv_at hl 0 rfl) ?_
      refine gX10_13 C hP k_677 dX10_many_38 ?_
      exact q_iret C hr hlk hP hS (congrArg (fun q => (q, σ)) (Option.some.inj hf)) dX10_many_41
    · replace hf := zf c2 hf
      by_cases c3 : x1 = 2
      · replace hf := zt c3 hf
        refine lv_tableIn (off := 41) (tgt := 42) hx hb dX10_many_1 (by rw [c3]; decide) (by rw [c3]; decide) (by rw [c3]; rfl) (by decide) ?_
        refine lv_aload_n hx hb dX10_many_42 rfl (lv_at hl 0 rfl) ?_
        refine gX10_21 C hP k_685 dX10_many_43 ?_
        exact q_iret C hr hlk hP hS (congrArg (fun q => (q, σ)) (Option.some.inj hf)) dX10_many_46
      · replace hf := zf c3 hf
        by_cases c4 : x1 = 3
        · replace hf := zt c4 hf
          refine lv_tableIn (off := 46) (tgt := 47) hx hb dX10_many_1 (by rw [c4]; decide) (by rw [c4]; decide) (by rw [c4]; rfl) (by decide) ?_
          refine lv_aload_n hx hb dX10_many_47 rfl (lv_at hl 0 rfl) ?_
          refine gX10_6 C hP k_670 dX10_many_48 ?_
          exact q_iret C hr hlk hP hS (congrArg (fun q => (q, σ)) (Option.some.inj hf)) dX10_many_51
        · replace hf := zf c4 hf
          have qc1 := lv_neT c1 (a := 0) rfl
          have qc2 := lv_neT c2 (a := 1) rfl
          have qc3 := lv_neT c3 (a := 2) rfl
          have qc4 := lv_neT c4 (a := 3) rfl
          refine lv_tableOut (tgt := 52) hx hb dX10_many_1 (by omega) (by decide) ?_
          refine lv_bipush (v := (-2)) hx hb dX10_many_52 (by decide) ?_
          exact q_iret C hr hlk hP hS (congrArg (fun q => (q, σ)) (Option.some.inj hf)) dX10_many_54
theorem kd_X10_many : yX10_many.cls = RX10 ∧ yX10_many.cls ≠ "java/lang/invoke/MethodHandle" ∧ yX10_many.cls ≠ "java/lang/invoke/VarHandle" ∧ (parseMethodDescriptor yX10_many.desc).map (fun d => d.parameters.length) = some 1 := by decide +kernel
def r_X10_many : Room := { frames := 0, cells := 0, slots := 0, locals := 0 }
set_option maxRecDepth 100000 in
set_option maxHeartbeats 4000000 in
theorem c_X10_many {l : Launch} {D : va_G} {ad : Nat → Nat} {cs : Nat → ClassId} (hD : ∀ σ, va_D (AM ad) (WM ad cs σ)) {σ : Sg} {x1 : Int32} {res : Int32} (hf : f_X10_many σ x1 = some res) : Met l yX10_many (wm yX10_many cX10_many 2 (some .int)) r_X10_many (va_Pc [.ref (ad 0), .int x1] (BW D (TYM cs) (WM ad cs) σ)) (QI D (TYM cs) (WM ad cs) (AM ad) res σ) 0 0 (AM ad) := by
  refine q_enter (by decide) hD (Nat.le_of_ble_eq_true rfl) ?_
  intro p e s m below meth c C hr hlk hP hS ls hl
  exact w_X10_many C hr hlk ⟨Nat.le_of_ble_eq_true rfl, Nat.le_of_ble_eq_true rfl⟩ hf hP hS hl

end

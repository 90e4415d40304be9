section
variable {p : Program} {l : Launch} {e : Env} {R : Room} {s : State} {m : MethodId} {args : Array Value} {below : List Frame} {meth : Method} {c : Code} {D : va_G} {ad : Nat → Nat} {cs : Nat → ClassId}
set_option maxRecDepth 100000 in
set_option maxHeartbeats 4000000 in
theorem w_X10_town_90 (C : CX p m c cX10_town 7 s args RX10 D (TYM cs) (WM ad cs) (AM ad)) (hr : meth.sig.returnType = (some .int)) (hlk : meth.locks = false) (hR : 4 ≤ R.frames ∧ 102 ≤ R.locals) {σ : Sg} {x6 : Int32} {res : Int32 × Sg} {ag90 : Int32 → Sg → Option (Int32 × Sg)} (hag90 : ∀ (x6 : Int32) (σ : Sg) (H : Heap) (locs : List Loc) (ls : Array Slot), ag90 x6 σ = some res → va_P D vwCl (WM ad cs σ) H → va_S (AM ad) s.heap H locs → lv_has ls 7 [(0, .ref (ad 0)), (6, .int x6)] → W p l e R s m args below meth c H locs 0 0 (MQ below (QI D (TYM cs) (WM ad cs) (AM ad) res.1 res.2) args s 0 0 (AM ad)) (F0 m 90 ls [])) (hf : f_X10_town_90 ag90 σ x6 = some res) {H : Heap} {locs : List Loc} (hP : va_P D vwCl (WM ad cs σ) H) (hS : va_S (AM ad) s.heap H locs) {ls : Array Slot} (hl : lv_has ls 7 [(0, .ref (ad 0)), (6, .int x6)]) : W p l e R s m args below meth c H locs 0 0 (MQ below (QI D (TYM cs) (WM ad cs) (AM ad) res.1 res.2) args s 0 0 (AM ad)) (F0 m 90 ls []) := by
  have hx := C.1.1
  have hb := C.1.2.1
  unfold f_X10_town_90 at hf
  refine lv_iload hx hb dX10_town_90 (lv_at hl 1 rfl) ?_
  refine lv_aload_n hx hb dX10_town_92 rfl (lv_at hl 0 rfl) ?_
  refine gX10_1 C hP k_665 dX10_town_93 ?_
  refine lv_icmp_ge (tgt := 161) hx hb dX10_town_96 (by decide) (fun c1 => ?_) (fun c1 => ?_)
  · replace hf := zt c1 hf
    refine lv_aload_n hx hb dX10_town_161 rfl (lv_at hl 0 rfl) ?_
    refine lv_iconst (v := 0) hx hb dX10_town_162 (by decide) ?_
    refine pX10_6 C hP hS k_670 dX10_town_163 (fun H locs hP hS => ?_)
    refine lv_aload_n hx hb dX10_town_166 rfl (lv_at hl 0 rfl) ?_
    refine lv_iconst (v := 0) hx hb dX10_town_167 (by decide) ?_
    refine pX10_13 C hP hS k_677 dX10_town_168 (fun H locs hP hS => ?_)
    refine lv_aload_n hx hb dX10_town_171 rfl (lv_at hl 0 rfl) ?_
    refine lv_iconst (v := 0) hx hb dX10_town_172 (by decide) ?_
    refine pX10_21 C hP hS k_685 dX10_town_173 (fun H locs hP hS => ?_)
    refine lv_aload_n hx hb dX10_town_176 rfl (lv_at hl 0 rfl) ?_
    refine lv_aload_n hx hb dX10_town_177 rfl (lv_at hl 0 rfl) ?_
    refine gX10_1 C hP k_665 dX10_town_178 ?_
    obtain ⟨⟨r3, σ4⟩, hg2, hf⟩ := zb hf
    try dsimp only at hf
    refine q_calli C hS (q_runV C hP (c_X10_refused (l := l) C.2.2.1 hg2) (ci := 9) (As := [.int ((st (st (st σ 0 6 0) 0 13 0) 0 21 0) 0 1)]) (rest := []) ⟨gd_V k_763 k_765 k_16 k_53 k_766, ⟨rfl, rfl⟩, kd_X10_refused, ⟨Nat.le_trans (Nat.le_of_ble_eq_true rfl) hR.1, Nat.le_trans (Nat.le_of_ble_eq_true rfl) hR.2⟩⟩ (o := 0) rfl rfl rfl rfl rfl (Nat.le_of_ble_eq_true rfl) hl.1 dX10_town_181) (fun H locs hP hS => ?_)
    exact q_iret C hr hlk hP hS (Option.some.inj hf) dX10_town_184
  · replace hf := zf c1 hf
    refine lv_aload_n hx hb dX10_town_99 rfl (lv_at hl 0 rfl) ?_
    refine gX10_2 C hP k_666 dX10_town_100 ?_
    refine lv_iload hx hb dX10_town_103 (lv_at hl 1 rfl) ?_
    refine lv_aload_n hx hb dX10_town_105 rfl (lv_at hl 0 rfl) ?_
    refine gX10_9 C hP k_673 dX10_town_106 ?_
    refine lv_iload hx hb dX10_town_109 (lv_at hl 1 rfl) ?_
    obtain ⟨h5, hf⟩ := zc hf
    refine aldM C hP (n := 8) rfl h5 dX10_town_111 ?_
    refine astM C hP hS (n := 8) rfl h5 dX10_town_112 (fun H locs hP hS => ?_)
    refine lv_aload_n hx hb dX10_town_113 rfl (lv_at hl 0 rfl) ?_
    refine gX10_3 C hP k_667 dX10_town_114 ?_
    refine lv_iload hx hb dX10_town_117 (lv_at hl 1 rfl) ?_
    refine lv_aload_n hx hb dX10_town_119 rfl (lv_at hl 0 rfl) ?_
    refine gX10_10 C hP k_674 dX10_town_120 ?_
    refine lv_iload hx hb dX10_town_123 (lv_at hl 1 rfl) ?_
    refine aldM C hP (n := 8) rfl h5 dX10_town_125 ?_
    refine astM C hP hS (n := 8) rfl h5 dX10_town_126 (fun H locs hP hS => ?_)
    refine lv_aload_n hx hb dX10_town_127 rfl (lv_at hl 0 rfl) ?_
    refine gX10_4 C hP k_668 dX10_town_128 ?_
    refine lv_iload hx hb dX10_town_131 (lv_at hl 1 rfl) ?_
    refine lv_aload_n hx hb dX10_town_133 rfl (lv_at hl 0 rfl) ?_
    refine gX10_11 C hP k_675 dX10_town_134 ?_
    refine lv_iload hx hb dX10_town_137 (lv_at hl 1 rfl) ?_
    refine aldM C hP (n := 8) rfl h5 dX10_town_139 ?_
    refine astM C hP hS (n := 8) rfl h5 dX10_town_140 (fun H locs hP hS => ?_)
    refine lv_aload_n hx hb dX10_town_141 rfl (lv_at hl 0 rfl) ?_
    refine gX10_5 C hP k_669 dX10_town_142 ?_
    refine lv_iload hx hb dX10_town_145 (lv_at hl 1 rfl) ?_
    refine lv_aload_n hx hb dX10_town_147 rfl (lv_at hl 0 rfl) ?_
    refine gX10_12 C hP k_676 dX10_town_148 ?_
    refine lv_iload hx hb dX10_town_151 (lv_at hl 1 rfl) ?_
    refine aldM C hP (n := 8) rfl h5 dX10_town_153 ?_
    refine astM C hP hS (n := 8) rfl h5 dX10_town_154 (fun H locs hP hS => ?_)
    refine lv_iinc (v := x6 + 1) (lv' := [(6, .int (x6 + 1)), (0, .ref (ad 0))]) hx hb dX10_town_155 hl (k := 1) rfl rfl (by decide) rfl (fun ls hl => ?_)
    refine lv_goto (tgt := 90) hx hb dX10_town_158 (by decide) ?_
    exact hag90 _ _ _ _ _ hf hP hS (lv_sub hl [1, 0] rfl)
set_option maxRecDepth 100000 in
set_option maxHeartbeats 4000000 in
theorem wl_X10_town_90 (C : CX p m c cX10_town 7 s args RX10 D (TYM cs) (WM ad cs) (AM ad)) (hr : meth.sig.returnType = (some .int)) (hlk : meth.locks = false) (hR : 4 ≤ R.frames ∧ 102 ≤ R.locals)  {res : Int32 × Sg} : ∀ n : Nat, ∀ (x6 : Int32) (σ : Sg) (H : Heap) (locs : List Loc) (ls : Array Slot), l_X10_town_90 n x6 σ = some res → va_P D vwCl (WM ad cs σ) H → va_S (AM ad) s.heap H locs → lv_has ls 7 [(0, .ref (ad 0)), (6, .int x6)] → W p l e R s m args below meth c H locs 0 0 (MQ below (QI D (TYM cs) (WM ad cs) (AM ad) res.1 res.2) args s 0 0 (AM ad)) (F0 m 90 ls []) := by
  intro n
  induction n with
  | zero => intro x6 σ H locs ls hf; cases hf
  | succ n ih =>
    intro x6 σ H locs ls hf hP hS hl
    exact w_X10_town_90 C hr hlk hR (ag90 := l_X10_town_90 n) ih hf hP hS hl
set_option maxRecDepth 100000 in
set_option maxHeartbeats 4000000 in
theorem w_X10_town (C : CX p m c cX10_town 7 s args RX10 D (TYM cs) (WM ad cs) (AM ad)) (hr : meth.sig.returnType = (some .int)) (hlk : meth.locks = false) (hR : 4 ≤ R.frames ∧ 102 ≤ R.locals) {σ : Sg} {x1 : Int32} {x2 : Int32} {x3 : Int32} {x4 : Int32} {res : Int32 × Sg} (hf : f_X10_town σ x1 x2 x3 x4 = some res) {H : Heap} {locs : List Loc} (hP : va_P D vwCl (WM ad cs σ) H) (hS : va_S (AM ad) s.heap H locs) {ls : Array Slot} (hl : lv_has ls 7 [(0, .ref (ad 0)), (1, .int x1), (2, .int x2), (3, .int x3), (4, .int x4)]) : W p l e R s m args below meth c H locs 0 0 (MQ below (QI D (TYM cs) (WM ad cs) (AM ad) res.1 res.2) args s 0 0 (AM ad)) (F0 m 0 ls []) := by
  have hx := C.1.1
  have hb := C.1.2.1
  unfold f_X10_town at hf
  refine lv_iload_n hx hb dX10_town_0 rfl (lv_at hl 1 rfl) ?_
  obtain ⟨r2, hg1, hf⟩ := zb hf
  try dsimp only at hf
  refine q_calli C hS (q_runS C hP (c_X10_noSheet (l := l) C.2.2.1 hg1) (As := [.int x1]) (rest := []) ⟨gd_S k_756 k_757 k_53 k_758, ⟨rfl, rfl⟩, kd_X10_noSheet, ⟨Nat.le_trans (Nat.le_of_ble_eq_true rfl) hR.1, Nat.le_trans (Nat.le_of_ble_eq_true rfl) hR.2⟩⟩ rfl rfl (Nat.le_of_ble_eq_true rfl) hl.1 dX10_town_1) (fun H locs hP hS => ?_)
  refine lv_if_eq (tgt := 13) hx hb dX10_town_4 (by decide) (fun c3 => ?_) (fun c3 => ?_)
  · replace hf := zt c3 hf
    refine lv_iload_n hx hb dX10_town_13 rfl (lv_at hl 2 rfl) ?_
    refine lv_i2l hx hb dX10_town_14 rfl ?_
    refine lv_lconst (v := 0) hx hb dX10_town_15 (by decide) ?_
    refine lv_ldc2 (v := 2) hx hb C.1.2.2.2.1 (C.1.2.2.2.2 _ k_767) dX10_town_16 ?_
    obtain ⟨r5, hg4, hf⟩ := zb hf
    try dsimp only at hf
    refine q_calli C hS (q_runS C hP (c_X10_in (l := l) C.2.2.1 hg4) (As := [.long x2.toInt64, .long 0, .long 2]) (rest := []) ⟨gd_S k_760 k_761 k_53 k_762, ⟨rfl, rfl⟩, kd_X10_in, ⟨Nat.le_trans (Nat.le_of_ble_eq_true rfl) hR.1, Nat.le_trans (Nat.le_of_ble_eq_true rfl) hR.2⟩⟩ rfl rfl (Nat.le_of_ble_eq_true rfl) hl.1 dX10_town_19) (fun H locs hP hS => ?_)
    refine lv_if_ne (tgt := 32) hx hb dX10_town_22 (by decide) (fun c6 => ?_) (fun c6 => ?_)
    · replace hf := zf c6 hf
      refine lv_aload_n hx hb dX10_town_32 rfl (lv_at hl 0 rfl) ?_
      refine lv_iload_n hx hb dX10_town_33 rfl (lv_at hl 1 rfl) ?_
      refine lv_iload_n hx hb dX10_town_34 rfl (lv_at hl 2 rfl) ?_
      refine lv_iload_n hx hb dX10_town_35 rfl (lv_at hl 3 rfl) ?_
      refine lv_iload hx hb dX10_town_36 (lv_at hl 4 rfl) ?_
      refine lv_i2l hx hb dX10_town_38 rfl ?_
      obtain ⟨⟨r8, σ9⟩, hg7, hf⟩ := zb hf
      try dsimp only at hf
      refine q_calli C hS (q_runV C hP (c_X10_cellsBarred (l := l) C.2.2.1 hg7) (ci := 9) (As := [.int x1, .int x2, .int x3, .long x4.toInt64]) (rest := []) ⟨gd_V k_768 k_770 k_17 k_53 k_771, ⟨rfl, rfl⟩, kd_X10_cellsBarred, ⟨Nat.le_trans (Nat.le_of_ble_eq_true rfl) hR.1, Nat.le_trans (Nat.le_of_ble_eq_true rfl) hR.2⟩⟩ (o := 0) rfl rfl rfl rfl rfl (Nat.le_of_ble_eq_true rfl) hl.1 dX10_town_39) (fun H locs hP hS => ?_)
      refine lv_istore (lv' := [(5, .int r8), (0, .ref (ad 0)), (1, .int x1), (2, .int x2), (3, .int x3), (4, .int x4)]) hx hb dX10_town_42 hl (by decide) rfl (fun ls hl => ?_)
      refine lv_iload hx hb dX10_town_44 (lv_at hl 0 rfl) ?_
      refine lv_if_ge (tgt := 52) hx hb dX10_town_46 (by decide) (fun c10 => ?_) (fun c10 => ?_)
      · replace hf := zt c10 hf
        refine lv_aload_n hx hb dX10_town_52 rfl (lv_at hl 1 rfl) ?_
        refine lv_bipush (v := 60) hx hb dX10_town_53 (by decide) ?_
        refine lv_iload_n hx hb dX10_town_55 rfl (lv_at hl 2 rfl) ?_
        refine lv_imul hx hb dX10_town_56 ?_
        refine lv_iload_n hx hb dX10_town_57 rfl (lv_at hl 4 rfl) ?_
        refine lv_iadd hx hb dX10_town_58 ?_
        refine lv_iload hx hb dX10_town_59 (lv_at hl 5 rfl) ?_
        obtain ⟨⟨r12, σ13⟩, hg11, hf⟩ := zb hf
        try dsimp only at hf
        refine q_calli C hS (q_runV C hP (c_X10_readsTown (l := l) C.2.2.1 hg11) (ci := 9) (As := [.int (((60 : Int32) * x1) + x3), .int x4]) (rest := []) ⟨gd_V k_779 k_781 k_19 k_53 k_782, ⟨rfl, rfl⟩, kd_X10_readsTown, ⟨Nat.le_trans (Nat.le_of_ble_eq_true rfl) hR.1, Nat.le_trans (Nat.le_of_ble_eq_true rfl) hR.2⟩⟩ (o := 0) rfl rfl rfl rfl rfl (Nat.le_of_ble_eq_true rfl) hl.1 dX10_town_61) (fun H locs hP hS => ?_)
        refine lv_if_ne (tgt := 79) hx hb dX10_town_64 (by decide) (fun c14 => ?_) (fun c14 => ?_)
        · replace hf := zf c14 hf
          refine lv_aload_n hx hb dX10_town_79 rfl (lv_at hl 1 rfl) ?_
          refine lv_aload_n hx hb dX10_town_80 rfl (lv_at hl 1 rfl) ?_
          refine gX10_8 C hP k_672 dX10_town_81 ?_
          refine pX10_1 C hP hS k_665 dX10_town_84 (fun H locs hP hS => ?_)
          refine lv_iconst (v := 0) hx hb dX10_town_87 (by decide) ?_
          refine lv_istore (lv' := [(6, .int 0), (5, .int r8), (0, .ref (ad 0)), (1, .int x1), (2, .int x2), (3, .int x3), (4, .int x4)]) hx hb dX10_town_88 hl (by decide) rfl (fun ls hl => ?_)
          exact wl_X10_town_90 C hr hlk hR fu _ _ _ _ _ hf hP hS (lv_sub hl [2, 0] rfl)
        · replace hf := zt c14 hf
          refine lv_aload_n hx hb dX10_town_67 rfl (lv_at hl 1 rfl) ?_
          refine lv_bipush (v := (-100)) hx hb dX10_town_68 (by decide) ?_
          refine lv_aload_n hx hb dX10_town_70 rfl (lv_at hl 1 rfl) ?_
          refine gX10_7 C hP k_671 dX10_town_71 ?_
          refine lv_isub hx hb dX10_town_74 ?_
          obtain ⟨⟨r16, σ17⟩, hg15, hf⟩ := zb hf
          try dsimp only at hf
          refine q_calli C hS (q_runV C hP (c_X10_refused (l := l) C.2.2.1 hg15) (ci := 9) (As := [.int ((-100 : Int32) - (σ13 0 7))]) (rest := []) ⟨gd_V k_763 k_765 k_16 k_53 k_766, ⟨rfl, rfl⟩, kd_X10_refused, ⟨Nat.le_trans (Nat.le_of_ble_eq_true rfl) hR.1, Nat.le_trans (Nat.le_of_ble_eq_true rfl) hR.2⟩⟩ (o := 0) rfl rfl rfl rfl rfl (Nat.le_of_ble_eq_true rfl) hl.1 dX10_town_75) (fun H locs hP hS => ?_)
          exact q_iret C hr hlk hP hS (Option.some.inj hf) dX10_town_78
      · replace hf := zf c10 hf
        refine lv_iload hx hb dX10_town_49 (lv_at hl 0 rfl) ?_
        exact q_iret C hr hlk hP hS (Option.some.inj hf) dX10_town_51
    · replace hf := zt c6 hf
      refine lv_aload_n hx hb dX10_town_25 rfl (lv_at hl 0 rfl) ?_
      refine lv_bipush (v := (-2)) hx hb dX10_town_26 (by decide) ?_
      obtain ⟨⟨r19, σ20⟩, hg18, hf⟩ := zb hf
      try dsimp only at hf
      refine q_calli C hS (q_runV C hP (c_X10_refused (l := l) C.2.2.1 hg18) (ci := 9) (As := [.int (-2)]) (rest := []) ⟨gd_V k_763 k_765 k_16 k_53 k_766, ⟨rfl, rfl⟩, kd_X10_refused, ⟨Nat.le_trans (Nat.le_of_ble_eq_true rfl) hR.1, Nat.le_trans (Nat.le_of_ble_eq_true rfl) hR.2⟩⟩ (o := 0) rfl rfl rfl rfl rfl (Nat.le_of_ble_eq_true rfl) hl.1 dX10_town_28) (fun H locs hP hS => ?_)
      exact q_iret C hr hlk hP hS (Option.some.inj hf) dX10_town_31
  · replace hf := zf c3 hf
    refine lv_aload_n hx hb dX10_town_7 rfl (lv_at hl 0 rfl) ?_
    refine lv_iconst (v := (-1)) hx hb dX10_town_8 (by decide) ?_
    obtain ⟨⟨r22, σ23⟩, hg21, hf⟩ := zb hf
    try dsimp only at hf
    refine q_calli C hS (q_runV C hP (c_X10_refused (l := l) C.2.2.1 hg21) (ci := 9) (As := [.int (-1)]) (rest := []) ⟨gd_V k_763 k_765 k_16 k_53 k_766, ⟨rfl, rfl⟩, kd_X10_refused, ⟨Nat.le_trans (Nat.le_of_ble_eq_true rfl) hR.1, Nat.le_trans (Nat.le_of_ble_eq_true rfl) hR.2⟩⟩ (o := 0) rfl rfl rfl rfl rfl (Nat.le_of_ble_eq_true rfl) hl.1 dX10_town_9) (fun H locs hP hS => ?_)
    exact q_iret C hr hlk hP hS (Option.some.inj hf) dX10_town_12
theorem kd_X10_town : yX10_town.cls = RX10 ∧ yX10_town.cls ≠ "java/lang/invoke/MethodHandle" ∧ yX10_town.cls ≠ "java/lang/invoke/VarHandle" ∧ (parseMethodDescriptor yX10_town.desc).map (fun d => d.parameters.length) = some 4 := by decide +kernel
def r_X10_town : Room := { frames := 4, cells := 0, slots := 0, locals := 102 }
set_option maxRecDepth 100000 in
set_option maxHeartbeats 4000000 in
theorem c_X10_town {l : Launch} {D : va_G} {ad : Nat → Nat} {cs : Nat → ClassId} (hD : ∀ σ, va_D (AM ad) (WM ad cs σ)) {σ : Sg} {x1 : Int32} {x2 : Int32} {x3 : Int32} {x4 : Int32} {res : Int32 × Sg} (hf : f_X10_town σ x1 x2 x3 x4 = some res) : Met l yX10_town (wm yX10_town cX10_town 7 (some .int)) r_X10_town (va_Pc [.ref (ad 0), .int x1, .int x2, .int x3, .int x4] (BW D (TYM cs) (WM ad cs) σ)) (QI D (TYM cs) (WM ad cs) (AM ad) res.1 res.2) 0 0 (AM ad) := by
  refine q_enter (by decide) hD (Nat.le_of_ble_eq_true rfl) ?_
  intro p e s m below meth c C hr hlk hP hS ls hl
  exact w_X10_town C hr hlk ⟨Nat.le_of_ble_eq_true rfl, Nat.le_of_ble_eq_true rfl⟩ hf hP hS hl

set_option maxRecDepth 100000 in
set_option maxHeartbeats 4000000 in
theorem w_X10_goodOf (C : CX p m c cX10_goodOf 3 s args RX10 D (TYM cs) (WM ad cs) (AM ad)) (hr : meth.sig.returnType = (some .int)) (hlk : meth.locks = false) (hR : 0 ≤ R.frames ∧ 0 ≤ R.locals) {σ : Sg} {x1 : Int32} {res : Int32} (hf : f_X10_goodOf σ x1 = some res) {H : Heap} {locs : List Loc} (hP : va_P D vwCl (WM ad cs σ) H) (hS : va_S (AM ad) s.heap H locs) {ls : Array Slot} (hl : lv_has ls 3 [(0, .ref (ad 0)), (1, .int x1)]) : W p l e R s m args below meth c H locs 0 0 (MQ below (QI D (TYM cs) (WM ad cs) (AM ad) res σ) args s 0 0 (AM ad)) (F0 m 0 ls []) := by
  have hx := C.1.1
  have hb := C.1.2.1
  unfold f_X10_goodOf at hf
  refine lv_aload_n hx hb dX10_goodOf_0 rfl (lv_at hl 0 rfl) ?_
  refine gX10_4 C hP k_668 dX10_goodOf_1 ?_
  refine lv_iload_n hx hb dX10_goodOf_4 rfl (lv_at hl 1 rfl) ?_
  obtain ⟨h1, hf⟩ := zc hf
  refine aldM C hP (n := 8) rfl h1 dX10_goodOf_5 ?_
  refine lv_istore_n (lv' := [(2, .int (σ 3 x1.toNatClampNeg)), (0, .ref (ad 0)), (1, .int x1)]) hx hb dX10_goodOf_6 rfl hl (by decide) rfl (fun ls hl => ?_)
  refine lv_aload_n hx hb dX10_goodOf_7 rfl (lv_at hl 1 rfl) ?_
  refine gX10_2 C hP k_666 dX10_goodOf_8 ?_
  refine lv_iload_n hx hb dX10_goodOf_11 rfl (lv_at hl 2 rfl) ?_
  refine aldM C hP (n := 8) rfl h1 dX10_goodOf_12 ?_
  refine lv_if_ne (tgt := 20) hx hb dX10_goodOf_13 (by decide) (fun c2 => ?_) (fun c2 => ?_)
  · replace hf := zf c2 hf
    refine lv_aload_n hx hb dX10_goodOf_20 rfl (lv_at hl 1 rfl) ?_
    refine gX10_2 C hP k_666 dX10_goodOf_21 ?_
    refine lv_iload_n hx hb dX10_goodOf_24 rfl (lv_at hl 2 rfl) ?_
    refine aldM C hP (n := 8) rfl h1 dX10_goodOf_25 ?_
    refine lv_iconst (v := 1) hx hb dX10_goodOf_26 (by decide) ?_
    refine lv_icmp_ne (tgt := 36) hx hb dX10_goodOf_27 (by decide) (fun c3 => ?_) (fun c3 => ?_)
    · replace hf := zf c3 hf
      refine lv_iconst (v := 2) hx hb dX10_goodOf_36 (by decide) ?_
      refine lv_iload_n hx hb dX10_goodOf_37 rfl (lv_at hl 0 rfl) ?_
      refine lv_iconst (v := 1) hx hb dX10_goodOf_38 (by decide) ?_
      refine lv_iadd hx hb dX10_goodOf_39 ?_
      refine lv_imul hx hb dX10_goodOf_40 ?_
      exact q_iret C hr hlk hP hS (congrArg (fun q => (q, σ)) (Option.some.inj hf)) dX10_goodOf_41
    · replace hf := zt c3 hf
      refine lv_iload_n hx hb dX10_goodOf_30 rfl (lv_at hl 0 rfl) ?_
      refine lv_iconst (v := 1) hx hb dX10_goodOf_31 (by decide) ?_
      refine lv_iadd hx hb dX10_goodOf_32 ?_
      refine lv_goto (tgt := 41) hx hb dX10_goodOf_33 (by decide) ?_
      exact q_iret C hr hlk hP hS (congrArg (fun q => (q, σ)) (Option.some.inj hf)) dX10_goodOf_41
  · replace hf := zt c2 hf
    refine lv_iload_n hx hb dX10_goodOf_16 rfl (lv_at hl 0 rfl) ?_
    refine lv_goto (tgt := 41) hx hb dX10_goodOf_17 (by decide) ?_
    exact q_iret C hr hlk hP hS (congrArg (fun q => (q, σ)) (Option.some.inj hf)) dX10_goodOf_41
theorem kd_X10_goodOf : yX10_goodOf.cls = RX10 ∧ yX10_goodOf.cls ≠ "java/lang/invoke/MethodHandle" ∧ yX10_goodOf.cls ≠ "java/lang/invoke/VarHandle" ∧ (parseMethodDescriptor yX10_goodOf.desc).map (fun d => d.parameters.length) = some 1 := by decide +kernel
def r_X10_goodOf : Room := { frames := 0, cells := 0, slots := 0, locals := 0 }
set_option maxRecDepth 100000 in
set_option maxHeartbeats 4000000 in
theorem c_X10_goodOf {l : Launch} {D : va_G} {ad : Nat → Nat} {cs : Nat → ClassId} (hD : ∀ σ, va_D (AM ad) (WM ad cs σ)) {σ : Sg} {x1 : Int32} {res : Int32} (hf : f_X10_goodOf σ x1 = some res) : Met l yX10_goodOf (wm yX10_goodOf cX10_goodOf 3 (some .int)) r_X10_goodOf (va_Pc [.ref (ad 0), .int x1] (BW D (TYM cs) (WM ad cs) σ)) (QI D (TYM cs) (WM ad cs) (AM ad) res σ) 0 0 (AM ad) := by
  refine q_enter (by decide) hD (Nat.le_of_ble_eq_true rfl) ?_
  intro p e s m below meth c C hr hlk hP hS ls hl
  exact w_X10_goodOf C hr hlk ⟨Nat.le_of_ble_eq_true rfl, Nat.le_of_ble_eq_true rfl⟩ hf hP hS hl

set_option maxRecDepth 100000 in
set_option maxHeartbeats 4000000 in
theorem w_X10_ofThing (C : CX p m c cX10_ofThing 3 s args RX10 D (TYM cs) (WM ad cs) (AM ad)) (hr : meth.sig.returnType = (some .int)) (hlk : meth.locks = false) (hR : 2 ≤ R.frames ∧ 46 ≤ R.locals) {σ : Sg} {x1 : Int32} {x2 : Int32} {res : Int32} (hf : f_X10_ofThing σ x1 x2 = some res) {H : Heap} {locs : List Loc} (hP : va_P D vwCl (WM ad cs σ) H) (hS : va_S (AM ad) s.heap H locs) {ls : Array Slot} (hl : lv_has ls 3 [(0, .ref (ad 0)), (1, .int x1), (2, .int x2)]) : W p l e R s m args below meth c H locs 0 0 (MQ below (QI D (TYM cs) (WM ad cs) (AM ad) res σ) args s 0 0 (AM ad)) (F0 m 0 ls []) := by
  have hx := C.1.1
  have hb := C.1.2.1
  unfold f_X10_ofThing at hf
  refine lv_aload_n hx hb dX10_ofThing_0 rfl (lv_at hl 0 rfl) ?_
  refine lv_iload_n hx hb dX10_ofThing_1 rfl (lv_at hl 1 rfl) ?_
  obtain ⟨r2, hg1, hf⟩ := zb hf
  try dsimp only at hf
  refine q_calli C hS (q_runV C hP (c_X10_noThing (l := l) C.2.2.1 hg1) (ci := 9) (As := [.int x1]) (rest := []) ⟨gd_V k_799 k_801 k_23 k_53 k_802, ⟨rfl, rfl⟩, kd_X10_noThing, ⟨Nat.le_trans (Nat.le_of_ble_eq_true rfl) hR.1, Nat.le_trans (Nat.le_of_ble_eq_true rfl) hR.2⟩⟩ (o := 0) rfl rfl rfl rfl rfl (Nat.le_of_ble_eq_true rfl) hl.1 dX10_ofThing_2) (fun H locs hP hS => ?_)
  refine lv_if_eq (tgt := 10) hx hb dX10_ofThing_5 (by decide) (fun c3 => ?_) (fun c3 => ?_)
  · replace hf := zt c3 hf
    refine lv_iload_n hx hb dX10_ofThing_10 rfl (lv_at hl 2 rfl) ?_
    by_cases c4 : x2 = 0
    · replace hf := zt c4 hf
      refine lv_tableIn (off := 33) (tgt := 44) hx hb dX10_ofThing_11 (by rw [c4]; decide) (by rw [c4]; decide) (by rw [c4]; rfl) (by decide) ?_
      refine lv_aload_n hx hb dX10_ofThing_44 rfl (lv_at hl 0 rfl) ?_
      refine gX10_2 C hP k_666 dX10_ofThing_45 ?_
      refine lv_iload_n hx hb dX10_ofThing_48 rfl (lv_at hl 1 rfl) ?_
      obtain ⟨h5, hf⟩ := zc hf
      refine aldM C hP (n := 8) rfl h5 dX10_ofThing_49 ?_
      exact q_iret C hr hlk hP hS (congrArg (fun q => (q, σ)) (Option.some.inj hf)) dX10_ofThing_50
    · replace hf := zf c4 hf
      by_cases c6 : x2 = 1
      · replace hf := zt c6 hf
        refine lv_tableIn (off := 40) (tgt := 51) hx hb dX10_ofThing_11 (by rw [c6]; decide) (by rw [c6]; decide) (by rw [c6]; rfl) (by decide) ?_
        refine lv_aload_n hx hb dX10_ofThing_51 rfl (lv_at hl 0 rfl) ?_
        refine gX10_3 C hP k_667 dX10_ofThing_52 ?_
        refine lv_iload_n hx hb dX10_ofThing_55 rfl (lv_at hl 1 rfl) ?_
        obtain ⟨h7, hf⟩ := zc hf
        refine aldM C hP (n := 8) rfl h7 dX10_ofThing_56 ?_
        exact q_iret C hr hlk hP hS (congrArg (fun q => (q, σ)) (Option.some.inj hf)) dX10_ofThing_57
      · replace hf := zf c6 hf
        by_cases c8 : x2 = 2
        · replace hf := zt c8 hf
          refine lv_tableIn (off := 47) (tgt := 58) hx hb dX10_ofThing_11 (by rw [c8]; decide) (by rw [c8]; decide) (by rw [c8]; rfl) (by decide) ?_
          refine lv_aload_n hx hb dX10_ofThing_58 rfl (lv_at hl 0 rfl) ?_
          refine gX10_4 C hP k_668 dX10_ofThing_59 ?_
          refine lv_iload_n hx hb dX10_ofThing_62 rfl (lv_at hl 1 rfl) ?_
          obtain ⟨h9, hf⟩ := zc hf
          refine aldM C hP (n := 8) rfl h9 dX10_ofThing_63 ?_
          exact q_iret C hr hlk hP hS (congrArg (fun q => (q, σ)) (Option.some.inj hf)) dX10_ofThing_64
        · replace hf := zf c8 hf
          by_cases c10 : x2 = 3
          · replace hf := zt c10 hf
            refine lv_tableIn (off := 54) (tgt := 65) hx hb dX10_ofThing_11 (by rw [c10]; decide) (by rw [c10]; decide) (by rw [c10]; rfl) (by decide) ?_
            refine lv_aload_n hx hb dX10_ofThing_65 rfl (lv_at hl 0 rfl) ?_
            refine gX10_5 C hP k_669 dX10_ofThing_66 ?_
            refine lv_iload_n hx hb dX10_ofThing_69 rfl (lv_at hl 1 rfl) ?_
            obtain ⟨h11, hf⟩ := zc hf
            refine aldM C hP (n := 8) rfl h11 dX10_ofThing_70 ?_
            exact q_iret C hr hlk hP hS (congrArg (fun q => (q, σ)) (Option.some.inj hf)) dX10_ofThing_71
          · replace hf := zf c10 hf
            by_cases c12 : x2 = 4
            · replace hf := zt c12 hf
              refine lv_tableIn (off := 61) (tgt := 72) hx hb dX10_ofThing_11 (by rw [c12]; decide) (by rw [c12]; decide) (by rw [c12]; rfl) (by decide) ?_
              refine lv_aload_n hx hb dX10_ofThing_72 rfl (lv_at hl 0 rfl) ?_
              refine lv_iload_n hx hb dX10_ofThing_73 rfl (lv_at hl 1 rfl) ?_
              obtain ⟨r14, hg13, hf⟩ := zb hf
              try dsimp only at hf
              refine q_calli C hS (q_runV C hP (c_X10_goodOf (l := l) C.2.2.1 hg13) (ci := 9) (As := [.int x1]) (rest := []) ⟨gd_V k_803 k_805 k_24 k_53 k_806, ⟨rfl, rfl⟩, kd_X10_goodOf, ⟨Nat.le_trans (Nat.le_of_ble_eq_true rfl) hR.1, Nat.le_trans (Nat.le_of_ble_eq_true rfl) hR.2⟩⟩ (o := 0) rfl rfl rfl rfl rfl (Nat.le_of_ble_eq_true rfl) hl.1 dX10_ofThing_74) (fun H locs hP hS => ?_)
              exact q_iret C hr hlk hP hS (congrArg (fun q => (q, σ)) (Option.some.inj hf)) dX10_ofThing_77
            · replace hf := zf c12 hf
              have qc4 := lv_neT c4 (a := 0) rfl
              have qc6 := lv_neT c6 (a := 1) rfl
              have qc8 := lv_neT c8 (a := 2) rfl
              have qc10 := lv_neT c10 (a := 3) rfl
              have qc12 := lv_neT c12 (a := 4) rfl
              refine lv_tableOut (tgt := 78) hx hb dX10_ofThing_11 (by omega) (by decide) ?_
              refine lv_bipush (v := (-2)) hx hb dX10_ofThing_78 (by decide) ?_
              exact q_iret C hr hlk hP hS (congrArg (fun q => (q, σ)) (Option.some.inj hf)) dX10_ofThing_80
  · replace hf := zf c3 hf
    refine lv_iconst (v := (-1)) hx hb dX10_ofThing_8 (by decide) ?_
    exact q_iret C hr hlk hP hS (congrArg (fun q => (q, σ)) (Option.some.inj hf)) dX10_ofThing_9
theorem kd_X10_ofThing : yX10_ofThing.cls = RX10 ∧ yX10_ofThing.cls ≠ "java/lang/invoke/MethodHandle" ∧ yX10_ofThing.cls ≠ "java/lang/invoke/VarHandle" ∧ (parseMethodDescriptor yX10_ofThing.desc).map (fun d => d.parameters.length) = some 2 := by decide +kernel
def r_X10_ofThing : Room := { frames := 2, cells := 0, slots := 0, locals := 46 }
set_option maxRecDepth 100000 in
set_option maxHeartbeats 4000000 in
theorem c_X10_ofThing {l : Launch} {D : va_G} {ad : Nat → Nat} {cs : Nat → ClassId} (hD : ∀ σ, va_D (AM ad) (WM ad cs σ)) {σ : Sg} {x1 : Int32} {x2 : Int32} {res : Int32} (hf : f_X10_ofThing σ x1 x2 = some res) : Met l yX10_ofThing (wm yX10_ofThing cX10_ofThing 3 (some .int)) r_X10_ofThing (va_Pc [.ref (ad 0), .int x1, .int x2] (BW D (TYM cs) (WM ad cs) σ)) (QI D (TYM cs) (WM ad cs) (AM ad) res σ) 0 0 (AM ad) := by
  refine q_enter (by decide) hD (Nat.le_of_ble_eq_true rfl) ?_
  intro p e s m below meth c C hr hlk hP hS ls hl
  exact w_X10_ofThing C hr hlk ⟨Nat.le_of_ble_eq_true rfl, Nat.le_of_ble_eq_true rfl⟩ hf hP hS hl

set_option maxRecDepth 100000 in
set_option maxHeartbeats 4000000 in
theorem w_X10_law (C : CX p m c cX10_law 3 s args RX10 D (TYM cs) (WM ad cs) (AM ad)) (hr : meth.sig.returnType = (some .int)) (hlk : meth.locks = false) (hR : 1 ≤ R.frames ∧ 25 ≤ R.locals) {σ : Sg} {x1 : Int32} {res : Int32 × Sg} (hf : f_X10_law σ x1 = some res) {H : Heap} {locs : List Loc} (hP : va_P D vwCl (WM ad cs σ) H) (hS : va_S (AM ad) s.heap H locs) {ls : Array Slot} (hl : lv_has ls 3 [(0, .ref (ad 0)), (1, .int x1)]) : W p l e R s m args below meth c H locs 0 0 (MQ below (QI D (TYM cs) (WM ad cs) (AM ad) res.1 res.2) args s 0 0 (AM ad)) (F0 m 0 ls []) := by
  have hx := C.1.1
  have hb := C.1.2.1
  unfold f_X10_law at hf
  refine lv_iload_n hx hb dX10_law_0 rfl (lv_at hl 1 rfl) ?_
  refine lv_i2l hx hb dX10_law_1 rfl ?_
  refine lv_lconst (v := 0) hx hb dX10_law_2 (by decide) ?_
  refine lv_ldc2 (v := 2) hx hb C.1.2.2.2.1 (C.1.2.2.2.2 _ k_767) dX10_law_3 ?_
  obtain ⟨r2, hg1, hf⟩ := zb hf
  try dsimp only at hf
  refine q_calli C hS (q_runS C hP (c_X10_in (l := l) C.2.2.1 hg1) (As := [.long x1.toInt64, .long 0, .long 2]) (rest := []) ⟨gd_S k_760 k_761 k_53 k_762, ⟨rfl, rfl⟩, kd_X10_in, ⟨Nat.le_trans (Nat.le_of_ble_eq_true rfl) hR.1, Nat.le_trans (Nat.le_of_ble_eq_true rfl) hR.2⟩⟩ rfl rfl (Nat.le_of_ble_eq_true rfl) hl.1 dX10_law_6) (fun H locs hP hS => ?_)
  refine lv_if_ne (tgt := 15) hx hb dX10_law_9 (by decide) (fun c3 => ?_) (fun c3 => ?_)
  · replace hf := zf c3 hf
    refine lv_aload_n hx hb dX10_law_15 rfl (lv_at hl 0 rfl) ?_
    refine gX10_1 C hP k_665 dX10_law_16 ?_
    refine lv_if_ne (tgt := 25) hx hb dX10_law_19 (by decide) (fun c4 => ?_) (fun c4 => ?_)
    · replace hf := zf c4 hf
      refine lv_aload_n hx hb dX10_law_25 rfl (lv_at hl 0 rfl) ?_
      refine gX10_6 C hP k_670 dX10_law_26 ?_
      refine lv_istore_n (lv' := [(2, .int (σ 0 6)), (0, .ref (ad 0)), (1, .int x1)]) hx hb dX10_law_29 rfl hl (by decide) rfl (fun ls hl => ?_)
      refine lv_aload_n hx hb dX10_law_30 rfl (lv_at hl 1 rfl) ?_
      refine lv_iload_n hx hb dX10_law_31 rfl (lv_at hl 2 rfl) ?_
      refine pX10_6 C hP hS k_670 dX10_law_32 (fun H locs hP hS => ?_)
      refine lv_iload_n hx hb dX10_law_35 rfl (lv_at hl 0 rfl) ?_
      exact q_iret C hr hlk hP hS (Option.some.inj hf) dX10_law_36
    · replace hf := zt c4 hf
      refine lv_bipush (v := (-3)) hx hb dX10_law_22 (by decide) ?_
      exact q_iret C hr hlk hP hS (Option.some.inj hf) dX10_law_24
  · replace hf := zt c3 hf
    refine lv_bipush (v := (-2)) hx hb dX10_law_12 (by decide) ?_
    exact q_iret C hr hlk hP hS (Option.some.inj hf) dX10_law_14
theorem kd_X10_law : yX10_law.cls = RX10 ∧ yX10_law.cls ≠ "java/lang/invoke/MethodHandle" ∧ yX10_law.cls ≠ "java/lang/invoke/VarHandle" ∧ (parseMethodDescriptor yX10_law.desc).map (fun d => d.parameters.length) = some 1 := by decide +kernel
def r_X10_law : Room := { frames := 1, cells := 0, slots := 0, locals := 25 }
set_option maxRecDepth 100000 in
set_option maxHeartbeats 4000000 in
theorem c_X10_law {l : Launch} {D : va_G} {ad : Nat → Nat} {cs : Nat → ClassId} (hD : ∀ σ, va_D (AM ad) (WM ad cs σ)) {σ : Sg} {x1 : Int32} {res : Int32 × Sg} (hf : f_X10_law σ x1 = some res) : Met l yX10_law (wm yX10_law cX10_law 3 (some .int)) r_X10_law (va_Pc [.ref (ad 0), .int x1] (BW D (TYM cs) (WM ad cs) σ)) (QI D (TYM cs) (WM ad cs) (AM ad) res.1 res.2) 0 0 (AM ad) := by
  refine q_enter (by decide) hD (Nat.le_of_ble_eq_true rfl) ?_
  intro p e s m below meth c C hr hlk hP hS ls hl
  exact w_X10_law C hr hlk ⟨Nat.le_of_ble_eq_true rfl, Nat.le_of_ble_eq_true rfl⟩ hf hP hS hl

set_option maxRecDepth 100000 in
set_option maxHeartbeats 4000000 in
theorem w_X10_depute (C : CX p m c cX10_depute 4 s args RX10 D (TYM cs) (WM ad cs) (AM ad)) (hr : meth.sig.returnType = (some .int)) (hlk : meth.locks = false) (hR : 2 ≤ R.frames ∧ 46 ≤ R.locals) {σ : Sg} {x1 : Int32} {x2 : Int32} {res : Int32 × Sg} (hf : f_X10_depute σ x1 x2 = some res) {H : Heap} {locs : List Loc} (hP : va_P D vwCl (WM ad cs σ) H) (hS : va_S (AM ad) s.heap H locs) {ls : Array Slot} (hl : lv_has ls 4 [(0, .ref (ad 0)), (1, .int x1), (2, .int x2)]) : W p l e R s m args below meth c H locs 0 0 (MQ below (QI D (TYM cs) (WM ad cs) (AM ad) res.1 res.2) args s 0 0 (AM ad)) (F0 m 0 ls []) := by
  have hx := C.1.1
  have hb := C.1.2.1
  unfold f_X10_depute at hf
  refine lv_aload_n hx hb dX10_depute_0 rfl (lv_at hl 0 rfl) ?_
  refine lv_iload_n hx hb dX10_depute_1 rfl (lv_at hl 1 rfl) ?_
  obtain ⟨r2, hg1, hf⟩ := zb hf
  try dsimp only at hf
  refine q_calli C hS (q_runV C hP (c_X10_noThing (l := l) C.2.2.1 hg1) (ci := 9) (As := [.int x1]) (rest := []) ⟨gd_V k_799 k_801 k_23 k_53 k_802, ⟨rfl, rfl⟩, kd_X10_noThing, ⟨Nat.le_trans (Nat.le_of_ble_eq_true rfl) hR.1, Nat.le_trans (Nat.le_of_ble_eq_true rfl) hR.2⟩⟩ (o := 0) rfl rfl rfl rfl rfl (Nat.le_of_ble_eq_true rfl) hl.1 dX10_depute_2) (fun H locs hP hS => ?_)
  refine lv_if_ne (tgt := 16) hx hb dX10_depute_5 (by decide) (fun c3 => ?_) (fun c3 => ?_)
  · replace hf := zf c3 hf
    refine lv_iconst (v := (-1)) hx hb dX10_depute_16 (by decide) ?_
    exact q_iret C hr hlk hP hS (Option.some.inj hf) dX10_depute_17
  · replace hf := zt c3 hf
    refine lv_aload_n hx hb dX10_depute_8 rfl (lv_at hl 0 rfl) ?_
    refine lv_iload_n hx hb dX10_depute_9 rfl (lv_at hl 2 rfl) ?_
    obtain ⟨r5, hg4, hf⟩ := zb hf
    try dsimp only at hf
    refine q_calli C hS (q_runV C hP (c_X10_noThing (l := l) C.2.2.1 hg4) (ci := 9) (As := [.int x2]) (rest := []) ⟨gd_V k_799 k_801 k_23 k_53 k_802, ⟨rfl, rfl⟩, kd_X10_noThing, ⟨Nat.le_trans (Nat.le_of_ble_eq_true rfl) hR.1, Nat.le_trans (Nat.le_of_ble_eq_true rfl) hR.2⟩⟩ (o := 0) rfl rfl rfl rfl rfl (Nat.le_of_ble_eq_true rfl) hl.1 dX10_depute_10) (fun H locs hP hS => ?_)
    refine lv_if_eq (tgt := 18) hx hb dX10_depute_13 (by decide) (fun c6 => ?_) (fun c6 => ?_)
    · replace hf := zt c6 hf
      refine lv_iload_n hx hb dX10_depute_18 rfl (lv_at hl 1 rfl) ?_
      refine lv_iload_n hx hb dX10_depute_19 rfl (lv_at hl 2 rfl) ?_
      refine lv_icmp_ne (tgt := 26) hx hb dX10_depute_20 (by decide) (fun c7 => ?_) (fun c7 => ?_)
      · replace hf := zf c7 hf
        refine lv_aload_n hx hb dX10_depute_26 rfl (lv_at hl 0 rfl) ?_
        refine gX10_3 C hP k_667 dX10_depute_27 ?_
        refine lv_iload_n hx hb dX10_depute_30 rfl (lv_at hl 1 rfl) ?_
        obtain ⟨h8, hf⟩ := zc hf
        refine aldM C hP (n := 8) rfl h8 dX10_depute_31 ?_
        refine lv_istore_n (lv' := [(3, .int (σ 2 x1.toNatClampNeg)), (0, .ref (ad 0)), (1, .int x1), (2, .int x2)]) hx hb dX10_depute_32 rfl hl (by decide) rfl (fun ls hl => ?_)
        refine lv_aload_n hx hb dX10_depute_33 rfl (lv_at hl 1 rfl) ?_
        refine gX10_3 C hP k_667 dX10_depute_34 ?_
        refine lv_iload_n hx hb dX10_depute_37 rfl (lv_at hl 2 rfl) ?_
        refine lv_iload_n hx hb dX10_depute_38 rfl (lv_at hl 3 rfl) ?_
        refine astM C hP hS (n := 8) rfl h8 dX10_depute_39 (fun H locs hP hS => ?_)
        refine lv_iload_n hx hb dX10_depute_40 rfl (lv_at hl 0 rfl) ?_
        exact q_iret C hr hlk hP hS (Option.some.inj hf) dX10_depute_41
      · replace hf := zt c7 hf
        refine lv_bipush (v := (-2)) hx hb dX10_depute_23 (by decide) ?_
        exact q_iret C hr hlk hP hS (Option.some.inj hf) dX10_depute_25
    · replace hf := zf c6 hf
      refine lv_iconst (v := (-1)) hx hb dX10_depute_16 (by decide) ?_
      exact q_iret C hr hlk hP hS (Option.some.inj hf) dX10_depute_17
theorem kd_X10_depute : yX10_depute.cls = RX10 ∧ yX10_depute.cls ≠ "java/lang/invoke/MethodHandle" ∧ yX10_depute.cls ≠ "java/lang/invoke/VarHandle" ∧ (parseMethodDescriptor yX10_depute.desc).map (fun d => d.parameters.length) = some 2 := by decide +kernel
def r_X10_depute : Room := { frames := 2, cells := 0, slots := 0, locals := 46 }
set_option maxRecDepth 100000 in
set_option maxHeartbeats 4000000 in
theorem c_X10_depute {l : Launch} {D : va_G} {ad : Nat → Nat} {cs : Nat → ClassId} (hD : ∀ σ, va_D (AM ad) (WM ad cs σ)) {σ : Sg} {x1 : Int32} {x2 : Int32} {res : Int32 × Sg} (hf : f_X10_depute σ x1 x2 = some res) : Met l yX10_depute (wm yX10_depute cX10_depute 4 (some .int)) r_X10_depute (va_Pc [.ref (ad 0), .int x1, .int x2] (BW D (TYM cs) (WM ad cs) σ)) (QI D (TYM cs) (WM ad cs) (AM ad) res.1 res.2) 0 0 (AM ad) := by
  refine q_enter (by decide) hD (Nat.le_of_ble_eq_true rfl) ?_
  intro p e s m below meth c C hr hlk hP hS ls hl
  exact w_X10_depute C hr hlk ⟨Nat.le_of_ble_eq_true rfl, Nat.le_of_ble_eq_true rfl⟩ hf hP hS hl

set_option maxRecDepth 100000 in
set_option maxHeartbeats 4000000 in
theorem w_X10_smash (C : CX p m c cX10_smash 4 s args RX10 D (TYM cs) (WM ad cs) (AM ad)) (hr : meth.sig.returnType = (some .int)) (hlk : meth.locks = false) (hR : 2 ≤ R.frames ∧ 46 ≤ R.locals) {σ : Sg} {x1 : Int32} {x2 : Int32} {x3 : Int32} {res : Int32 × Sg} (hf : f_X10_smash σ x1 x2 x3 = some res) {H : Heap} {locs : List Loc} (hP : va_P D vwCl (WM ad cs σ) H) (hS : va_S (AM ad) s.heap H locs) {ls : Array Slot} (hl : lv_has ls 4 [(0, .ref (ad 0)), (1, .int x1), (2, .int x2), (3, .int x3)]) : W p l e R s m args below meth c H locs 0 0 (MQ below (QI D (TYM cs) (WM ad cs) (AM ad) res.1 res.2) args s 0 0 (AM ad)) (F0 m 0 ls []) := by
  have hx := C.1.1
  have hb := C.1.2.1
  unfold f_X10_smash at hf
  refine lv_aload_n hx hb dX10_smash_0 rfl (lv_at hl 0 rfl) ?_
  refine lv_iload_n hx hb dX10_smash_1 rfl (lv_at hl 1 rfl) ?_
  obtain ⟨r2, hg1, hf⟩ := zb hf
  try dsimp only at hf
  refine q_calli C hS (q_runV C hP (c_X10_noThing (l := l) C.2.2.1 hg1) (ci := 9) (As := [.int x1]) (rest := []) ⟨gd_V k_799 k_801 k_23 k_53 k_802, ⟨rfl, rfl⟩, kd_X10_noThing, ⟨Nat.le_trans (Nat.le_of_ble_eq_true rfl) hR.1, Nat.le_trans (Nat.le_of_ble_eq_true rfl) hR.2⟩⟩ (o := 0) rfl rfl rfl rfl rfl (Nat.le_of_ble_eq_true rfl) hl.1 dX10_smash_2) (fun H locs hP hS => ?_)
  refine lv_if_eq (tgt := 10) hx hb dX10_smash_5 (by decide) (fun c3 => ?_) (fun c3 => ?_)
  · replace hf := zt c3 hf
    refine lv_iload_n hx hb dX10_smash_10 rfl (lv_at hl 2 rfl) ?_
    obtain ⟨r5, hg4, hf⟩ := zb hf
    try dsimp only at hf
    refine q_calli C hS (q_runS C hP (c_X10_isHour (l := l) C.2.2.1 hg4) (As := [.int x2]) (rest := []) ⟨gd_S k_819 k_820 k_53 k_821, ⟨rfl, rfl⟩, kd_X10_isHour, ⟨Nat.le_trans (Nat.le_of_ble_eq_true rfl) hR.1, Nat.le_trans (Nat.le_of_ble_eq_true rfl) hR.2⟩⟩ rfl rfl (Nat.le_of_ble_eq_true rfl) hl.1 dX10_smash_11) (fun H locs hP hS => ?_)
    refine lv_if_eq (tgt := 29) hx hb dX10_smash_14 (by decide) (fun c6 => ?_) (fun c6 => ?_)
    · replace hf := zt c6 hf
      refine lv_bipush (v := (-2)) hx hb dX10_smash_29 (by decide) ?_
      exact q_iret C hr hlk hP hS (Option.some.inj hf) dX10_smash_31
    · replace hf := zf c6 hf
      refine lv_iload_n hx hb dX10_smash_17 rfl (lv_at hl 3 rfl) ?_
      obtain ⟨r8, hg7, hf⟩ := zb hf
      try dsimp only at hf
      refine q_calli C hS (q_runS C hP (c_X10_isHour (l := l) C.2.2.1 hg7) (As := [.int x3]) (rest := []) ⟨gd_S k_819 k_820 k_53 k_821, ⟨rfl, rfl⟩, kd_X10_isHour, ⟨Nat.le_trans (Nat.le_of_ble_eq_true rfl) hR.1, Nat.le_trans (Nat.le_of_ble_eq_true rfl) hR.2⟩⟩ rfl rfl (Nat.le_of_ble_eq_true rfl) hl.1 dX10_smash_18) (fun H locs hP hS => ?_)
      refine lv_if_eq (tgt := 29) hx hb dX10_smash_21 (by decide) (fun c9 => ?_) (fun c9 => ?_)
      · replace hf := zt c9 hf
        refine lv_bipush (v := (-2)) hx hb dX10_smash_29 (by decide) ?_
        exact q_iret C hr hlk hP hS (Option.some.inj hf) dX10_smash_31
      · replace hf := zf c9 hf
        refine lv_iload_n hx hb dX10_smash_24 rfl (lv_at hl 3 rfl) ?_
        refine lv_iload_n hx hb dX10_smash_25 rfl (lv_at hl 2 rfl) ?_
        refine lv_icmp_ge (tgt := 32) hx hb dX10_smash_26 (by decide) (fun c10 => ?_) (fun c10 => ?_)
        · replace hf := zt c10 hf
          refine lv_aload_n hx hb dX10_smash_32 rfl (lv_at hl 0 rfl) ?_
          refine gX10_13 C hP k_677 dX10_smash_33 ?_
          refine lv_bipush (v := 8) hx hb dX10_smash_36 (by decide) ?_
          refine lv_icmp_ne (tgt := 44) hx hb dX10_smash_38 (by decide) (fun c11 => ?_) (fun c11 => ?_)
          · replace hf := zf c11 hf
            refine lv_aload_n hx hb dX10_smash_44 rfl (lv_at hl 0 rfl) ?_
            refine gX10_14 C hP k_678 dX10_smash_45 ?_
            refine lv_aload_n hx hb dX10_smash_48 rfl (lv_at hl 0 rfl) ?_
            refine gX10_13 C hP k_677 dX10_smash_49 ?_
            refine lv_iload_n hx hb dX10_smash_52 rfl (lv_at hl 1 rfl) ?_
            obtain ⟨h12, hf⟩ := zc hf
            refine astM C hP hS (n := 8) rfl h12 dX10_smash_53 (fun H locs hP hS => ?_)
            refine lv_aload_n hx hb dX10_smash_54 rfl (lv_at hl 0 rfl) ?_
            refine gX10_15 C hP k_679 dX10_smash_55 ?_
            refine lv_aload_n hx hb dX10_smash_58 rfl (lv_at hl 0 rfl) ?_
            refine gX10_13 C hP k_677 dX10_smash_59 ?_
            refine lv_iload_n hx hb dX10_smash_62 rfl (lv_at hl 2 rfl) ?_
            obtain ⟨h13, hf⟩ := zc hf
            refine astM C hP hS (n := 8) rfl h13 dX10_smash_63 (fun H locs hP hS => ?_)
            refine lv_aload_n hx hb dX10_smash_64 rfl (lv_at hl 0 rfl) ?_
            refine gX10_16 C hP k_680 dX10_smash_65 ?_
            refine lv_aload_n hx hb dX10_smash_68 rfl (lv_at hl 0 rfl) ?_
            refine gX10_13 C hP k_677 dX10_smash_69 ?_
            refine lv_iload_n hx hb dX10_smash_72 rfl (lv_at hl 3 rfl) ?_
            obtain ⟨h14, hf⟩ := zc hf
            refine astM C hP hS (n := 8) rfl h14 dX10_smash_73 (fun H locs hP hS => ?_)
            refine lv_aload_n hx hb dX10_smash_74 rfl (lv_at hl 0 rfl) ?_
            refine lv_dup hx hb dX10_smash_75 rfl ?_
            refine gX10_13 C hP k_677 dX10_smash_76 ?_
            refine lv_iconst (v := 1) hx hb dX10_smash_79 (by decide) ?_
            refine lv_iadd hx hb dX10_smash_80 ?_
            refine pX10_13 C hP hS k_677 dX10_smash_81 (fun H locs hP hS => ?_)
            refine lv_aload_n hx hb dX10_smash_84 rfl (lv_at hl 0 rfl) ?_
            refine gX10_13 C hP k_677 dX10_smash_85 ?_
            refine lv_iconst (v := 1) hx hb dX10_smash_88 (by decide) ?_
            refine lv_isub hx hb dX10_smash_89 ?_
            exact q_iret C hr hlk hP hS (Option.some.inj hf) dX10_smash_90
          · replace hf := zt c11 hf
            refine lv_bipush (v := (-4)) hx hb dX10_smash_41 (by decide) ?_
            exact q_iret C hr hlk hP hS (Option.some.inj hf) dX10_smash_43
        · replace hf := zf c10 hf
          refine lv_bipush (v := (-2)) hx hb dX10_smash_29 (by decide) ?_
          exact q_iret C hr hlk hP hS (Option.some.inj hf) dX10_smash_31
  · replace hf := zf c3 hf
    refine lv_iconst (v := (-1)) hx hb dX10_smash_8 (by decide) ?_
    exact q_iret C hr hlk hP hS (Option.some.inj hf) dX10_smash_9
theorem kd_X10_smash : yX10_smash.cls = RX10 ∧ yX10_smash.cls ≠ "java/lang/invoke/MethodHandle" ∧ yX10_smash.cls ≠ "java/lang/invoke/VarHandle" ∧ (parseMethodDescriptor yX10_smash.desc).map (fun d => d.parameters.length) = some 3 := by decide +kernel
def r_X10_smash : Room := { frames := 2, cells := 0, slots := 0, locals := 46 }
set_option maxRecDepth 100000 in
set_option maxHeartbeats 4000000 in
theorem c_X10_smash {l : Launch} {D : va_G} {ad : Nat → Nat} {cs : Nat → ClassId} (hD : ∀ σ, va_D (AM ad) (WM ad cs σ)) {σ : Sg} {x1 : Int32} {x2 : Int32} {x3 : Int32} {res : Int32 × Sg} (hf : f_X10_smash σ x1 x2 x3 = some res) : Met l yX10_smash (wm yX10_smash cX10_smash 4 (some .int)) r_X10_smash (va_Pc [.ref (ad 0), .int x1, .int x2, .int x3] (BW D (TYM cs) (WM ad cs) σ)) (QI D (TYM cs) (WM ad cs) (AM ad) res.1 res.2) 0 0 (AM ad) := by
  refine q_enter (by decide) hD (Nat.le_of_ble_eq_true rfl) ?_
  intro p e s m below meth c C hr hlk hP hS ls hl
  exact w_X10_smash C hr hlk ⟨Nat.le_of_ble_eq_true rfl, Nat.le_of_ble_eq_true rfl⟩ hf hP hS hl

set_option maxRecDepth 100000 in
set_option maxHeartbeats 4000000 in
theorem w_X10_glue (C : CX p m c cX10_glue 2 s args RX10 D (TYM cs) (WM ad cs) (AM ad)) (hr : meth.sig.returnType = (some .int)) (hlk : meth.locks = false) (hR : 1 ≤ R.frames ∧ 25 ≤ R.locals) {σ : Sg} {x1 : Int32} {res : Int32 × Sg} (hf : f_X10_glue σ x1 = some res) {H : Heap} {locs : List Loc} (hP : va_P D vwCl (WM ad cs σ) H) (hS : va_S (AM ad) s.heap H locs) {ls : Array Slot} (hl : lv_has ls 2 [(0, .ref (ad 0)), (1, .int x1)]) : W p l e R s m args below meth c H locs 0 0 (MQ below (QI D (TYM cs) (WM ad cs) (AM ad) res.1 res.2) args s 0 0 (AM ad)) (F0 m 0 ls []) := by
  have hx := C.1.1
  have hb := C.1.2.1
  unfold f_X10_glue at hf
  refine lv_iload_n hx hb dX10_glue_0 rfl (lv_at hl 1 rfl) ?_
  refine lv_i2l hx hb dX10_glue_1 rfl ?_
  refine lv_lconst (v := 0) hx hb dX10_glue_2 (by decide) ?_
  refine lv_aload_n hx hb dX10_glue_3 rfl (lv_at hl 0 rfl) ?_
  refine gX10_13 C hP k_677 dX10_glue_4 ?_
  refine lv_i2l hx hb dX10_glue_7 rfl ?_
  obtain ⟨r2, hg1, hf⟩ := zb hf
  try dsimp only at hf
  refine q_calli C hS (q_runS C hP (c_X10_in (l := l) C.2.2.1 hg1) (As := [.long x1.toInt64, .long 0, .long ((σ 0 13).toInt64)]) (rest := []) ⟨gd_S k_760 k_761 k_53 k_762, ⟨rfl, rfl⟩, kd_X10_in, ⟨Nat.le_trans (Nat.le_of_ble_eq_true rfl) hR.1, Nat.le_trans (Nat.le_of_ble_eq_true rfl) hR.2⟩⟩ rfl rfl (Nat.le_of_ble_eq_true rfl) hl.1 dX10_glue_8) (fun H locs hP hS => ?_)
  refine lv_if_ne (tgt := 17) hx hb dX10_glue_11 (by decide) (fun c3 => ?_) (fun c3 => ?_)
  · replace hf := zf c3 hf
    refine lv_aload_n hx hb dX10_glue_17 rfl (lv_at hl 0 rfl) ?_
    refine lv_dup hx hb dX10_glue_18 rfl ?_
    refine gX10_13 C hP k_677 dX10_glue_19 ?_
    refine lv_iload_n hx hb dX10_glue_22 rfl (lv_at hl 1 rfl) ?_
    refine lv_isub hx hb dX10_glue_23 ?_
    refine pX10_13 C hP hS k_677 dX10_glue_24 (fun H locs hP hS => ?_)
    refine lv_aload_n hx hb dX10_glue_27 rfl (lv_at hl 0 rfl) ?_
    refine gX10_13 C hP k_677 dX10_glue_28 ?_
    exact q_iret C hr hlk hP hS (Option.some.inj hf) dX10_glue_31
  · replace hf := zt c3 hf
    refine lv_bipush (v := (-2)) hx hb dX10_glue_14 (by decide) ?_
    exact q_iret C hr hlk hP hS (Option.some.inj hf) dX10_glue_16
theorem kd_X10_glue : yX10_glue.cls = RX10 ∧ yX10_glue.cls ≠ "java/lang/invoke/MethodHandle" ∧ yX10_glue.cls ≠ "java/lang/invoke/VarHandle" ∧ (parseMethodDescriptor yX10_glue.desc).map (fun d => d.parameters.length) = some 1 := by decide +kernel
def r_X10_glue : Room := { frames := 1, cells := 0, slots := 0, locals := 25 }
set_option maxRecDepth 100000 in
set_option maxHeartbeats 4000000 in
theorem c_X10_glue {l : Launch} {D : va_G} {ad : Nat → Nat} {cs : Nat → ClassId} (hD : ∀ σ, va_D (AM ad) (WM ad cs σ)) {σ : Sg} {x1 : Int32} {res : Int32 × Sg} (hf : f_X10_glue σ x1 = some res) : Met l yX10_glue (wm yX10_glue cX10_glue 2 (some .int)) r_X10_glue (va_Pc [.ref (ad 0), .int x1] (BW D (TYM cs) (WM ad cs) σ)) (QI D (TYM cs) (WM ad cs) (AM ad) res.1 res.2) 0 0 (AM ad) := by
  refine q_enter (by decide) hD (Nat.le_of_ble_eq_true rfl) ?_
  intro p e s m below meth c C hr hlk hP hS ls hl
  exact w_X10_glue C hr hlk ⟨Nat.le_of_ble_eq_true rfl, Nat.le_of_ble_eq_true rfl⟩ hf hP hS hl

set_option maxRecDepth 100000 in
set_option maxHeartbeats 4000000 in
theorem w_X10_brokenIn_47 (C : CX p m c cX10_brokenIn 4 s args RX10 D (TYM cs) (WM ad cs) (AM ad)) (hr : meth.sig.returnType = (some .int)) (hlk : meth.locks = false) (hR : 1 ≤ R.frames ∧ 25 ≤ R.locals) {σ : Sg} {x1 : Int32} {x3 : Int32} {s0 : Int32} {s1 : Int32} {res : Int32} {ag4 : Int32 → Int32 → Option (Int32)} (hag4 : ∀ (x2 : Int32) (x3 : Int32) (H : Heap) (locs : List Loc) (ls : Array Slot), ag4 x2 x3 = some res → va_P D vwCl (WM ad cs σ) H → va_S (AM ad) s.heap H locs → lv_has ls 4 [(0, .ref (ad 0)), (1, .int x1), (2, .int x2), (3, .int x3)] → W p l e R s m args below meth c H locs 0 0 (MQ below (QI D (TYM cs) (WM ad cs) (AM ad) res σ) args s 0 0 (AM ad)) (F0 m 4 ls [])) (hf : f_X10_brokenIn_47 ag4 σ x1 x3 s0 s1 = some res) {H : Heap} {locs : List Loc} (hP : va_P D vwCl (WM ad cs σ) H) (hS : va_S (AM ad) s.heap H locs) {ls : Array Slot} (hl : lv_has ls 4 [(0, .ref (ad 0)), (1, .int x1), (3, .int x3)]) : W p l e R s m args below meth c H locs 0 0 (MQ below (QI D (TYM cs) (WM ad cs) (AM ad) res σ) args s 0 0 (AM ad)) (F0 m 47 ls [.int s0, .int s1]) := by
  have hx := C.1.1
  have hb := C.1.2.1
  unfold f_X10_brokenIn_47 at hf
  refine lv_ior hx hb dX10_brokenIn_47 ?_
  refine lv_istore_n (lv' := [(2, .int (s1 ||| s0)), (0, .ref (ad 0)), (1, .int x1), (3, .int x3)]) hx hb dX10_brokenIn_48 rfl hl (by decide) rfl (fun ls hl => ?_)
  refine lv_iinc (v := x3 + 1) (lv' := [(3, .int (x3 + 1)), (2, .int (s1 ||| s0)), (0, .ref (ad 0)), (1, .int x1)]) hx hb dX10_brokenIn_49 hl (k := 3) rfl rfl (by decide) rfl (fun ls hl => ?_)
  refine lv_goto (tgt := 4) hx hb dX10_brokenIn_52 (by decide) ?_
  exact hag4 _ _ _ _ _ hf hP hS (lv_sub hl [2, 3, 1, 0] rfl)
set_option maxRecDepth 100000 in
set_option maxHeartbeats 4000000 in
theorem w_X10_brokenIn_4 (C : CX p m c cX10_brokenIn 4 s args RX10 D (TYM cs) (WM ad cs) (AM ad)) (hr : meth.sig.returnType = (some .int)) (hlk : meth.locks = false) (hR : 1 ≤ R.frames ∧ 25 ≤ R.locals) {σ : Sg} {x1 : Int32} {x2 : Int32} {x3 : Int32} {res : Int32} {ag4 : Int32 → Int32 → Option (Int32)} (hag4 : ∀ (x2 : Int32) (x3 : Int32) (H : Heap) (locs : List Loc) (ls : Array Slot), ag4 x2 x3 = some res → va_P D vwCl (WM ad cs σ) H → va_S (AM ad) s.heap H locs → lv_has ls 4 [(0, .ref (ad 0)), (1, .int x1), (2, .int x2), (3, .int x3)] → W p l e R s m args below meth c H locs 0 0 (MQ below (QI D (TYM cs) (WM ad cs) (AM ad) res σ) args s 0 0 (AM ad)) (F0 m 4 ls [])) (hf : f_X10_brokenIn_4 ag4 σ x1 x2 x3 = some res) {H : Heap} {locs : List Loc} (hP : va_P D vwCl (WM ad cs σ) H) (hS : va_S (AM ad) s.heap H locs) {ls : Array Slot} (hl : lv_has ls 4 [(0, .ref (ad 0)), (1, .int x1), (2, .int x2), (3, .int x3)]) : W p l e R s m args below meth c H locs 0 0 (MQ below (QI D (TYM cs) (WM ad cs) (AM ad) res σ) args s 0 0 (AM ad)) (F0 m 4 ls []) := by
  have hx := C.1.1
  have hb := C.1.2.1
  unfold f_X10_brokenIn_4 at hf
  refine lv_iload_n hx hb dX10_brokenIn_4 rfl (lv_at hl 3 rfl) ?_
  refine lv_aload_n hx hb dX10_brokenIn_5 rfl (lv_at hl 0 rfl) ?_
  refine gX10_13 C hP k_677 dX10_brokenIn_6 ?_
  refine lv_icmp_ge (tgt := 55) hx hb dX10_brokenIn_9 (by decide) (fun c1 => ?_) (fun c1 => ?_)
  · replace hf := zt c1 hf
    refine lv_iload_n hx hb dX10_brokenIn_55 rfl (lv_at hl 2 rfl) ?_
    exact q_iret C hr hlk hP hS (congrArg (fun q => (q, σ)) (Option.some.inj hf)) dX10_brokenIn_56
  · replace hf := zf c1 hf
    refine lv_iload_n hx hb dX10_brokenIn_12 rfl (lv_at hl 2 rfl) ?_
    refine lv_iload_n hx hb dX10_brokenIn_13 rfl (lv_at hl 1 rfl) ?_
    refine lv_i2l hx hb dX10_brokenIn_14 rfl ?_
    refine lv_aload_n hx hb dX10_brokenIn_15 rfl (lv_at hl 0 rfl) ?_
    refine gX10_15 C hP k_679 dX10_brokenIn_16 ?_
    refine lv_iload_n hx hb dX10_brokenIn_19 rfl (lv_at hl 3 rfl) ?_
    obtain ⟨h2, hf⟩ := zc hf
    refine aldM C hP (n := 8) rfl h2 dX10_brokenIn_20 ?_
    refine lv_i2l hx hb dX10_brokenIn_21 rfl ?_
    refine lv_aload_n hx hb dX10_brokenIn_22 rfl (lv_at hl 0 rfl) ?_
    refine gX10_16 C hP k_680 dX10_brokenIn_23 ?_
    refine lv_iload_n hx hb dX10_brokenIn_26 rfl (lv_at hl 3 rfl) ?_
    refine aldM C hP (n := 8) rfl h2 dX10_brokenIn_27 ?_
    refine lv_i2l hx hb dX10_brokenIn_28 rfl ?_
    obtain ⟨r4, hg3, hf⟩ := zb hf
    try dsimp only at hf
    refine q_calli C hS (q_runS C hP (c_X10_in (l := l) C.2.2.1 hg3) (As := [.long x1.toInt64, .long ((σ 10 x3.toNatClampNeg).toInt64), .long ((σ 11 x3.toNatClampNeg).toInt64)]) (rest := [.int x2]) ⟨gd_S k_760 k_761 k_53 k_762, ⟨rfl, rfl⟩, kd_X10_in, ⟨Nat.le_trans (Nat.le_of_ble_eq_true rfl) hR.1, Nat.le_trans (Nat.le_of_ble_eq_true rfl) hR.2⟩⟩ rfl rfl (Nat.le_of_ble_eq_true rfl) hl.1 dX10_brokenIn_29) (fun H locs hP hS => ?_)
    refine lv_if_eq (tgt := 46) hx hb dX10_brokenIn_32 (by decide) (fun c5 => ?_) (fun c5 => ?_)
    · replace hf := zt c5 hf
      refine lv_iconst (v := 0) hx hb dX10_brokenIn_46 (by decide) ?_
      exact w_X10_brokenIn_47 C hr hlk hR hag4 hf hP hS (lv_sub hl [0, 1, 3] rfl)
    · replace hf := zf c5 hf
      refine lv_iconst (v := 1) hx hb dX10_brokenIn_35 (by decide) ?_
      refine lv_aload_n hx hb dX10_brokenIn_36 rfl (lv_at hl 0 rfl) ?_
      refine gX10_14 C hP k_678 dX10_brokenIn_37 ?_
      refine lv_iload_n hx hb dX10_brokenIn_40 rfl (lv_at hl 3 rfl) ?_
      refine aldM C hP (n := 8) rfl h2 dX10_brokenIn_41 ?_
      refine lv_ishl hx hb dX10_brokenIn_42 ?_
      refine lv_goto (tgt := 47) hx hb dX10_brokenIn_43 (by decide) ?_
      exact w_X10_brokenIn_47 C hr hlk hR hag4 hf hP hS (lv_sub hl [0, 1, 3] rfl)
set_option maxRecDepth 100000 in
set_option maxHeartbeats 4000000 in
theorem wl_X10_brokenIn_4 (C : CX p m c cX10_brokenIn 4 s args RX10 D (TYM cs) (WM ad cs) (AM ad)) (hr : meth.sig.returnType = (some .int)) (hlk : meth.locks = false) (hR : 1 ≤ R.frames ∧ 25 ≤ R.locals) {σ : Sg} {x1 : Int32} {res : Int32} : ∀ n : Nat, ∀ (x2 : Int32) (x3 : Int32) (H : Heap) (locs : List Loc) (ls : Array Slot), l_X10_brokenIn_4 σ x1 n x2 x3 = some res → va_P D vwCl (WM ad cs σ) H → va_S (AM ad) s.heap H locs → lv_has ls 4 [(0, .ref (ad 0)), (1, .int x1), (2, .int x2), (3, .int x3)] → W p l e R s m args below meth c H locs 0 0 (MQ below (QI D (TYM cs) (WM ad cs) (AM ad) res σ) args s 0 0 (AM ad)) (F0 m 4 ls []) := by
  intro n
  induction n with
  | zero => intro x2 x3 H locs ls hf; cases hf
  | succ n ih =>
    intro x2 x3 H locs ls hf hP hS hl
    exact w_X10_brokenIn_4 C hr hlk hR (ag4 := l_X10_brokenIn_4 σ x1 n) ih hf hP hS hl
set_option maxRecDepth 100000 in
set_option maxHeartbeats 4000000 in
theorem w_X10_brokenIn (C : CX p m c cX10_brokenIn 4 s args RX10 D (TYM cs) (WM ad cs) (AM ad)) (hr : meth.sig.returnType = (some .int)) (hlk : meth.locks = false) (hR : 1 ≤ R.frames ∧ 25 ≤ R.locals) {σ : Sg} {x1 : Int32} {res : Int32} (hf : f_X10_brokenIn σ x1 = some res) {H : Heap} {locs : List Loc} (hP : va_P D vwCl (WM ad cs σ) H) (hS : va_S (AM ad) s.heap H locs) {ls : Array Slot} (hl : lv_has ls 4 [(0, .ref (ad 0)), (1, .int x1)]) : W p l e R s m args below meth c H locs 0 0 (MQ below (QI D (TYM cs) (WM ad cs) (AM ad) res σ) args s 0 0 (AM ad)) (F0 m 0 ls []) := by
  have hx := C.1.1
  have hb := C.1.2.1
  unfold f_X10_brokenIn at hf
  refine lv_iconst (v := 0) hx hb dX10_brokenIn_0 (by decide) ?_
  refine lv_istore_n (lv' := [(2, .int 0), (0, .ref (ad 0)), (1, .int x1)]) hx hb dX10_brokenIn_1 rfl hl (by decide) rfl (fun ls hl => ?_)
  refine lv_iconst (v := 0) hx hb dX10_brokenIn_2 (by decide) ?_
  refine lv_istore_n (lv' := [(3, .int 0), (2, .int 0), (0, .ref (ad 0)), (1, .int x1)]) hx hb dX10_brokenIn_3 rfl hl (by decide) rfl (fun ls hl => ?_)
  exact wl_X10_brokenIn_4 C hr hlk hR fu _ _ _ _ _ hf hP hS (lv_sub hl [2, 3, 1, 0] rfl)
theorem kd_X10_brokenIn : yX10_brokenIn.cls = RX10 ∧ yX10_brokenIn.cls ≠ "java/lang/invoke/MethodHandle" ∧ yX10_brokenIn.cls ≠ "java/lang/invoke/VarHandle" ∧ (parseMethodDescriptor yX10_brokenIn.desc).map (fun d => d.parameters.length) = some 1 := by decide +kernel
def r_X10_brokenIn : Room := { frames := 1, cells := 0, slots := 0, locals := 25 }
set_option maxRecDepth 100000 in
set_option maxHeartbeats 4000000 in
theorem c_X10_brokenIn {l : Launch} {D : va_G} {ad : Nat → Nat} {cs : Nat → ClassId} (hD : ∀ σ, va_D (AM ad) (WM ad cs σ)) {σ : Sg} {x1 : Int32} {res : Int32} (hf : f_X10_brokenIn σ x1 = some res) : Met l yX10_brokenIn (wm yX10_brokenIn cX10_brokenIn 4 (some .int)) r_X10_brokenIn (va_Pc [.ref (ad 0), .int x1] (BW D (TYM cs) (WM ad cs) σ)) (QI D (TYM cs) (WM ad cs) (AM ad) res σ) 0 0 (AM ad) := by
  refine q_enter (by decide) hD (Nat.le_of_ble_eq_true rfl) ?_
  intro p e s m below meth c C hr hlk hP hS ls hl
  exact w_X10_brokenIn C hr hlk ⟨Nat.le_of_ble_eq_true rfl, Nat.le_of_ble_eq_true rfl⟩ hf hP hS hl

set_option maxRecDepth 100000 in
set_option maxHeartbeats 4000000 in
theorem w_X10_beginHours_2 (C : CX p m c cX10_beginHours 2 s args RX10 D (TYM cs) (WM ad cs) (AM ad)) (hr : meth.sig.returnType = none) (hlk : meth.locks = false) (hR : 0 ≤ R.frames ∧ 0 ≤ R.locals) {σ : Sg} {x1 : Int32} {res : Sg} {ag2 : Int32 → Sg → Option (Sg)} (hag2 : ∀ (x1 : Int32) (σ : Sg) (H : Heap) (locs : List Loc) (ls : Array Slot), ag2 x1 σ = some res → va_P D vwCl (WM ad cs σ) H → va_S (AM ad) s.heap H locs → lv_has ls 2 [(0, .ref (ad 0)), (1, .int x1)] → W p l e R s m args below meth c H locs 0 0 (MQ below (QV D (TYM cs) (WM ad cs) (AM ad) res) args s 0 0 (AM ad)) (F0 m 2 ls [])) (hf : f_X10_beginHours_2 ag2 σ x1 = some res) {H : Heap} {locs : List Loc} (hP : va_P D vwCl (WM ad cs σ) H) (hS : va_S (AM ad) s.heap H locs) {ls : Array Slot} (hl : lv_has ls 2 [(0, .ref (ad 0)), (1, .int x1)]) : W p l e R s m args below meth c H locs 0 0 (MQ below (QV D (TYM cs) (WM ad cs) (AM ad) res) args s 0 0 (AM ad)) (F0 m 2 ls []) := by
  have hx := C.1.1
  have hb := C.1.2.1
  unfold f_X10_beginHours_2 at hf
  refine lv_iload_n hx hb dX10_beginHours_2 rfl (lv_at hl 1 rfl) ?_
  refine lv_bipush (v := 8) hx hb dX10_beginHours_3 (by decide) ?_
  refine lv_icmp_ge (tgt := 29) hx hb dX10_beginHours_5 (by decide) (fun c1 => ?_) (fun c1 => ?_)
  · replace hf := zt c1 hf
    exact q_vret C hr hlk hP hS (Option.some.inj hf) dX10_beginHours_29
  · replace hf := zf c1 hf
    refine lv_aload_n hx hb dX10_beginHours_8 rfl (lv_at hl 0 rfl) ?_
    refine gX10_18 C hP k_682 dX10_beginHours_9 ?_
    refine lv_iload_n hx hb dX10_beginHours_12 rfl (lv_at hl 1 rfl) ?_
    refine lv_bipush (v := (-9)) hx hb dX10_beginHours_13 (by decide) ?_
    obtain ⟨h2, hf⟩ := zc hf
    refine astM C hP hS (n := 8) rfl h2 dX10_beginHours_15 (fun H locs hP hS => ?_)
    refine lv_aload_n hx hb dX10_beginHours_16 rfl (lv_at hl 0 rfl) ?_
    refine gX10_19 C hP k_683 dX10_beginHours_17 ?_
    refine lv_iload_n hx hb dX10_beginHours_20 rfl (lv_at hl 1 rfl) ?_
    refine lv_iconst (v := 0) hx hb dX10_beginHours_21 (by decide) ?_
    refine astM C hP hS (n := 8) rfl h2 dX10_beginHours_22 (fun H locs hP hS => ?_)
    refine lv_iinc (v := x1 + 1) (lv' := [(1, .int (x1 + 1)), (0, .ref (ad 0))]) hx hb dX10_beginHours_23 hl (k := 1) rfl rfl (by decide) rfl (fun ls hl => ?_)
    refine lv_goto (tgt := 2) hx hb dX10_beginHours_26 (by decide) ?_
    exact hag2 _ _ _ _ _ hf hP hS (lv_sub hl [1, 0] rfl)
set_option maxRecDepth 100000 in
set_option maxHeartbeats 4000000 in
theorem wl_X10_beginHours_2 (C : CX p m c cX10_beginHours 2 s args RX10 D (TYM cs) (WM ad cs) (AM ad)) (hr : meth.sig.returnType = none) (hlk : meth.locks = false) (hR : 0 ≤ R.frames ∧ 0 ≤ R.locals)  {res : Sg} : ∀ n : Nat, ∀ (x1 : Int32) (σ : Sg) (H : Heap) (locs : List Loc) (ls : Array Slot), l_X10_beginHours_2 n x1 σ = some res → va_P D vwCl (WM ad cs σ) H → va_S (AM ad) s.heap H locs → lv_has ls 2 [(0, .ref (ad 0)), (1, .int x1)] → W p l e R s m args below meth c H locs 0 0 (MQ below (QV D (TYM cs) (WM ad cs) (AM ad) res) args s 0 0 (AM ad)) (F0 m 2 ls []) := by
  intro n
  induction n with
  | zero => intro x1 σ H locs ls hf; cases hf
  | succ n ih =>
    intro x1 σ H locs ls hf hP hS hl
    exact w_X10_beginHours_2 C hr hlk hR (ag2 := l_X10_beginHours_2 n) ih hf hP hS hl
set_option maxRecDepth 100000 in
set_option maxHeartbeats 4000000 in
theorem w_X10_beginHours (C : CX p m c cX10_beginHours 2 s args RX10 D (TYM cs) (WM ad cs) (AM ad)) (hr : meth.sig.returnType = none) (hlk : meth.locks = false) (hR : 0 ≤ R.frames ∧ 0 ≤ R.locals) {σ : Sg}  {res : Sg} (hf : f_X10_beginHours σ = some res) {H : Heap} {locs : List Loc} (hP : va_P D vwCl (WM ad cs σ) H) (hS : va_S (AM ad) s.heap H locs) {ls : Array Slot} (hl : lv_has ls 2 [(0, .ref (ad 0))]) : W p l e R s m args below meth c H locs 0 0 (MQ below (QV D (TYM cs) (WM ad cs) (AM ad) res) args s 0 0 (AM ad)) (F0 m 0 ls []) := by
  have hx := C.1.1
  have hb := C.1.2.1
  unfold f_X10_beginHours at hf
  refine lv_iconst (v := 0) hx hb dX10_beginHours_0 (by decide) ?_
  refine lv_istore_n (lv' := [(1, .int 0), (0, .ref (ad 0))]) hx hb dX10_beginHours_1 rfl hl (by decide) rfl (fun ls hl => ?_)
  exact wl_X10_beginHours_2 C hr hlk hR fu _ _ _ _ _ hf hP hS (lv_sub hl [1, 0] rfl)
theorem kd_X10_beginHours : yX10_beginHours.cls = RX10 ∧ yX10_beginHours.cls ≠ "java/lang/invoke/MethodHandle" ∧ yX10_beginHours.cls ≠ "java/lang/invoke/VarHandle" ∧ (parseMethodDescriptor yX10_beginHours.desc).map (fun d => d.parameters.length) = some 0 := by decide +kernel
def r_X10_beginHours : Room := { frames := 0, cells := 0, slots := 0, locals := 0 }
set_option maxRecDepth 100000 in
set_option maxHeartbeats 4000000 in
theorem c_X10_beginHours {l : Launch} {D : va_G} {ad : Nat → Nat} {cs : Nat → ClassId} (hD : ∀ σ, va_D (AM ad) (WM ad cs σ)) {σ : Sg}  {res : Sg} (hf : f_X10_beginHours σ = some res) : Met l yX10_beginHours (wm yX10_beginHours cX10_beginHours 2 none) r_X10_beginHours (va_Pc [.ref (ad 0)] (BW D (TYM cs) (WM ad cs) σ)) (QV D (TYM cs) (WM ad cs) (AM ad) res) 0 0 (AM ad) := by
  refine q_enter (by decide) hD (Nat.le_of_ble_eq_true rfl) ?_
  intro p e s m below meth c C hr hlk hP hS ls hl
  exact w_X10_beginHours C hr hlk ⟨Nat.le_of_ble_eq_true rfl, Nat.le_of_ble_eq_true rfl⟩ hf hP hS hl

set_option maxRecDepth 100000 in
set_option maxHeartbeats 4000000 in
theorem w_X10_isTired (C : CX p m c cX10_isTired 3 s args RX10 D (TYM cs) (WM ad cs) (AM ad)) (hr : meth.sig.returnType = (some .boolean)) (hlk : meth.locks = false) (hR : 0 ≤ R.frames ∧ 0 ≤ R.locals) {σ : Sg} {x1 : Int32} {x2 : Int32} {res : Int32} (hf : f_X10_isTired σ x1 x2 = some res) {H : Heap} {locs : List Loc} (hP : va_P D vwCl (WM ad cs σ) H) (hS : va_S (AM ad) s.heap H locs) {ls : Array Slot} (hl : lv_has ls 3 [(0, .ref (ad 0)), (1, .int x1), (2, .int x2)]) : W p l e R s m args below meth c H locs 0 0 (MQ below (QI D (TYM cs) (WM ad cs) (AM ad) res σ) args s 0 0 (AM ad)) (F0 m 0 ls []) := by
  have hx := C.1.1
  have hb := C.1.2.1
  unfold f_X10_isTired at hf
  refine lv_aload_n hx hb dX10_isTired_0 rfl (lv_at hl 0 rfl) ?_
  refine gX10_18 C hP k_682 dX10_isTired_1 ?_
  refine lv_iload_n hx hb dX10_isTired_4 rfl (lv_at hl 2 rfl) ?_
  obtain ⟨h1, hf⟩ := zc hf
  refine aldM C hP (n := 8) rfl h1 dX10_isTired_5 ?_
  refine lv_iload_n hx hb dX10_isTired_6 rfl (lv_at hl 1 rfl) ?_
  refine lv_icmp_ne (tgt := 29) hx hb dX10_isTired_7 (by decide) (fun c2 => ?_) (fun c2 => ?_)
  · replace hf := zf c2 hf
    refine lv_iconst (v := 0) hx hb dX10_isTired_29 (by decide) ?_
    exact q_zret C hr hlk hP hS (congrArg (fun q => (q, σ)) (Option.some.inj hf)) (by decide) dX10_isTired_30
  · replace hf := zt c2 hf
    refine lv_aload_n hx hb dX10_isTired_10 rfl (lv_at hl 0 rfl) ?_
    refine gX10_19 C hP k_683 dX10_isTired_11 ?_
    refine lv_iload_n hx hb dX10_isTired_14 rfl (lv_at hl 2 rfl) ?_
    refine aldM C hP (n := 8) rfl h1 dX10_isTired_15 ?_
    refine lv_aload_n hx hb dX10_isTired_16 rfl (lv_at hl 0 rfl) ?_
    refine gX10_5 C hP k_669 dX10_isTired_17 ?_
    refine lv_iload_n hx hb dX10_isTired_20 rfl (lv_at hl 1 rfl) ?_
    obtain ⟨h3, hf⟩ := zc hf
    refine aldM C hP (n := 8) rfl h3 dX10_isTired_21 ?_
    refine lv_icmp_lt (tgt := 29) hx hb dX10_isTired_22 (by decide) (fun c4 => ?_) (fun c4 => ?_)
    · replace hf := zt c4 hf
      refine lv_iconst (v := 0) hx hb dX10_isTired_29 (by decide) ?_
      exact q_zret C hr hlk hP hS (congrArg (fun q => (q, σ)) (Option.some.inj hf)) (by decide) dX10_isTired_30
    · replace hf := zf c4 hf
      refine lv_iconst (v := 1) hx hb dX10_isTired_25 (by decide) ?_
      refine lv_goto (tgt := 30) hx hb dX10_isTired_26 (by decide) ?_
      exact q_zret C hr hlk hP hS (congrArg (fun q => (q, σ)) (Option.some.inj hf)) (by decide) dX10_isTired_30
theorem kd_X10_isTired : yX10_isTired.cls = RX10 ∧ yX10_isTired.cls ≠ "java/lang/invoke/MethodHandle" ∧ yX10_isTired.cls ≠ "java/lang/invoke/VarHandle" ∧ (parseMethodDescriptor yX10_isTired.desc).map (fun d => d.parameters.length) = some 2 := by decide +kernel
def r_X10_isTired : Room := { frames := 0, cells := 0, slots := 0, locals := 0 }
set_option maxRecDepth 100000 in
set_option maxHeartbeats 4000000 in
theorem c_X10_isTired {l : Launch} {D : va_G} {ad : Nat → Nat} {cs : Nat → ClassId} (hD : ∀ σ, va_D (AM ad) (WM ad cs σ)) {σ : Sg} {x1 : Int32} {x2 : Int32} {res : Int32} (hf : f_X10_isTired σ x1 x2 = some res) : Met l yX10_isTired (wm yX10_isTired cX10_isTired 3 (some .boolean)) r_X10_isTired (va_Pc [.ref (ad 0), .int x1, .int x2] (BW D (TYM cs) (WM ad cs) σ)) (QI D (TYM cs) (WM ad cs) (AM ad) res σ) 0 0 (AM ad) := by
  refine q_enter (by decide) hD (Nat.le_of_ble_eq_true rfl) ?_
  intro p e s m below meth c C hr hlk hP hS ls hl
  exact w_X10_isTired C hr hlk ⟨Nat.le_of_ble_eq_true rfl, Nat.le_of_ble_eq_true rfl⟩ hf hP hS hl

set_option maxRecDepth 100000 in
set_option maxHeartbeats 4000000 in
theorem w_X10_standsAhead_37 (C : CX p m c cX10_standsAhead 5 s args RX10 D (TYM cs) (WM ad cs) (AM ad)) (hr : meth.sig.returnType = (some .boolean)) (hlk : meth.locks = false) (hR : 0 ≤ R.frames ∧ 0 ≤ R.locals) {σ : Sg} {x1 : Int32} {x2 : Int32} {x4 : Int32} {s0 : Int32} {res : Int32} {ag5 : Int32 → Int32 → Option (Int32)} (hag5 : ∀ (x3 : Int32) (x4 : Int32) (H : Heap) (locs : List Loc) (ls : Array Slot), ag5 x3 x4 = some res → va_P D vwCl (WM ad cs σ) H → va_S (AM ad) s.heap H locs → lv_has ls 5 [(0, .ref (ad 0)), (1, .int x1), (2, .int x2), (3, .int x3), (4, .int x4)] → W p l e R s m args below meth c H locs 0 0 (MQ below (QI D (TYM cs) (WM ad cs) (AM ad) res σ) args s 0 0 (AM ad)) (F0 m 5 ls [])) (hf : f_X10_standsAhead_37 ag5 σ x1 x2 x4 s0 = some res) {H : Heap} {locs : List Loc} (hP : va_P D vwCl (WM ad cs σ) H) (hS : va_S (AM ad) s.heap H locs) {ls : Array Slot} (hl : lv_has ls 5 [(0, .ref (ad 0)), (1, .int x1), (2, .int x2), (4, .int x4)]) : W p l e R s m args below meth c H locs 0 0 (MQ below (QI D (TYM cs) (WM ad cs) (AM ad) res σ) args s 0 0 (AM ad)) (F0 m 37 ls [.int s0]) := by
  have hx := C.1.1
  have hb := C.1.2.1
  unfold f_X10_standsAhead_37 at hf
  refine lv_istore_n (lv' := [(3, .int s0), (0, .ref (ad 0)), (1, .int x1), (2, .int x2), (4, .int x4)]) hx hb dX10_standsAhead_37 rfl hl (by decide) rfl (fun ls hl => ?_)
  refine lv_iinc (v := x4 + 1) (lv' := [(4, .int (x4 + 1)), (3, .int s0), (0, .ref (ad 0)), (1, .int x1), (2, .int x2)]) hx hb dX10_standsAhead_38 hl (k := 4) rfl rfl (by decide) rfl (fun ls hl => ?_)
  refine lv_goto (tgt := 5) hx hb dX10_standsAhead_41 (by decide) ?_
  exact hag5 _ _ _ _ _ hf hP hS (lv_sub hl [2, 3, 4, 1, 0] rfl)
set_option maxRecDepth 100000 in
set_option maxHeartbeats 4000000 in
theorem w_X10_standsAhead_5 (C : CX p m c cX10_standsAhead 5 s args RX10 D (TYM cs) (WM ad cs) (AM ad)) (hr : meth.sig.returnType = (some .boolean)) (hlk : meth.locks = false) (hR : 0 ≤ R.frames ∧ 0 ≤ R.locals) {σ : Sg} {x1 : Int32} {x2 : Int32} {x3 : Int32} {x4 : Int32} {res : Int32} {ag5 : Int32 → Int32 → Option (Int32)} (hag5 : ∀ (x3 : Int32) (x4 : Int32) (H : Heap) (locs : List Loc) (ls : Array Slot), ag5 x3 x4 = some res → va_P D vwCl (WM ad cs σ) H → va_S (AM ad) s.heap H locs → lv_has ls 5 [(0, .ref (ad 0)), (1, .int x1), (2, .int x2), (3, .int x3), (4, .int x4)] → W p l e R s m args below meth c H locs 0 0 (MQ below (QI D (TYM cs) (WM ad cs) (AM ad) res σ) args s 0 0 (AM ad)) (F0 m 5 ls [])) (hf : f_X10_standsAhead_5 ag5 σ x1 x2 x3 x4 = some res) {H : Heap} {locs : List Loc} (hP : va_P D vwCl (WM ad cs σ) H) (hS : va_S (AM ad) s.heap H locs) {ls : Array Slot} (hl : lv_has ls 5 [(0, .ref (ad 0)), (1, .int x1), (2, .int x2), (3, .int x3), (4, .int x4)]) : W p l e R s m args below meth c H locs 0 0 (MQ below (QI D (TYM cs) (WM ad cs) (AM ad) res σ) args s 0 0 (AM ad)) (F0 m 5 ls []) := by
  have hx := C.1.1
  have hb := C.1.2.1
  unfold f_X10_standsAhead_5 at hf
  refine lv_iload hx hb dX10_standsAhead_5 (lv_at hl 4 rfl) ?_
  refine lv_iload_n hx hb dX10_standsAhead_7 rfl (lv_at hl 2 rfl) ?_
  refine lv_icmp_ge (tgt := 44) hx hb dX10_standsAhead_8 (by decide) (fun c1 => ?_) (fun c1 => ?_)
  · replace hf := zt c1 hf
    refine lv_iload_n hx hb dX10_standsAhead_44 rfl (lv_at hl 3 rfl) ?_
    obtain ⟨h2, hf⟩ := zc hf
    exact q_zret C hr hlk hP hS (congrArg (fun q => (q, σ)) (Option.some.inj hf)) h2 dX10_standsAhead_45
  · replace hf := zf c1 hf
    refine lv_iload_n hx hb dX10_standsAhead_11 rfl (lv_at hl 3 rfl) ?_
    refine lv_if_ne (tgt := 32) hx hb dX10_standsAhead_12 (by decide) (fun c3 => ?_) (fun c3 => ?_)
    · replace hf := zf c3 hf
      refine lv_iconst (v := 1) hx hb dX10_standsAhead_32 (by decide) ?_
      refine lv_goto (tgt := 37) hx hb dX10_standsAhead_33 (by decide) ?_
      exact w_X10_standsAhead_37 C hr hlk hR hag5 hf hP hS (lv_sub hl [0, 1, 2, 4] rfl)
    · replace hf := zt c3 hf
      refine lv_aload_n hx hb dX10_standsAhead_15 rfl (lv_at hl 0 rfl) ?_
      refine gX10_17 C hP k_681 dX10_standsAhead_16 ?_
      refine lv_iload hx hb dX10_standsAhead_19 (lv_at hl 4 rfl) ?_
      obtain ⟨h4, hf⟩ := zc hf
      refine aldM C hP (n := 8) rfl h4 dX10_standsAhead_21 ?_
      refine lv_iload_n hx hb dX10_standsAhead_22 rfl (lv_at hl 1 rfl) ?_
      refine lv_icmp_ne (tgt := 36) hx hb dX10_standsAhead_23 (by decide) (fun c5 => ?_) (fun c5 => ?_)
      · replace hf := zf c5 hf
        refine lv_iconst (v := 0) hx hb dX10_standsAhead_36 (by decide) ?_
        exact w_X10_standsAhead_37 C hr hlk hR hag5 hf hP hS (lv_sub hl [0, 1, 2, 4] rfl)
      · replace hf := zt c5 hf
        refine lv_iload hx hb dX10_standsAhead_26 (lv_at hl 4 rfl) ?_
        refine lv_iload_n hx hb dX10_standsAhead_28 rfl (lv_at hl 1 rfl) ?_
        refine lv_icmp_eq (tgt := 36) hx hb dX10_standsAhead_29 (by decide) (fun c6 => ?_) (fun c6 => ?_)
        · replace hf := zt c6 hf
          refine lv_iconst (v := 0) hx hb dX10_standsAhead_36 (by decide) ?_
          exact w_X10_standsAhead_37 C hr hlk hR hag5 hf hP hS (lv_sub hl [0, 1, 2, 4] rfl)
        · replace hf := zf c6 hf
          refine lv_iconst (v := 1) hx hb dX10_standsAhead_32 (by decide) ?_
          refine lv_goto (tgt := 37) hx hb dX10_standsAhead_33 (by decide) ?_
          exact w_X10_standsAhead_37 C hr hlk hR hag5 hf hP hS (lv_sub hl [0, 1, 2, 4] rfl)
set_option maxRecDepth 100000 in
set_option maxHeartbeats 4000000 in
theorem wl_X10_standsAhead_5 (C : CX p m c cX10_standsAhead 5 s args RX10 D (TYM cs) (WM ad cs) (AM ad)) (hr : meth.sig.returnType = (some .boolean)) (hlk : meth.locks = false) (hR : 0 ≤ R.frames ∧ 0 ≤ R.locals) {σ : Sg} {x1 : Int32} {x2 : Int32} {res : Int32} : ∀ n : Nat, ∀ (x3 : Int32) (x4 : Int32) (H : Heap) (locs : List Loc) (ls : Array Slot), l_X10_standsAhead_5 σ x1 x2 n x3 x4 = some res → va_P D vwCl (WM ad cs σ) H → va_S (AM ad) s.heap H locs → lv_has ls 5 [(0, .ref (ad 0)), (1, .int x1), (2, .int x2), (3, .int x3), (4, .int x4)] → W p l e R s m args below meth c H locs 0 0 (MQ below (QI D (TYM cs) (WM ad cs) (AM ad) res σ) args s 0 0 (AM ad)) (F0 m 5 ls []) := by
  intro n
  induction n with
  | zero => intro x3 x4 H locs ls hf; cases hf
  | succ n ih =>
    intro x3 x4 H locs ls hf hP hS hl
    exact w_X10_standsAhead_5 C hr hlk hR (ag5 := l_X10_standsAhead_5 σ x1 x2 n) ih hf hP hS hl
set_option maxRecDepth 100000 in
set_option maxHeartbeats 4000000 in
theorem w_X10_standsAhead (C : CX p m c cX10_standsAhead 5 s args RX10 D (TYM cs) (WM ad cs) (AM ad)) (hr : meth.sig.returnType = (some .boolean)) (hlk : meth.locks = false) (hR : 0 ≤ R.frames ∧ 0 ≤ R.locals) {σ : Sg} {x1 : Int32} {x2 : Int32} {res : Int32} (hf : f_X10_standsAhead σ x1 x2 = some res) {H : Heap} {locs : List Loc} (hP : va_P D vwCl (WM ad cs σ) H) (hS : va_S (AM ad) s.heap H locs) {ls : Array Slot} (hl : lv_has ls 5 [(0, .ref (ad 0)), (1, .int x1), (2, .int x2)]) : W p l e R s m args below meth c H locs 0 0 (MQ below (QI D (TYM cs) (WM ad cs) (AM ad) res σ) args s 0 0 (AM ad)) (F0 m 0 ls []) := by
  have hx := C.1.1
  have hb := C.1.2.1
  unfold f_X10_standsAhead at hf
  refine lv_iconst (v := 0) hx hb dX10_standsAhead_0 (by decide) ?_
  refine lv_istore_n (lv' := [(3, .int 0), (0, .ref (ad 0)), (1, .int x1), (2, .int x2)]) hx hb dX10_standsAhead_1 rfl hl (by decide) rfl (fun ls hl => ?_)
  refine lv_iconst (v := 0) hx hb dX10_standsAhead_2 (by decide) ?_
  refine lv_istore (lv' := [(4, .int 0), (3, .int 0), (0, .ref (ad 0)), (1, .int x1), (2, .int x2)]) hx hb dX10_standsAhead_3 hl (by decide) rfl (fun ls hl => ?_)
  exact wl_X10_standsAhead_5 C hr hlk hR fu _ _ _ _ _ hf hP hS (lv_sub hl [2, 3, 4, 1, 0] rfl)
theorem kd_X10_standsAhead : yX10_standsAhead.cls = RX10 ∧ yX10_standsAhead.cls ≠ "java/lang/invoke/MethodHandle" ∧ yX10_standsAhead.cls ≠ "java/lang/invoke/VarHandle" ∧ (parseMethodDescriptor yX10_standsAhead.desc).map (fun d => d.parameters.length) = some 2 := by decide +kernel
def r_X10_standsAhead : Room := { frames := 0, cells := 0, slots := 0, locals := 0 }
set_option maxRecDepth 100000 in
set_option maxHeartbeats 4000000 in
theorem c_X10_standsAhead {l : Launch} {D : va_G} {ad : Nat → Nat} {cs : Nat → ClassId} (hD : ∀ σ, va_D (AM ad) (WM ad cs σ)) {σ : Sg} {x1 : Int32} {x2 : Int32} {res : Int32} (hf : f_X10_standsAhead σ x1 x2 = some res) : Met l yX10_standsAhead (wm yX10_standsAhead cX10_standsAhead 5 (some .boolean)) r_X10_standsAhead (va_Pc [.ref (ad 0), .int x1, .int x2] (BW D (TYM cs) (WM ad cs) σ)) (QI D (TYM cs) (WM ad cs) (AM ad) res σ) 0 0 (AM ad) := by
  refine q_enter (by decide) hD (Nat.le_of_ble_eq_true rfl) ?_
  intro p e s m below meth c C hr hlk hP hS ls hl
  exact w_X10_standsAhead C hr hlk ⟨Nat.le_of_ble_eq_true rfl, Nat.le_of_ble_eq_true rfl⟩ hf hP hS hl

set_option maxRecDepth 100000 in
set_option maxHeartbeats 4000000 in
theorem w_X10_standsFor_128 (C : CX p m c cX10_standsFor 8 s args RX10 D (TYM cs) (WM ad cs) (AM ad)) (hr : meth.sig.returnType = (some .int)) (hlk : meth.locks = false) (hR : 1 ≤ R.frames ∧ 24 ≤ R.locals) {σ : Sg} {x1 : Int32} {x2 : Int32} {x3 : Int32} {x5 : Int32} {s0 : Int32} {res : Int32} {ag16 : Int32 → Int32 → Int32 → Option (Int32)} (hag16 : ∀ (x3 : Int32) (x4 : Int32) (x5 : Int32) (H : Heap) (locs : List Loc) (ls : Array Slot), ag16 x3 x4 x5 = some res → va_P D vwCl (WM ad cs σ) H → va_S (AM ad) s.heap H locs → lv_has ls 8 [(0, .ref (ad 0)), (1, .int x1), (2, .int x2), (3, .int x3), (4, .int x4), (5, .int x5)] → W p l e R s m args below meth c H locs 0 0 (MQ below (QI D (TYM cs) (WM ad cs) (AM ad) res σ) args s 0 0 (AM ad)) (F0 m 16 ls [])) (hf : f_X10_standsFor_128 ag16 σ x1 x2 x3 x5 s0 = some res) {H : Heap} {locs : List Loc} (hP : va_P D vwCl (WM ad cs σ) H) (hS : va_S (AM ad) s.heap H locs) {ls : Array Slot} (hl : lv_has ls 8 [(0, .ref (ad 0)), (1, .int x1), (2, .int x2), (3, .int x3), (5, .int x5)]) : W p l e R s m args below meth c H locs 0 0 (MQ below (QI D (TYM cs) (WM ad cs) (AM ad) res σ) args s 0 0 (AM ad)) (F0 m 128 ls [.int s0]) := by
  have hx := C.1.1
  have hb := C.1.2.1
  unfold f_X10_standsFor_128 at hf
  refine lv_istore (lv' := [(4, .int s0), (0, .ref (ad 0)), (1, .int x1), (2, .int x2), (3, .int x3), (5, .int x5)]) hx hb dX10_standsFor_128 hl (by decide) rfl (fun ls hl => ?_)
  refine lv_aload_n hx hb dX10_standsFor_130 rfl (lv_at hl 1 rfl) ?_
  refine gX10_3 C hP k_667 dX10_standsFor_131 ?_
  refine lv_iload hx hb dX10_standsFor_134 (lv_at hl 5 rfl) ?_
  obtain ⟨h1, hf⟩ := zc hf
  refine aldM C hP (n := 8) rfl h1 dX10_standsFor_136 ?_
  refine lv_istore (lv' := [(5, .int (σ 2 x5.toNatClampNeg)), (4, .int s0), (0, .ref (ad 0)), (1, .int x1), (2, .int x2), (3, .int x3)]) hx hb dX10_standsFor_137 hl (by decide) rfl (fun ls hl => ?_)
  refine lv_goto (tgt := 16) hx hb dX10_standsFor_139 (by decide) ?_
  exact hag16 _ _ _ _ _ _ hf hP hS (lv_sub hl [2, 3, 4, 5, 1, 0] rfl)
set_option maxRecDepth 100000 in
set_option maxHeartbeats 4000000 in
theorem w_X10_standsFor_109 (C : CX p m c cX10_standsFor 8 s args RX10 D (TYM cs) (WM ad cs) (AM ad)) (hr : meth.sig.returnType = (some .int)) (hlk : meth.locks = false) (hR : 1 ≤ R.frames ∧ 24 ≤ R.locals) {σ : Sg} {x1 : Int32} {x2 : Int32} {x3 : Int32} {x4 : Int32} {x5 : Int32} {x6 : Int32} {s0 : Int32} {res : Int32} {ag16 : Int32 → Int32 → Int32 → Option (Int32)} (hag16 : ∀ (x3 : Int32) (x4 : Int32) (x5 : Int32) (H : Heap) (locs : List Loc) (ls : Array Slot), ag16 x3 x4 x5 = some res → va_P D vwCl (WM ad cs σ) H → va_S (AM ad) s.heap H locs → lv_has ls 8 [(0, .ref (ad 0)), (1, .int x1), (2, .int x2), (3, .int x3), (4, .int x4), (5, .int x5)] → W p l e R s m args below meth c H locs 0 0 (MQ below (QI D (TYM cs) (WM ad cs) (AM ad) res σ) args s 0 0 (AM ad)) (F0 m 16 ls [])) (hf : f_X10_standsFor_109 ag16 σ x1 x2 x3 x4 x5 x6 s0 = some res) {H : Heap} {locs : List Loc} (hP : va_P D vwCl (WM ad cs σ) H) (hS : va_S (AM ad) s.heap H locs) {ls : Array Slot} (hl : lv_has ls 8 [(0, .ref (ad 0)), (1, .int x1), (2, .int x2), (3, .int x3), (4, .int x4), (5, .int x5), (6, .int x6)]) : W p l e R s m args below meth c H locs 0 0 (MQ below (QI D (TYM cs) (WM ad cs) (AM ad) res σ) args s 0 0 (AM ad)) (F0 m 109 ls [.int s0]) := by
  have hx := C.1.1
  have hb := C.1.2.1
  unfold f_X10_standsFor_109 at hf
  refine lv_istore (lv' := [(7, .int s0), (0, .ref (ad 0)), (1, .int x1), (2, .int x2), (3, .int x3), (4, .int x4), (5, .int x5), (6, .int x6)]) hx hb dX10_standsFor_109 hl (by decide) rfl (fun ls hl => ?_)
  refine lv_iload hx hb dX10_standsFor_111 (lv_at hl 7 rfl) ?_
  refine lv_if_eq (tgt := 126) hx hb dX10_standsFor_113 (by decide) (fun c1 => ?_) (fun c1 => ?_)
  · replace hf := zt c1 hf
    refine lv_iload hx hb dX10_standsFor_126 (lv_at hl 5 rfl) ?_
    exact w_X10_standsFor_128 C hr hlk hR hag16 hf hP hS (lv_sub hl [1, 2, 3, 4, 6] rfl)
  · replace hf := zf c1 hf
    refine lv_iload hx hb dX10_standsFor_116 (lv_at hl 0 rfl) ?_
    refine lv_if_eq (tgt := 126) hx hb dX10_standsFor_118 (by decide) (fun c2 => ?_) (fun c2 => ?_)
    · replace hf := zt c2 hf
      refine lv_iload hx hb dX10_standsFor_126 (lv_at hl 5 rfl) ?_
      exact w_X10_standsFor_128 C hr hlk hR hag16 hf hP hS (lv_sub hl [1, 2, 3, 4, 6] rfl)
    · replace hf := zf c2 hf
      refine lv_iload hx hb dX10_standsFor_121 (lv_at hl 6 rfl) ?_
      refine lv_goto (tgt := 128) hx hb dX10_standsFor_123 (by decide) ?_
      exact w_X10_standsFor_128 C hr hlk hR hag16 hf hP hS (lv_sub hl [1, 2, 3, 4, 6] rfl)
set_option maxRecDepth 100000 in
set_option maxHeartbeats 4000000 in
theorem w_X10_standsFor_74 (C : CX p m c cX10_standsFor 8 s args RX10 D (TYM cs) (WM ad cs) (AM ad)) (hr : meth.sig.returnType = (some .int)) (hlk : meth.locks = false) (hR : 1 ≤ R.frames ∧ 24 ≤ R.locals) {σ : Sg} {x1 : Int32} {x2 : Int32} {x3 : Int32} {x4 : Int32} {x5 : Int32} {s0 : Int32} {res : Int32} {ag16 : Int32 → Int32 → Int32 → Option (Int32)} (hag16 : ∀ (x3 : Int32) (x4 : Int32) (x5 : Int32) (H : Heap) (locs : List Loc) (ls : Array Slot), ag16 x3 x4 x5 = some res → va_P D vwCl (WM ad cs σ) H → va_S (AM ad) s.heap H locs → lv_has ls 8 [(0, .ref (ad 0)), (1, .int x1), (2, .int x2), (3, .int x3), (4, .int x4), (5, .int x5)] → W p l e R s m args below meth c H locs 0 0 (MQ below (QI D (TYM cs) (WM ad cs) (AM ad) res σ) args s 0 0 (AM ad)) (F0 m 16 ls [])) (hf : f_X10_standsFor_74 ag16 σ x1 x2 x3 x4 x5 s0 = some res) {H : Heap} {locs : List Loc} (hP : va_P D vwCl (WM ad cs σ) H) (hS : va_S (AM ad) s.heap H locs) {ls : Array Slot} (hl : lv_has ls 8 [(0, .ref (ad 0)), (1, .int x1), (2, .int x2), (3, .int x3), (4, .int x4), (5, .int x5)]) : W p l e R s m args below meth c H locs 0 0 (MQ below (QI D (TYM cs) (WM ad cs) (AM ad) res σ) args s 0 0 (AM ad)) (F0 m 74 ls [.int s0]) := by
  have hx := C.1.1
  have hb := C.1.2.1
  unfold f_X10_standsFor_74 at hf
  refine lv_istore (lv' := [(6, .int s0), (0, .ref (ad 0)), (1, .int x1), (2, .int x2), (3, .int x3), (4, .int x4), (5, .int x5)]) hx hb dX10_standsFor_74 hl (by decide) rfl (fun ls hl => ?_)
  refine lv_iload hx hb dX10_standsFor_76 (lv_at hl 5 rfl) ?_
  refine lv_if_lt (tgt := 104) hx hb dX10_standsFor_78 (by decide) (fun c1 => ?_) (fun c1 => ?_)
  · replace hf := zt c1 hf
    refine lv_iconst (v := 1) hx hb dX10_standsFor_104 (by decide) ?_
    refine lv_goto (tgt := 109) hx hb dX10_standsFor_105 (by decide) ?_
    exact w_X10_standsFor_109 C hr hlk hR hag16 hf hP hS (lv_sub hl [1, 2, 3, 4, 5, 6, 0] rfl)
  · replace hf := zf c1 hf
    refine lv_aload_n hx hb dX10_standsFor_81 rfl (lv_at hl 1 rfl) ?_
    refine gX10_6 C hP k_670 dX10_standsFor_82 ?_
    refine lv_iconst (v := 2) hx hb dX10_standsFor_85 (by decide) ?_
    refine lv_icmp_ne (tgt := 108) hx hb dX10_standsFor_86 (by decide) (fun c2 => ?_) (fun c2 => ?_)
    · replace hf := zf c2 hf
      refine lv_iconst (v := 0) hx hb dX10_standsFor_108 (by decide) ?_
      exact w_X10_standsFor_109 C hr hlk hR hag16 hf hP hS (lv_sub hl [1, 2, 3, 4, 5, 6, 0] rfl)
    · replace hf := zt c2 hf
      refine lv_aload_n hx hb dX10_standsFor_89 rfl (lv_at hl 1 rfl) ?_
      refine lv_iload hx hb dX10_standsFor_90 (lv_at hl 6 rfl) ?_
      obtain ⟨r4, hg3, hf⟩ := zb hf
      try dsimp only at hf
      refine q_calli C hS (q_runV C hP (c_X10_goodOf (l := l) C.2.2.1 hg3) (ci := 9) (As := [.int x5]) (rest := []) ⟨gd_V k_803 k_805 k_24 k_53 k_806, ⟨rfl, rfl⟩, kd_X10_goodOf, ⟨Nat.le_trans (Nat.le_of_ble_eq_true rfl) hR.1, Nat.le_trans (Nat.le_of_ble_eq_true rfl) hR.2⟩⟩ (o := 0) rfl rfl rfl rfl rfl (Nat.le_of_ble_eq_true rfl) hl.1 dX10_standsFor_92) (fun H locs hP hS => ?_)
      refine lv_aload_n hx hb dX10_standsFor_95 rfl (lv_at hl 1 rfl) ?_
      refine lv_iload hx hb dX10_standsFor_96 (lv_at hl 5 rfl) ?_
      obtain ⟨r6, hg5, hf⟩ := zb hf
      try dsimp only at hf
      refine q_calli C hS (q_runV C hP (c_X10_goodOf (l := l) C.2.2.1 hg5) (ci := 9) (As := [.int x4]) (rest := [.int r4]) ⟨gd_V k_803 k_805 k_24 k_53 k_806, ⟨rfl, rfl⟩, kd_X10_goodOf, ⟨Nat.le_trans (Nat.le_of_ble_eq_true rfl) hR.1, Nat.le_trans (Nat.le_of_ble_eq_true rfl) hR.2⟩⟩ (o := 0) rfl rfl rfl rfl rfl (Nat.le_of_ble_eq_true rfl) hl.1 dX10_standsFor_98) (fun H locs hP hS => ?_)
      refine lv_icmp_le (tgt := 108) hx hb dX10_standsFor_101 (by decide) (fun c7 => ?_) (fun c7 => ?_)
      · replace hf := zt c7 hf
        refine lv_iconst (v := 0) hx hb dX10_standsFor_108 (by decide) ?_
        exact w_X10_standsFor_109 C hr hlk hR hag16 hf hP hS (lv_sub hl [1, 2, 3, 4, 5, 6, 0] rfl)
      · replace hf := zf c7 hf
        refine lv_iconst (v := 1) hx hb dX10_standsFor_104 (by decide) ?_
        refine lv_goto (tgt := 109) hx hb dX10_standsFor_105 (by decide) ?_
        exact w_X10_standsFor_109 C hr hlk hR hag16 hf hP hS (lv_sub hl [1, 2, 3, 4, 5, 6, 0] rfl)
set_option maxRecDepth 100000 in
set_option maxHeartbeats 4000000 in
theorem w_X10_standsFor_16 (C : CX p m c cX10_standsFor 8 s args RX10 D (TYM cs) (WM ad cs) (AM ad)) (hr : meth.sig.returnType = (some .int)) (hlk : meth.locks = false) (hR : 1 ≤ R.frames ∧ 24 ≤ R.locals) {σ : Sg} {x1 : Int32} {x2 : Int32} {x3 : Int32} {x4 : Int32} {x5 : Int32} {res : Int32} {ag16 : Int32 → Int32 → Int32 → Option (Int32)} (hag16 : ∀ (x3 : Int32) (x4 : Int32) (x5 : Int32) (H : Heap) (locs : List Loc) (ls : Array Slot), ag16 x3 x4 x5 = some res → va_P D vwCl (WM ad cs σ) H → va_S (AM ad) s.heap H locs → lv_has ls 8 [(0, .ref (ad 0)), (1, .int x1), (2, .int x2), (3, .int x3), (4, .int x4), (5, .int x5)] → W p l e R s m args below meth c H locs 0 0 (MQ below (QI D (TYM cs) (WM ad cs) (AM ad) res σ) args s 0 0 (AM ad)) (F0 m 16 ls [])) (hf : f_X10_standsFor_16 ag16 σ x1 x2 x3 x4 x5 = some res) {H : Heap} {locs : List Loc} (hP : va_P D vwCl (WM ad cs σ) H) (hS : va_S (AM ad) s.heap H locs) {ls : Array Slot} (hl : lv_has ls 8 [(0, .ref (ad 0)), (1, .int x1), (2, .int x2), (3, .int x3), (4, .int x4), (5, .int x5)]) : W p l e R s m args below meth c H locs 0 0 (MQ below (QI D (TYM cs) (WM ad cs) (AM ad) res σ) args s 0 0 (AM ad)) (F0 m 16 ls []) := by
  have hx := C.1.1
  have hb := C.1.2.1
  unfold f_X10_standsFor_16 at hf
  refine lv_iload_n hx hb dX10_standsFor_16 rfl (lv_at hl 3 rfl) ?_
  refine lv_iload hx hb dX10_standsFor_17 (lv_at hl 5 rfl) ?_
  obtain ⟨r2, hg1, hf⟩ := zb hf
  try dsimp only at hf
  refine q_calli C hS (q_runS C hP (c_X10_isIn (l := l) C.2.2.1 hg1) (As := [.int x3, .int x5]) (rest := []) ⟨gd_S k_847 k_848 k_53 k_849, ⟨rfl, rfl⟩, kd_X10_isIn, ⟨Nat.le_trans (Nat.le_of_ble_eq_true rfl) hR.1, Nat.le_trans (Nat.le_of_ble_eq_true rfl) hR.2⟩⟩ rfl rfl (Nat.le_of_ble_eq_true rfl) hl.1 dX10_standsFor_19) (fun H locs hP hS => ?_)
  refine lv_if_ne (tgt := 142) hx hb dX10_standsFor_22 (by decide) (fun c3 => ?_) (fun c3 => ?_)
  · replace hf := zf c3 hf
    refine lv_iload hx hb dX10_standsFor_142 (lv_at hl 4 rfl) ?_
    exact q_iret C hr hlk hP hS (congrArg (fun q => (q, σ)) (Option.some.inj hf)) dX10_standsFor_144
  · replace hf := zt c3 hf
    refine lv_iload_n hx hb dX10_standsFor_25 rfl (lv_at hl 3 rfl) ?_
    refine lv_iconst (v := 1) hx hb dX10_standsFor_26 (by decide) ?_
    refine lv_iload hx hb dX10_standsFor_27 (lv_at hl 5 rfl) ?_
    refine lv_ishl hx hb dX10_standsFor_29 ?_
    refine lv_ior hx hb dX10_standsFor_30 ?_
    refine lv_istore_n (lv' := [(3, .int (x3 ||| ((1 : Int32) <<< (x5 &&& 31)))), (0, .ref (ad 0)), (1, .int x1), (2, .int x2), (4, .int x4), (5, .int x5)]) hx hb dX10_standsFor_31 rfl hl (by decide) rfl (fun ls hl => ?_)
    refine lv_iload_n hx hb dX10_standsFor_32 rfl (lv_at hl 3 rfl) ?_
    refine lv_iload hx hb dX10_standsFor_33 (lv_at hl 5 rfl) ?_
    obtain ⟨r5, hg4, hf⟩ := zb hf
    try dsimp only at hf
    refine q_calli C hS (q_runS C hP (c_X10_isIn (l := l) C.2.2.1 hg4) (As := [.int x2, .int x5]) (rest := []) ⟨gd_S k_847 k_848 k_53 k_849, ⟨rfl, rfl⟩, kd_X10_isIn, ⟨Nat.le_trans (Nat.le_of_ble_eq_true rfl) hR.1, Nat.le_trans (Nat.le_of_ble_eq_true rfl) hR.2⟩⟩ rfl rfl (Nat.le_of_ble_eq_true rfl) hl.1 dX10_standsFor_35) (fun H locs hP hS => ?_)
    refine lv_if_ne (tgt := 73) hx hb dX10_standsFor_38 (by decide) (fun c6 => ?_) (fun c6 => ?_)
    · replace hf := zf c6 hf
      refine lv_iconst (v := 0) hx hb dX10_standsFor_73 (by decide) ?_
      exact w_X10_standsFor_74 C hr hlk hR hag16 hf hP hS (lv_sub hl [1, 2, 3, 0, 4, 5] rfl)
    · replace hf := zt c6 hf
      refine lv_aload_n hx hb dX10_standsFor_41 rfl (lv_at hl 1 rfl) ?_
      refine lv_iload hx hb dX10_standsFor_42 (lv_at hl 5 rfl) ?_
      refine lv_iload_n hx hb dX10_standsFor_44 rfl (lv_at hl 2 rfl) ?_
      obtain ⟨r8, hg7, hf⟩ := zb hf
      try dsimp only at hf
      refine q_calli C hS (q_runV C hP (c_X10_isTired (l := l) C.2.2.1 hg7) (ci := 9) (As := [.int x5, .int x1]) (rest := []) ⟨gd_V k_854 k_856 k_30 k_53 k_857, ⟨rfl, rfl⟩, kd_X10_isTired, ⟨Nat.le_trans (Nat.le_of_ble_eq_true rfl) hR.1, Nat.le_trans (Nat.le_of_ble_eq_true rfl) hR.2⟩⟩ (o := 0) rfl rfl rfl rfl rfl (Nat.le_of_ble_eq_true rfl) hl.1 dX10_standsFor_45) (fun H locs hP hS => ?_)
      refine lv_if_ne (tgt := 73) hx hb dX10_standsFor_48 (by decide) (fun c9 => ?_) (fun c9 => ?_)
      · replace hf := zf c9 hf
        refine lv_iconst (v := 0) hx hb dX10_standsFor_73 (by decide) ?_
        exact w_X10_standsFor_74 C hr hlk hR hag16 hf hP hS (lv_sub hl [1, 2, 3, 0, 4, 5] rfl)
      · replace hf := zt c9 hf
        refine lv_aload_n hx hb dX10_standsFor_51 rfl (lv_at hl 1 rfl) ?_
        refine gX10_6 C hP k_670 dX10_standsFor_52 ?_
        refine lv_iconst (v := 1) hx hb dX10_standsFor_55 (by decide) ?_
        refine lv_icmp_ne (tgt := 69) hx hb dX10_standsFor_56 (by decide) (fun c10 => ?_) (fun c10 => ?_)
        · replace hf := zf c10 hf
          refine lv_iconst (v := 1) hx hb dX10_standsFor_69 (by decide) ?_
          refine lv_goto (tgt := 74) hx hb dX10_standsFor_70 (by decide) ?_
          exact w_X10_standsFor_74 C hr hlk hR hag16 hf hP hS (lv_sub hl [1, 2, 3, 0, 4, 5] rfl)
        · replace hf := zt c10 hf
          refine lv_aload_n hx hb dX10_standsFor_59 rfl (lv_at hl 1 rfl) ?_
          refine lv_iload hx hb dX10_standsFor_60 (lv_at hl 5 rfl) ?_
          refine lv_iload_n hx hb dX10_standsFor_62 rfl (lv_at hl 2 rfl) ?_
          obtain ⟨r12, hg11, hf⟩ := zb hf
          try dsimp only at hf
          refine q_calli C hS (q_runV C hP (c_X10_standsAhead (l := l) C.2.2.1 hg11) (ci := 9) (As := [.int x5, .int x1]) (rest := []) ⟨gd_V k_858 k_860 k_31 k_53 k_861, ⟨rfl, rfl⟩, kd_X10_standsAhead, ⟨Nat.le_trans (Nat.le_of_ble_eq_true rfl) hR.1, Nat.le_trans (Nat.le_of_ble_eq_true rfl) hR.2⟩⟩ (o := 0) rfl rfl rfl rfl rfl (Nat.le_of_ble_eq_true rfl) hl.1 dX10_standsFor_63) (fun H locs hP hS => ?_)
          refine lv_if_ne (tgt := 73) hx hb dX10_standsFor_66 (by decide) (fun c13 => ?_) (fun c13 => ?_)
          · replace hf := zf c13 hf
            refine lv_iconst (v := 0) hx hb dX10_standsFor_73 (by decide) ?_
            exact w_X10_standsFor_74 C hr hlk hR hag16 hf hP hS (lv_sub hl [1, 2, 3, 0, 4, 5] rfl)
          · replace hf := zt c13 hf
            refine lv_iconst (v := 1) hx hb dX10_standsFor_69 (by decide) ?_
            refine lv_goto (tgt := 74) hx hb dX10_standsFor_70 (by decide) ?_
            exact w_X10_standsFor_74 C hr hlk hR hag16 hf hP hS (lv_sub hl [1, 2, 3, 0, 4, 5] rfl)
set_option maxRecDepth 100000 in
set_option maxHeartbeats 4000000 in
theorem wl_X10_standsFor_16 (C : CX p m c cX10_standsFor 8 s args RX10 D (TYM cs) (WM ad cs) (AM ad)) (hr : meth.sig.returnType = (some .int)) (hlk : meth.locks = false) (hR : 1 ≤ R.frames ∧ 24 ≤ R.locals) {σ : Sg} {x1 : Int32} {x2 : Int32} {res : Int32} : ∀ n : Nat, ∀ (x3 : Int32) (x4 : Int32) (x5 : Int32) (H : Heap) (locs : List Loc) (ls : Array Slot), l_X10_standsFor_16 σ x1 x2 n x3 x4 x5 = some res → va_P D vwCl (WM ad cs σ) H → va_S (AM ad) s.heap H locs → lv_has ls 8 [(0, .ref (ad 0)), (1, .int x1), (2, .int x2), (3, .int x3), (4, .int x4), (5, .int x5)] → W p l e R s m args below meth c H locs 0 0 (MQ below (QI D (TYM cs) (WM ad cs) (AM ad) res σ) args s 0 0 (AM ad)) (F0 m 16 ls []) := by
  intro n
  induction n with
  | zero => intro x3 x4 x5 H locs ls hf; cases hf
  | succ n ih =>
    intro x3 x4 x5 H locs ls hf hP hS hl
    exact w_X10_standsFor_16 C hr hlk hR (ag16 := l_X10_standsFor_16 σ x1 x2 n) ih hf hP hS hl
set_option maxRecDepth 100000 in
set_option maxHeartbeats 4000000 in
theorem w_X10_standsFor (C : CX p m c cX10_standsFor 8 s args RX10 D (TYM cs) (WM ad cs) (AM ad)) (hr : meth.sig.returnType = (some .int)) (hlk : meth.locks = false) (hR : 1 ≤ R.frames ∧ 24 ≤ R.locals) {σ : Sg} {x1 : Int32} {x2 : Int32} {res : Int32} (hf : f_X10_standsFor σ x1 x2 = some res) {H : Heap} {locs : List Loc} (hP : va_P D vwCl (WM ad cs σ) H) (hS : va_S (AM ad) s.heap H locs) {ls : Array Slot} (hl : lv_has ls 8 [(0, .ref (ad 0)), (1, .int x1), (2, .int x2)]) : W p l e R s m args below meth c H locs 0 0 (MQ below (QI D (TYM cs) (WM ad cs) (AM ad) res σ) args s 0 0 (AM ad)) (F0 m 0 ls []) := by
  have hx := C.1.1
  have hb := C.1.2.1
  unfold f_X10_standsFor at hf
  refine lv_iconst (v := 1) hx hb dX10_standsFor_0 (by decide) ?_
  refine lv_iload_n hx hb dX10_standsFor_1 rfl (lv_at hl 1 rfl) ?_
  refine lv_ishl hx hb dX10_standsFor_2 ?_
  refine lv_istore_n (lv' := [(3, .int ((1 : Int32) <<< (x1 &&& 31))), (0, .ref (ad 0)), (1, .int x1), (2, .int x2)]) hx hb dX10_standsFor_3 rfl hl (by decide) rfl (fun ls hl => ?_)
  refine lv_bipush (v := (-9)) hx hb dX10_standsFor_4 (by decide) ?_
  refine lv_istore (lv' := [(4, .int (-9)), (3, .int ((1 : Int32) <<< (x1 &&& 31))), (0, .ref (ad 0)), (1, .int x1), (2, .int x2)]) hx hb dX10_standsFor_6 hl (by decide) rfl (fun ls hl => ?_)
  refine lv_aload_n hx hb dX10_standsFor_8 rfl (lv_at hl 2 rfl) ?_
  refine gX10_3 C hP k_667 dX10_standsFor_9 ?_
  refine lv_iload_n hx hb dX10_standsFor_12 rfl (lv_at hl 3 rfl) ?_
  obtain ⟨h1, hf⟩ := zc hf
  refine aldM C hP (n := 8) rfl h1 dX10_standsFor_13 ?_
  refine lv_istore (lv' := [(5, .int (σ 2 x1.toNatClampNeg)), (4, .int (-9)), (3, .int ((1 : Int32) <<< (x1 &&& 31))), (0, .ref (ad 0)), (1, .int x1), (2, .int x2)]) hx hb dX10_standsFor_14 hl (by decide) rfl (fun ls hl => ?_)
  exact wl_X10_standsFor_16 C hr hlk hR fu _ _ _ _ _ _ hf hP hS (lv_sub hl [3, 4, 5, 2, 1, 0] rfl)
theorem kd_X10_standsFor : yX10_standsFor.cls = RX10 ∧ yX10_standsFor.cls ≠ "java/lang/invoke/MethodHandle" ∧ yX10_standsFor.cls ≠ "java/lang/invoke/VarHandle" ∧ (parseMethodDescriptor yX10_standsFor.desc).map (fun d => d.parameters.length) = some 2 := by decide +kernel
def r_X10_standsFor : Room := { frames := 1, cells := 0, slots := 0, locals := 24 }
set_option maxRecDepth 100000 in
set_option maxHeartbeats 4000000 in
theorem c_X10_standsFor {l : Launch} {D : va_G} {ad : Nat → Nat} {cs : Nat → ClassId} (hD : ∀ σ, va_D (AM ad) (WM ad cs σ)) {σ : Sg} {x1 : Int32} {x2 : Int32} {res : Int32} (hf : f_X10_standsFor σ x1 x2 = some res) : Met l yX10_standsFor (wm yX10_standsFor cX10_standsFor 8 (some .int)) r_X10_standsFor (va_Pc [.ref (ad 0), .int x1, .int x2] (BW D (TYM cs) (WM ad cs) σ)) (QI D (TYM cs) (WM ad cs) (AM ad) res σ) 0 0 (AM ad) := by
  refine q_enter (by decide) hD (Nat.le_of_ble_eq_true rfl) ?_
  intro p e s m below meth c C hr hlk hP hS ls hl
  exact w_X10_standsFor C hr hlk ⟨Nat.le_of_ble_eq_true rfl, Nat.le_of_ble_eq_true rfl⟩ hf hP hS hl

set_option maxRecDepth 100000 in
set_option maxHeartbeats 4000000 in
theorem w_X10_goHour_33 (C : CX p m c cX10_goHour 4 s args RX10 D (TYM cs) (WM ad cs) (AM ad)) (hr : meth.sig.returnType = none) (hlk : meth.locks = false) (hR : 2 ≤ R.frames ∧ 51 ≤ R.locals) {σ : Sg} {x1 : Int32} {x2 : Int32} {s0 : Int32} {s1 : Int32} {res : Sg} {ag2 : Int32 → Sg → Option (Sg)} (hag2 : ∀ (x2 : Int32) (σ : Sg) (H : Heap) (locs : List Loc) (ls : Array Slot), ag2 x2 σ = some res → va_P D vwCl (WM ad cs σ) H → va_S (AM ad) s.heap H locs → lv_has ls 4 [(0, .ref (ad 0)), (1, .int x1), (2, .int x2)] → W p l e R s m args below meth c H locs 0 0 (MQ below (QV D (TYM cs) (WM ad cs) (AM ad) res) args s 0 0 (AM ad)) (F0 m 2 ls [])) (hf : f_X10_goHour_33 ag2 σ x1 x2 s0 s1 = some res) {H : Heap} {locs : List Loc} (hP : va_P D vwCl (WM ad cs σ) H) (hS : va_S (AM ad) s.heap H locs) {ls : Array Slot} (hl : lv_has ls 4 [(0, .ref (ad 0)), (1, .int x1), (2, .int x2)]) : W p l e R s m args below meth c H locs 0 0 (MQ below (QV D (TYM cs) (WM ad cs) (AM ad) res) args s 0 0 (AM ad)) (F0 m 33 ls [.int s0, .int s1, .ref (ad 12)]) := by
  have hx := C.1.1
  have hb := C.1.2.1
  unfold f_X10_goHour_33 at hf
  obtain ⟨h1, hf⟩ := zc hf
  refine astM C hP hS (n := 8) rfl h1 dX10_goHour_33 (fun H locs hP hS => ?_)
  refine lv_iinc (v := x2 + 1) (lv' := [(2, .int (x2 + 1)), (0, .ref (ad 0)), (1, .int x1)]) hx hb dX10_goHour_34 hl (k := 2) rfl rfl (by decide) rfl (fun ls hl => ?_)
  refine lv_goto (tgt := 2) hx hb dX10_goHour_37 (by decide) ?_
  exact hag2 _ _ _ _ _ hf hP hS (lv_sub hl [1, 2, 0] rfl)
set_option maxRecDepth 100000 in
set_option maxHeartbeats 4000000 in
theorem w_X10_goHour_111 (C : CX p m c cX10_goHour 4 s args RX10 D (TYM cs) (WM ad cs) (AM ad)) (hr : meth.sig.returnType = none) (hlk : meth.locks = false) (hR : 2 ≤ R.frames ∧ 51 ≤ R.locals) {σ : Sg} {x2 : Int32} {x3 : Int32} {s0 : Int32} {s1 : Int32} {res : Sg} {ag42 : Int32 → Sg → Option (Sg)} (hag42 : ∀ (x2 : Int32) (σ : Sg) (H : Heap) (locs : List Loc) (ls : Array Slot), ag42 x2 σ = some res → va_P D vwCl (WM ad cs σ) H → va_S (AM ad) s.heap H locs → lv_has ls 4 [(0, .ref (ad 0)), (2, .int x2)] → W p l e R s m args below meth c H locs 0 0 (MQ below (QV D (TYM cs) (WM ad cs) (AM ad) res) args s 0 0 (AM ad)) (F0 m 42 ls [])) (hf : f_X10_goHour_111 ag42 σ x2 x3 s0 s1 = some res) {H : Heap} {locs : List Loc} (hP : va_P D vwCl (WM ad cs σ) H) (hS : va_S (AM ad) s.heap H locs) {ls : Array Slot} (hl : lv_has ls 4 [(0, .ref (ad 0)), (2, .int x2), (3, .int x3)]) : W p l e R s m args below meth c H locs 0 0 (MQ below (QV D (TYM cs) (WM ad cs) (AM ad) res) args s 0 0 (AM ad)) (F0 m 111 ls [.int s0, .int s1, .ref (ad 14)]) := by
  have hx := C.1.1
  have hb := C.1.2.1
  unfold f_X10_goHour_111 at hf
  obtain ⟨h1, hf⟩ := zc hf
  refine astM C hP hS (n := 8) rfl h1 dX10_goHour_111 (fun H locs hP hS => ?_)
  refine lv_aload_n hx hb dX10_goHour_112 rfl (lv_at hl 0 rfl) ?_
  refine gX10_18 C hP k_682 dX10_goHour_113 ?_
  refine lv_iload_n hx hb dX10_goHour_116 rfl (lv_at hl 1 rfl) ?_
  refine lv_iload_n hx hb dX10_goHour_117 rfl (lv_at hl 2 rfl) ?_
  obtain ⟨h2, hf⟩ := zc hf
  refine astM C hP hS (n := 8) rfl h2 dX10_goHour_118 (fun H locs hP hS => ?_)
  refine lv_iinc (v := x2 + 1) (lv' := [(2, .int (x2 + 1)), (0, .ref (ad 0)), (3, .int x3)]) hx hb dX10_goHour_119 hl (k := 1) rfl rfl (by decide) rfl (fun ls hl => ?_)
  refine lv_goto (tgt := 42) hx hb dX10_goHour_122 (by decide) ?_
  exact hag42 _ _ _ _ _ hf hP hS (lv_sub hl [1, 0] rfl)
set_option maxRecDepth 100000 in
set_option maxHeartbeats 4000000 in
theorem w_X10_goHour_102 (C : CX p m c cX10_goHour 4 s args RX10 D (TYM cs) (WM ad cs) (AM ad)) (hr : meth.sig.returnType = none) (hlk : meth.locks = false) (hR : 2 ≤ R.frames ∧ 51 ≤ R.locals) {σ : Sg} {x2 : Int32} {x3 : Int32} {s0 : Int32} {res : Sg} {ag42 : Int32 → Sg → Option (Sg)} (hag42 : ∀ (x2 : Int32) (σ : Sg) (H : Heap) (locs : List Loc) (ls : Array Slot), ag42 x2 σ = some res → va_P D vwCl (WM ad cs σ) H → va_S (AM ad) s.heap H locs → lv_has ls 4 [(0, .ref (ad 0)), (2, .int x2)] → W p l e R s m args below meth c H locs 0 0 (MQ below (QV D (TYM cs) (WM ad cs) (AM ad) res) args s 0 0 (AM ad)) (F0 m 42 ls [])) (hf : f_X10_goHour_102 ag42 σ x2 x3 s0 = some res) {H : Heap} {locs : List Loc} (hP : va_P D vwCl (WM ad cs σ) H) (hS : va_S (AM ad) s.heap H locs) {ls : Array Slot} (hl : lv_has ls 4 [(0, .ref (ad 0)), (2, .int x2), (3, .int x3)]) : W p l e R s m args below meth c H locs 0 0 (MQ below (QV D (TYM cs) (WM ad cs) (AM ad) res) args s 0 0 (AM ad)) (F0 m 102 ls [.int s0, .ref (ad 14)]) := by
  have hx := C.1.1
  have hb := C.1.2.1
  unfold f_X10_goHour_102 at hf
  refine lv_iload_n hx hb dX10_goHour_102 rfl (lv_at hl 2 rfl) ?_
  refine lv_if_lt (tgt := 110) hx hb dX10_goHour_103 (by decide) (fun c1 => ?_) (fun c1 => ?_)
  · replace hf := zt c1 hf
    refine lv_iconst (v := 0) hx hb dX10_goHour_110 (by decide) ?_
    exact w_X10_goHour_111 C hr hlk hR hag42 hf hP hS (lv_sub hl [0, 1, 2] rfl)
  · replace hf := zf c1 hf
    refine lv_iconst (v := 1) hx hb dX10_goHour_106 (by decide) ?_
    refine lv_goto (tgt := 111) hx hb dX10_goHour_107 (by decide) ?_
    exact w_X10_goHour_111 C hr hlk hR hag42 hf hP hS (lv_sub hl [0, 1, 2] rfl)
set_option maxRecDepth 100000 in
set_option maxHeartbeats 4000000 in
theorem w_X10_goHour_71 (C : CX p m c cX10_goHour 4 s args RX10 D (TYM cs) (WM ad cs) (AM ad)) (hr : meth.sig.returnType = none) (hlk : meth.locks = false) (hR : 2 ≤ R.frames ∧ 51 ≤ R.locals) {σ : Sg} {x2 : Int32} {s0 : Int32} {res : Sg} {ag42 : Int32 → Sg → Option (Sg)} (hag42 : ∀ (x2 : Int32) (σ : Sg) (H : Heap) (locs : List Loc) (ls : Array Slot), ag42 x2 σ = some res → va_P D vwCl (WM ad cs σ) H → va_S (AM ad) s.heap H locs → lv_has ls 4 [(0, .ref (ad 0)), (2, .int x2)] → W p l e R s m args below meth c H locs 0 0 (MQ below (QV D (TYM cs) (WM ad cs) (AM ad) res) args s 0 0 (AM ad)) (F0 m 42 ls [])) (hf : f_X10_goHour_71 ag42 σ x2 s0 = some res) {H : Heap} {locs : List Loc} (hP : va_P D vwCl (WM ad cs σ) H) (hS : va_S (AM ad) s.heap H locs) {ls : Array Slot} (hl : lv_has ls 4 [(0, .ref (ad 0)), (2, .int x2)]) : W p l e R s m args below meth c H locs 0 0 (MQ below (QV D (TYM cs) (WM ad cs) (AM ad) res) args s 0 0 (AM ad)) (F0 m 71 ls [.int s0]) := by
  have hx := C.1.1
  have hb := C.1.2.1
  unfold f_X10_goHour_71 at hf
  refine lv_istore_n (lv' := [(3, .int s0), (0, .ref (ad 0)), (2, .int x2)]) hx hb dX10_goHour_71 rfl hl (by decide) rfl (fun ls hl => ?_)
  refine lv_aload_n hx hb dX10_goHour_72 rfl (lv_at hl 1 rfl) ?_
  refine gX10_19 C hP k_683 dX10_goHour_73 ?_
  refine lv_iload_n hx hb dX10_goHour_76 rfl (lv_at hl 2 rfl) ?_
  refine lv_iload_n hx hb dX10_goHour_77 rfl (lv_at hl 0 rfl) ?_
  refine lv_if_lt (tgt := 102) hx hb dX10_goHour_78 (by decide) (fun c1 => ?_) (fun c1 => ?_)
  · replace hf := zt c1 hf
    exact w_X10_goHour_102 C hr hlk hR hag42 hf hP hS (lv_sub hl [1, 2, 0] rfl)
  · replace hf := zf c1 hf
    refine lv_iload_n hx hb dX10_goHour_81 rfl (lv_at hl 0 rfl) ?_
    refine lv_aload_n hx hb dX10_goHour_82 rfl (lv_at hl 1 rfl) ?_
    refine gX10_18 C hP k_682 dX10_goHour_83 ?_
    refine lv_iload_n hx hb dX10_goHour_86 rfl (lv_at hl 2 rfl) ?_
    obtain ⟨h2, hf⟩ := zc hf
    refine aldM C hP (n := 8) rfl h2 dX10_goHour_87 ?_
    refine lv_icmp_ne (tgt := 102) hx hb dX10_goHour_88 (by decide) (fun c3 => ?_) (fun c3 => ?_)
    · replace hf := zf c3 hf
      exact w_X10_goHour_102 C hr hlk hR hag42 hf hP hS (lv_sub hl [1, 2, 0] rfl)
    · replace hf := zt c3 hf
      refine lv_aload_n hx hb dX10_goHour_91 rfl (lv_at hl 1 rfl) ?_
      refine gX10_19 C hP k_683 dX10_goHour_92 ?_
      refine lv_iload_n hx hb dX10_goHour_95 rfl (lv_at hl 2 rfl) ?_
      refine aldM C hP (n := 8) rfl h2 dX10_goHour_96 ?_
      refine lv_iconst (v := 1) hx hb dX10_goHour_97 (by decide) ?_
      refine lv_iadd hx hb dX10_goHour_98 ?_
      refine lv_goto (tgt := 111) hx hb dX10_goHour_99 (by decide) ?_
      exact w_X10_goHour_111 C hr hlk hR hag42 hf hP hS (lv_sub hl [1, 2, 0] rfl)
set_option maxRecDepth 100000 in
set_option maxHeartbeats 4000000 in
theorem w_X10_goHour_42 (C : CX p m c cX10_goHour 4 s args RX10 D (TYM cs) (WM ad cs) (AM ad)) (hr : meth.sig.returnType = none) (hlk : meth.locks = false) (hR : 2 ≤ R.frames ∧ 51 ≤ R.locals) {σ : Sg} {x2 : Int32} {res : Sg} {ag42 : Int32 → Sg → Option (Sg)} (hag42 : ∀ (x2 : Int32) (σ : Sg) (H : Heap) (locs : List Loc) (ls : Array Slot), ag42 x2 σ = some res → va_P D vwCl (WM ad cs σ) H → va_S (AM ad) s.heap H locs → lv_has ls 4 [(0, .ref (ad 0)), (2, .int x2)] → W p l e R s m args below meth c H locs 0 0 (MQ below (QV D (TYM cs) (WM ad cs) (AM ad) res) args s 0 0 (AM ad)) (F0 m 42 ls [])) (hf : f_X10_goHour_42 ag42 σ x2 = some res) {H : Heap} {locs : List Loc} (hP : va_P D vwCl (WM ad cs σ) H) (hS : va_S (AM ad) s.heap H locs) {ls : Array Slot} (hl : lv_has ls 4 [(0, .ref (ad 0)), (2, .int x2)]) : W p l e R s m args below meth c H locs 0 0 (MQ below (QV D (TYM cs) (WM ad cs) (AM ad) res) args s 0 0 (AM ad)) (F0 m 42 ls []) := by
  have hx := C.1.1
  have hb := C.1.2.1
  unfold f_X10_goHour_42 at hf
  refine lv_iload_n hx hb dX10_goHour_42 rfl (lv_at hl 1 rfl) ?_
  refine lv_aload_n hx hb dX10_goHour_43 rfl (lv_at hl 0 rfl) ?_
  refine gX10_1 C hP k_665 dX10_goHour_44 ?_
  refine lv_icmp_ge (tgt := 125) hx hb dX10_goHour_47 (by decide) (fun c1 => ?_) (fun c1 => ?_)
  · replace hf := zt c1 hf
    exact q_vret C hr hlk hP hS (Option.some.inj hf) dX10_goHour_125
  · replace hf := zf c1 hf
    refine lv_aload_n hx hb dX10_goHour_50 rfl (lv_at hl 0 rfl) ?_
    refine gX10_17 C hP k_681 dX10_goHour_51 ?_
    refine lv_iload_n hx hb dX10_goHour_54 rfl (lv_at hl 1 rfl) ?_
    obtain ⟨h2, hf⟩ := zc hf
    refine aldM C hP (n := 8) rfl h2 dX10_goHour_55 ?_
    refine lv_iload_n hx hb dX10_goHour_56 rfl (lv_at hl 1 rfl) ?_
    refine lv_icmp_ne (tgt := 65) hx hb dX10_goHour_57 (by decide) (fun c3 => ?_) (fun c3 => ?_)
    · replace hf := zf c3 hf
      refine lv_aload_n hx hb dX10_goHour_65 rfl (lv_at hl 0 rfl) ?_
      refine gX10_17 C hP k_681 dX10_goHour_66 ?_
      refine lv_iload_n hx hb dX10_goHour_69 rfl (lv_at hl 1 rfl) ?_
      refine aldM C hP (n := 8) rfl h2 dX10_goHour_70 ?_
      exact w_X10_goHour_71 C hr hlk hR hag42 hf hP hS (lv_sub hl [0, 1] rfl)
    · replace hf := zt c3 hf
      refine lv_bipush (v := (-9)) hx hb dX10_goHour_60 (by decide) ?_
      refine lv_goto (tgt := 71) hx hb dX10_goHour_62 (by decide) ?_
      exact w_X10_goHour_71 C hr hlk hR hag42 hf hP hS (lv_sub hl [0, 1] rfl)
set_option maxRecDepth 100000 in
set_option maxHeartbeats 4000000 in
theorem wl_X10_goHour_42 (C : CX p m c cX10_goHour 4 s args RX10 D (TYM cs) (WM ad cs) (AM ad)) (hr : meth.sig.returnType = none) (hlk : meth.locks = false) (hR : 2 ≤ R.frames ∧ 51 ≤ R.locals)  {res : Sg} : ∀ n : Nat, ∀ (x2 : Int32) (σ : Sg) (H : Heap) (locs : List Loc) (ls : Array Slot), l_X10_goHour_42 n x2 σ = some res → va_P D vwCl (WM ad cs σ) H → va_S (AM ad) s.heap H locs → lv_has ls 4 [(0, .ref (ad 0)), (2, .int x2)] → W p l e R s m args below meth c H locs 0 0 (MQ below (QV D (TYM cs) (WM ad cs) (AM ad) res) args s 0 0 (AM ad)) (F0 m 42 ls []) := by
  intro n
  induction n with
  | zero => intro x2 σ H locs ls hf; cases hf
  | succ n ih =>
    intro x2 σ H locs ls hf hP hS hl
    exact w_X10_goHour_42 C hr hlk hR (ag42 := l_X10_goHour_42 n) ih hf hP hS hl
set_option maxRecDepth 100000 in
set_option maxHeartbeats 4000000 in
theorem w_X10_goHour_2 (C : CX p m c cX10_goHour 4 s args RX10 D (TYM cs) (WM ad cs) (AM ad)) (hr : meth.sig.returnType = none) (hlk : meth.locks = false) (hR : 2 ≤ R.frames ∧ 51 ≤ R.locals) {σ : Sg} {x1 : Int32} {x2 : Int32} {res : Sg} {ag2 : Int32 → Sg → Option (Sg)} (hag2 : ∀ (x2 : Int32) (σ : Sg) (H : Heap) (locs : List Loc) (ls : Array Slot), ag2 x2 σ = some res → va_P D vwCl (WM ad cs σ) H → va_S (AM ad) s.heap H locs → lv_has ls 4 [(0, .ref (ad 0)), (1, .int x1), (2, .int x2)] → W p l e R s m args below meth c H locs 0 0 (MQ below (QV D (TYM cs) (WM ad cs) (AM ad) res) args s 0 0 (AM ad)) (F0 m 2 ls [])) (hf : f_X10_goHour_2 ag2 σ x1 x2 = some res) {H : Heap} {locs : List Loc} (hP : va_P D vwCl (WM ad cs σ) H) (hS : va_S (AM ad) s.heap H locs) {ls : Array Slot} (hl : lv_has ls 4 [(0, .ref (ad 0)), (1, .int x1), (2, .int x2)]) : W p l e R s m args below meth c H locs 0 0 (MQ below (QV D (TYM cs) (WM ad cs) (AM ad) res) args s 0 0 (AM ad)) (F0 m 2 ls []) := by
  have hx := C.1.1
  have hb := C.1.2.1
  unfold f_X10_goHour_2 at hf
  refine lv_iload_n hx hb dX10_goHour_2 rfl (lv_at hl 2 rfl) ?_
  refine lv_aload_n hx hb dX10_goHour_3 rfl (lv_at hl 0 rfl) ?_
  refine gX10_1 C hP k_665 dX10_goHour_4 ?_
  refine lv_icmp_ge (tgt := 40) hx hb dX10_goHour_7 (by decide) (fun c1 => ?_) (fun c1 => ?_)
  · replace hf := zt c1 hf
    refine lv_iconst (v := 0) hx hb dX10_goHour_40 (by decide) ?_
    refine lv_istore_n (lv' := [(2, .int 0), (0, .ref (ad 0)), (1, .int x1)]) hx hb dX10_goHour_41 rfl hl (by decide) rfl (fun ls hl => ?_)
    exact wl_X10_goHour_42 C hr hlk hR fu _ _ _ _ _ hf hP hS (lv_sub hl [1, 0] rfl)
  · replace hf := zf c1 hf
    refine lv_aload_n hx hb dX10_goHour_10 rfl (lv_at hl 0 rfl) ?_
    refine gX10_17 C hP k_681 dX10_goHour_11 ?_
    refine lv_iload_n hx hb dX10_goHour_14 rfl (lv_at hl 2 rfl) ?_
    refine lv_iload_n hx hb dX10_goHour_15 rfl (lv_at hl 1 rfl) ?_
    refine lv_iload_n hx hb dX10_goHour_16 rfl (lv_at hl 2 rfl) ?_
    obtain ⟨r3, hg2, hf⟩ := zb hf
    try dsimp only at hf
    refine q_calli C hS (q_runS C hP (c_X10_isIn (l := l) C.2.2.1 hg2) (As := [.int x1, .int x2]) (rest := [.int x2, .ref (ad 12)]) ⟨gd_S k_847 k_848 k_53 k_849, ⟨rfl, rfl⟩, kd_X10_isIn, ⟨Nat.le_trans (Nat.le_of_ble_eq_true rfl) hR.1, Nat.le_trans (Nat.le_of_ble_eq_true rfl) hR.2⟩⟩ rfl rfl (Nat.le_of_ble_eq_true rfl) hl.1 dX10_goHour_17) (fun H locs hP hS => ?_)
    refine lv_if_eq (tgt := 32) hx hb dX10_goHour_20 (by decide) (fun c4 => ?_) (fun c4 => ?_)
    · replace hf := zt c4 hf
      refine lv_iload_n hx hb dX10_goHour_32 rfl (lv_at hl 2 rfl) ?_
      exact w_X10_goHour_33 C hr hlk hR hag2 hf hP hS (lv_sub hl [0, 1, 2] rfl)
    · replace hf := zf c4 hf
      refine lv_aload_n hx hb dX10_goHour_23 rfl (lv_at hl 0 rfl) ?_
      refine lv_iload_n hx hb dX10_goHour_24 rfl (lv_at hl 2 rfl) ?_
      refine lv_iload_n hx hb dX10_goHour_25 rfl (lv_at hl 1 rfl) ?_
      obtain ⟨r6, hg5, hf⟩ := zb hf
      try dsimp only at hf
      refine q_calli C hS (q_runV C hP (c_X10_standsFor (l := l) C.2.2.1 hg5) (ci := 9) (As := [.int x2, .int x1]) (rest := [.int x2, .ref (ad 12)]) ⟨gd_V k_850 k_852 k_29 k_53 k_853, ⟨rfl, rfl⟩, kd_X10_standsFor, ⟨Nat.le_trans (Nat.le_of_ble_eq_true rfl) hR.1, Nat.le_trans (Nat.le_of_ble_eq_true rfl) hR.2⟩⟩ (o := 0) rfl rfl rfl rfl rfl (Nat.le_of_ble_eq_true rfl) hl.1 dX10_goHour_26) (fun H locs hP hS => ?_)
      refine lv_goto (tgt := 33) hx hb dX10_goHour_29 (by decide) ?_
      exact w_X10_goHour_33 C hr hlk hR hag2 hf hP hS (lv_sub hl [0, 1, 2] rfl)
set_option maxRecDepth 100000 in
set_option maxHeartbeats 4000000 in
theorem wl_X10_goHour_2 (C : CX p m c cX10_goHour 4 s args RX10 D (TYM cs) (WM ad cs) (AM ad)) (hr : meth.sig.returnType = none) (hlk : meth.locks = false) (hR : 2 ≤ R.frames ∧ 51 ≤ R.locals) {x1 : Int32} {res : Sg} : ∀ n : Nat, ∀ (x2 : Int32) (σ : Sg) (H : Heap) (locs : List Loc) (ls : Array Slot), l_X10_goHour_2 x1 n x2 σ = some res → va_P D vwCl (WM ad cs σ) H → va_S (AM ad) s.heap H locs → lv_has ls 4 [(0, .ref (ad 0)), (1, .int x1), (2, .int x2)] → W p l e R s m args below meth c H locs 0 0 (MQ below (QV D (TYM cs) (WM ad cs) (AM ad) res) args s 0 0 (AM ad)) (F0 m 2 ls []) := by
  intro n
  induction n with
  | zero => intro x2 σ H locs ls hf; cases hf
  | succ n ih =>
    intro x2 σ H locs ls hf hP hS hl
    exact w_X10_goHour_2 C hr hlk hR (ag2 := l_X10_goHour_2 x1 n) ih hf hP hS hl
set_option maxRecDepth 100000 in
set_option maxHeartbeats 4000000 in
theorem w_X10_goHour (C : CX p m c cX10_goHour 4 s args RX10 D (TYM cs) (WM ad cs) (AM ad)) (hr : meth.sig.returnType = none) (hlk : meth.locks = false) (hR : 2 ≤ R.frames ∧ 51 ≤ R.locals) {σ : Sg} {x1 : Int32} {res : Sg} (hf : f_X10_goHour σ x1 = some res) {H : Heap} {locs : List Loc} (hP : va_P D vwCl (WM ad cs σ) H) (hS : va_S (AM ad) s.heap H locs) {ls : Array Slot} (hl : lv_has ls 4 [(0, .ref (ad 0)), (1, .int x1)]) : W p l e R s m args below meth c H locs 0 0 (MQ below (QV D (TYM cs) (WM ad cs) (AM ad) res) args s 0 0 (AM ad)) (F0 m 0 ls []) := by
  have hx := C.1.1
  have hb := C.1.2.1
  unfold f_X10_goHour at hf
  refine lv_iconst (v := 0) hx hb dX10_goHour_0 (by decide) ?_
  refine lv_istore_n (lv' := [(2, .int 0), (0, .ref (ad 0)), (1, .int x1)]) hx hb dX10_goHour_1 rfl hl (by decide) rfl (fun ls hl => ?_)
  exact wl_X10_goHour_2 C hr hlk hR fu _ _ _ _ _ hf hP hS (lv_sub hl [1, 2, 0] rfl)
theorem kd_X10_goHour : yX10_goHour.cls = RX10 ∧ yX10_goHour.cls ≠ "java/lang/invoke/MethodHandle" ∧ yX10_goHour.cls ≠ "java/lang/invoke/VarHandle" ∧ (parseMethodDescriptor yX10_goHour.desc).map (fun d => d.parameters.length) = some 1 := by decide +kernel
def r_X10_goHour : Room := { frames := 2, cells := 0, slots := 0, locals := 51 }
set_option maxRecDepth 100000 in
set_option maxHeartbeats 4000000 in
theorem c_X10_goHour {l : Launch} {D : va_G} {ad : Nat → Nat} {cs : Nat → ClassId} (hD : ∀ σ, va_D (AM ad) (WM ad cs σ)) {σ : Sg} {x1 : Int32} {res : Sg} (hf : f_X10_goHour σ x1 = some res) : Met l yX10_goHour (wm yX10_goHour cX10_goHour 4 none) r_X10_goHour (va_Pc [.ref (ad 0), .int x1] (BW D (TYM cs) (WM ad cs) σ)) (QV D (TYM cs) (WM ad cs) (AM ad) res) 0 0 (AM ad) := by
  refine q_enter (by decide) hD (Nat.le_of_ble_eq_true rfl) ?_
  intro p e s m below meth c C hr hlk hP hS ls hl
  exact w_X10_goHour C hr hlk ⟨Nat.le_of_ble_eq_true rfl, Nat.le_of_ble_eq_true rfl⟩ hf hP hS hl

end

section
variable {p : Program} {l : Launch} {e : Env} {R : Room} {s : State} {m : MethodId} {args : Array Value} {below : List Frame} {meth : Method} {c : Code} {D : va_G} {ad : Nat → Nat} {cs : Nat → ClassId}
set_option maxRecDepth 100000 in
set_option maxHeartbeats 4000000 in
theorem w_X10_mend_119 (C : CX p m c cX10_mend 7 s args RX10 D (TYM cs) (WM ad cs) (AM ad)) (hr : meth.sig.returnType = (some .int)) (hlk : meth.locks = false) (hR : 6 ≤ R.frames ∧ 140 ≤ R.locals) {σ : Sg} {x1 : Int32} {x2 : Int32} {x4 : Int32} {x5 : Int32} {x6 : Int32} {s0 : Int32} {res : Int32 × Sg} {ag40 : Int32 → Int32 → Int32 → Sg → Option (Int32 × Sg)} (hag40 : ∀ (x2 : Int32) (x3 : Int32) (x4 : Int32) (σ : Sg) (H : Heap) (locs : List Loc) (ls : Array Slot), ag40 x2 x3 x4 σ = some res → va_P D vwCl (WM ad cs σ) H → va_S (AM ad) s.heap H locs → lv_has ls 7 [(0, .ref (ad 0)), (1, .int x1), (2, .int x2), (3, .int x3), (4, .int x4)] → W p l e R s m args below meth c H locs 0 0 (MQ below (QI D (TYM cs) (WM ad cs) (AM ad) res.1 res.2) args s 0 0 (AM ad)) (F0 m 40 ls [])) {ag61 : Int32 → Int32 → Int32 → Sg → Option (Int32 × Sg)} (hag61 : ∀ (x2 : Int32) (x3 : Int32) (x6 : Int32) (σ : Sg) (H : Heap) (locs : List Loc) (ls : Array Slot), ag61 x2 x3 x6 σ = some res → va_P D vwCl (WM ad cs σ) H → va_S (AM ad) s.heap H locs → lv_has ls 7 [(0, .ref (ad 0)), (1, .int x1), (2, .int x2), (3, .int x3), (4, .int x4), (5, .int x5), (6, .int x6)] → W p l e R s m args below meth c H locs 0 0 (MQ below (QI D (TYM cs) (WM ad cs) (AM ad) res.1 res.2) args s 0 0 (AM ad)) (F0 m 61 ls [])) (hf : f_X10_mend_119 ag40 ag61 σ x1 x2 x4 x5 x6 s0 = some res) {H : Heap} {locs : List Loc} (hP : va_P D vwCl (WM ad cs σ) H) (hS : va_S (AM ad) s.heap H locs) {ls : Array Slot} (hl : lv_has ls 7 [(0, .ref (ad 0)), (1, .int x1), (2, .int x2), (4, .int x4), (5, .int x5), (6, .int x6)]) : W p l e R s m args below meth c H locs 0 0 (MQ below (QI D (TYM cs) (WM ad cs) (AM ad) res.1 res.2) args s 0 0 (AM ad)) (F0 m 119 ls [.int s0]) := by
  have hx := C.1.1
  have hb := C.1.2.1
  unfold f_X10_mend_119 at hf
  refine lv_istore_n (lv' := [(3, .int s0), (0, .ref (ad 0)), (1, .int x1), (2, .int x2), (4, .int x4), (5, .int x5), (6, .int x6)]) hx hb dX10_mend_119 rfl hl (by decide) rfl (fun ls hl => ?_)
  refine lv_aload_n hx hb dX10_mend_120 rfl (lv_at hl 1 rfl) ?_
  refine gX10_20 C hP k_684 dX10_mend_121 ?_
  refine lv_iload_n hx hb dX10_mend_124 rfl (lv_at hl 3 rfl) ?_
  refine lv_icmp_ge (tgt := 135) hx hb dX10_mend_125 (by decide) (fun c1 => ?_) (fun c1 => ?_)
  · replace hf := zt c1 hf
    refine lv_iload_n hx hb dX10_mend_135 rfl (lv_at hl 3 rfl) ?_
    refine lv_istore_n (lv' := [(2, .int x2), (3, .int s0), (0, .ref (ad 0)), (1, .int x1), (4, .int x4), (5, .int x5), (6, .int x6)]) hx hb dX10_mend_136 rfl hl (by decide) rfl (fun ls hl => ?_)
    refine lv_iinc (v := x6 + 1) (lv' := [(6, .int (x6 + 1)), (2, .int x2), (3, .int s0), (0, .ref (ad 0)), (1, .int x1), (4, .int x4), (5, .int x5)]) hx hb dX10_mend_137 hl (k := 6) rfl rfl (by decide) rfl (fun ls hl => ?_)
    refine lv_goto (tgt := 61) hx hb dX10_mend_140 (by decide) ?_
    exact hag61 _ _ _ _ _ _ _ hf hP hS (lv_sub hl [3, 4, 1, 2, 5, 6, 0] rfl)
  · replace hf := zf c1 hf
    refine lv_aload_n hx hb dX10_mend_128 rfl (lv_at hl 1 rfl) ?_
    refine gX10_20 C hP k_684 dX10_mend_129 ?_
    refine lv_goto (tgt := 136) hx hb dX10_mend_132 (by decide) ?_
    refine lv_istore_n (lv' := [(2, .int (σ 0 20)), (3, .int s0), (0, .ref (ad 0)), (1, .int x1), (4, .int x4), (5, .int x5), (6, .int x6)]) hx hb dX10_mend_136 rfl hl (by decide) rfl (fun ls hl => ?_)
    refine lv_iinc (v := x6 + 1) (lv' := [(6, .int (x6 + 1)), (2, .int (σ 0 20)), (3, .int s0), (0, .ref (ad 0)), (1, .int x1), (4, .int x4), (5, .int x5)]) hx hb dX10_mend_137 hl (k := 6) rfl rfl (by decide) rfl (fun ls hl => ?_)
    refine lv_goto (tgt := 61) hx hb dX10_mend_140 (by decide) ?_
    exact hag61 _ _ _ _ _ _ _ hf hP hS (lv_sub hl [3, 4, 1, 2, 5, 6, 0] rfl)
set_option maxRecDepth 100000 in
set_option maxHeartbeats 4000000 in
theorem w_X10_mend_61 (C : CX p m c cX10_mend 7 s args RX10 D (TYM cs) (WM ad cs) (AM ad)) (hr : meth.sig.returnType = (some .int)) (hlk : meth.locks = false) (hR : 6 ≤ R.frames ∧ 140 ≤ R.locals) {σ : Sg} {x1 : Int32} {x2 : Int32} {x3 : Int32} {x4 : Int32} {x5 : Int32} {x6 : Int32} {res : Int32 × Sg} {ag40 : Int32 → Int32 → Int32 → Sg → Option (Int32 × Sg)} (hag40 : ∀ (x2 : Int32) (x3 : Int32) (x4 : Int32) (σ : Sg) (H : Heap) (locs : List Loc) (ls : Array Slot), ag40 x2 x3 x4 σ = some res → va_P D vwCl (WM ad cs σ) H → va_S (AM ad) s.heap H locs → lv_has ls 7 [(0, .ref (ad 0)), (1, .int x1), (2, .int x2), (3, .int x3), (4, .int x4)] → W p l e R s m args below meth c H locs 0 0 (MQ below (QI D (TYM cs) (WM ad cs) (AM ad) res.1 res.2) args s 0 0 (AM ad)) (F0 m 40 ls [])) {ag61 : Int32 → Int32 → Int32 → Sg → Option (Int32 × Sg)} (hag61 : ∀ (x2 : Int32) (x3 : Int32) (x6 : Int32) (σ : Sg) (H : Heap) (locs : List Loc) (ls : Array Slot), ag61 x2 x3 x6 σ = some res → va_P D vwCl (WM ad cs σ) H → va_S (AM ad) s.heap H locs → lv_has ls 7 [(0, .ref (ad 0)), (1, .int x1), (2, .int x2), (3, .int x3), (4, .int x4), (5, .int x5), (6, .int x6)] → W p l e R s m args below meth c H locs 0 0 (MQ below (QI D (TYM cs) (WM ad cs) (AM ad) res.1 res.2) args s 0 0 (AM ad)) (F0 m 61 ls [])) (hf : f_X10_mend_61 ag40 ag61 σ x1 x2 x3 x4 x5 x6 = some res) {H : Heap} {locs : List Loc} (hP : va_P D vwCl (WM ad cs σ) H) (hS : va_S (AM ad) s.heap H locs) {ls : Array Slot} (hl : lv_has ls 7 [(0, .ref (ad 0)), (1, .int x1), (2, .int x2), (3, .int x3), (4, .int x4), (5, .int x5), (6, .int x6)]) : W p l e R s m args below meth c H locs 0 0 (MQ below (QI D (TYM cs) (WM ad cs) (AM ad) res.1 res.2) args s 0 0 (AM ad)) (F0 m 61 ls []) := by
  have hx := C.1.1
  have hb := C.1.2.1
  unfold f_X10_mend_61 at hf
  refine lv_iload hx hb dX10_mend_61 (lv_at hl 6 rfl) ?_
  refine lv_aload_n hx hb dX10_mend_63 rfl (lv_at hl 0 rfl) ?_
  refine gX10_1 C hP k_665 dX10_mend_64 ?_
  refine lv_icmp_ge (tgt := 143) hx hb dX10_mend_67 (by decide) (fun c1 => ?_) (fun c1 => ?_)
  · replace hf := zt c1 hf
    refine lv_aload_n hx hb dX10_mend_143 rfl (lv_at hl 0 rfl) ?_
    refine gX10_3 C hP k_667 dX10_mend_144 ?_
    refine lv_iload hx hb dX10_mend_147 (lv_at hl 4 rfl) ?_
    refine lv_iload hx hb dX10_mend_149 (lv_at hl 5 rfl) ?_
    obtain ⟨h2, hf⟩ := zc hf
    refine astM C hP hS (n := 8) rfl h2 dX10_mend_151 (fun H locs hP hS => ?_)
    refine lv_iinc (v := x4 + 1) (lv' := [(4, .int (x4 + 1)), (0, .ref (ad 0)), (1, .int x1), (2, .int x2), (3, .int x3), (5, .int x5), (6, .int x6)]) hx hb dX10_mend_152 hl (k := 4) rfl rfl (by decide) rfl (fun ls hl => ?_)
    refine lv_goto (tgt := 40) hx hb dX10_mend_155 (by decide) ?_
    exact hag40 _ _ _ _ _ _ _ hf hP hS (lv_sub hl [1, 2, 3, 4, 0] rfl)
  · replace hf := zf c1 hf
    refine lv_iload hx hb dX10_mend_70 (lv_at hl 6 rfl) ?_
    refine lv_iload hx hb dX10_mend_72 (lv_at hl 4 rfl) ?_
    refine lv_icmp_eq (tgt := 137) hx hb dX10_mend_74 (by decide) (fun c3 => ?_) (fun c3 => ?_)
    · replace hf := zt c3 hf
      refine lv_iinc (v := x6 + 1) (lv' := [(6, .int (x6 + 1)), (0, .ref (ad 0)), (1, .int x1), (2, .int x2), (3, .int x3), (4, .int x4), (5, .int x5)]) hx hb dX10_mend_137 hl (k := 6) rfl rfl (by decide) rfl (fun ls hl => ?_)
      refine lv_goto (tgt := 61) hx hb dX10_mend_140 (by decide) ?_
      exact hag61 _ _ _ _ _ _ _ hf hP hS (lv_sub hl [1, 2, 3, 4, 5, 6, 0] rfl)
    · replace hf := zf c3 hf
      refine lv_iload hx hb dX10_mend_77 (lv_at hl 6 rfl) ?_
      refine lv_iload hx hb dX10_mend_79 (lv_at hl 5 rfl) ?_
      refine lv_icmp_eq (tgt := 137) hx hb dX10_mend_81 (by decide) (fun c4 => ?_) (fun c4 => ?_)
      · replace hf := zt c4 hf
        refine lv_iinc (v := x6 + 1) (lv' := [(6, .int (x6 + 1)), (0, .ref (ad 0)), (1, .int x1), (2, .int x2), (3, .int x3), (4, .int x4), (5, .int x5)]) hx hb dX10_mend_137 hl (k := 6) rfl rfl (by decide) rfl (fun ls hl => ?_)
        refine lv_goto (tgt := 61) hx hb dX10_mend_140 (by decide) ?_
        exact hag61 _ _ _ _ _ _ _ hf hP hS (lv_sub hl [1, 2, 3, 4, 5, 6, 0] rfl)
      · replace hf := zf c4 hf
        refine lv_aload_n hx hb dX10_mend_84 rfl (lv_at hl 0 rfl) ?_
        refine gX10_3 C hP k_667 dX10_mend_85 ?_
        refine lv_iload hx hb dX10_mend_88 (lv_at hl 4 rfl) ?_
        refine lv_iload hx hb dX10_mend_90 (lv_at hl 6 rfl) ?_
        obtain ⟨h5, hf⟩ := zc hf
        refine astM C hP hS (n := 8) rfl h5 dX10_mend_92 (fun H locs hP hS => ?_)
        refine lv_aload_n hx hb dX10_mend_93 rfl (lv_at hl 0 rfl) ?_
        refine lv_iconst (v := 2) hx hb dX10_mend_94 (by decide) ?_
        obtain ⟨⟨r7, σ8⟩, hg6, hf⟩ := zb hf
        try dsimp only at hf
        refine q_calli C hS (q_runV C hP (c_X10_frailest (l := l) C.2.2.1 hg6) (ci := 9) (As := [.int 2]) (rest := []) ⟨gd_V k_894 k_896 k_35 k_53 k_897, ⟨rfl, rfl⟩, kd_X10_frailest, ⟨Nat.le_trans (Nat.le_of_ble_eq_true rfl) hR.1, Nat.le_trans (Nat.le_of_ble_eq_true rfl) hR.2⟩⟩ (o := 0) rfl rfl rfl rfl rfl (Nat.le_of_ble_eq_true rfl) hl.1 dX10_mend_95) (fun H locs hP hS => ?_)
        refine lv_pop hx hb dX10_mend_98 rfl ?_
        refine lv_aload_n hx hb dX10_mend_99 rfl (lv_at hl 0 rfl) ?_
        refine gX10_20 C hP k_684 dX10_mend_100 ?_
        refine lv_iload_n hx hb dX10_mend_103 rfl (lv_at hl 2 rfl) ?_
        refine lv_icmp_ge (tgt := 118) hx hb dX10_mend_104 (by decide) (fun c9 => ?_) (fun c9 => ?_)
        · replace hf := zt c9 hf
          refine lv_iload_n hx hb dX10_mend_118 rfl (lv_at hl 3 rfl) ?_
          exact w_X10_mend_119 C hr hlk hR hag40 hag61 hf hP hS (lv_sub hl [0, 1, 2, 4, 5, 6] rfl)
        · replace hf := zf c9 hf
          refine lv_bipush (v := 10) hx hb dX10_mend_107 (by decide) ?_
          refine lv_iload hx hb dX10_mend_109 (lv_at hl 4 rfl) ?_
          refine lv_imul hx hb dX10_mend_111 ?_
          refine lv_iload hx hb dX10_mend_112 (lv_at hl 6 rfl) ?_
          refine lv_iadd hx hb dX10_mend_114 ?_
          refine lv_goto (tgt := 119) hx hb dX10_mend_115 (by decide) ?_
          exact w_X10_mend_119 C hr hlk hR hag40 hag61 hf hP hS (lv_sub hl [0, 1, 2, 4, 5, 6] rfl)
set_option maxRecDepth 100000 in
set_option maxHeartbeats 4000000 in
theorem wl_X10_mend_61 (C : CX p m c cX10_mend 7 s args RX10 D (TYM cs) (WM ad cs) (AM ad)) (hr : meth.sig.returnType = (some .int)) (hlk : meth.locks = false) (hR : 6 ≤ R.frames ∧ 140 ≤ R.locals) {x1 : Int32} {x4 : Int32} {x5 : Int32} {res : Int32 × Sg} {ag40 : Int32 → Int32 → Int32 → Sg → Option (Int32 × Sg)} (hag40 : ∀ (x2 : Int32) (x3 : Int32) (x4 : Int32) (σ : Sg) (H : Heap) (locs : List Loc) (ls : Array Slot), ag40 x2 x3 x4 σ = some res → va_P D vwCl (WM ad cs σ) H → va_S (AM ad) s.heap H locs → lv_has ls 7 [(0, .ref (ad 0)), (1, .int x1), (2, .int x2), (3, .int x3), (4, .int x4)] → W p l e R s m args below meth c H locs 0 0 (MQ below (QI D (TYM cs) (WM ad cs) (AM ad) res.1 res.2) args s 0 0 (AM ad)) (F0 m 40 ls [])) : ∀ n : Nat, ∀ (x2 : Int32) (x3 : Int32) (x6 : Int32) (σ : Sg) (H : Heap) (locs : List Loc) (ls : Array Slot), l_X10_mend_61 ag40 x1 x4 x5 n x2 x3 x6 σ = some res → va_P D vwCl (WM ad cs σ) H → va_S (AM ad) s.heap H locs → lv_has ls 7 [(0, .ref (ad 0)), (1, .int x1), (2, .int x2), (3, .int x3), (4, .int x4), (5, .int x5), (6, .int x6)] → W p l e R s m args below meth c H locs 0 0 (MQ below (QI D (TYM cs) (WM ad cs) (AM ad) res.1 res.2) args s 0 0 (AM ad)) (F0 m 61 ls []) := by
  intro n
  induction n with
  | zero => intro x2 x3 x6 σ H locs ls hf; cases hf
  | succ n ih =>
    intro x2 x3 x6 σ H locs ls hf hP hS hl
    exact w_X10_mend_61 C hr hlk hR hag40 (ag61 := l_X10_mend_61 ag40 x1 x4 x5 n) ih hf hP hS hl
set_option maxRecDepth 100000 in
set_option maxHeartbeats 4000000 in
theorem w_X10_mend_40 (C : CX p m c cX10_mend 7 s args RX10 D (TYM cs) (WM ad cs) (AM ad)) (hr : meth.sig.returnType = (some .int)) (hlk : meth.locks = false) (hR : 6 ≤ R.frames ∧ 140 ≤ R.locals) {σ : Sg} {x1 : Int32} {x2 : Int32} {x3 : Int32} {x4 : Int32} {res : Int32 × Sg} {ag40 : Int32 → Int32 → Int32 → Sg → Option (Int32 × Sg)} (hag40 : ∀ (x2 : Int32) (x3 : Int32) (x4 : Int32) (σ : Sg) (H : Heap) (locs : List Loc) (ls : Array Slot), ag40 x2 x3 x4 σ = some res → va_P D vwCl (WM ad cs σ) H → va_S (AM ad) s.heap H locs → lv_has ls 7 [(0, .ref (ad 0)), (1, .int x1), (2, .int x2), (3, .int x3), (4, .int x4)] → W p l e R s m args below meth c H locs 0 0 (MQ below (QI D (TYM cs) (WM ad cs) (AM ad) res.1 res.2) args s 0 0 (AM ad)) (F0 m 40 ls [])) (hf : f_X10_mend_40 ag40 σ x1 x2 x3 x4 = some res) {H : Heap} {locs : List Loc} (hP : va_P D vwCl (WM ad cs σ) H) (hS : va_S (AM ad) s.heap H locs) {ls : Array Slot} (hl : lv_has ls 7 [(0, .ref (ad 0)), (1, .int x1), (2, .int x2), (3, .int x3), (4, .int x4)]) : W p l e R s m args below meth c H locs 0 0 (MQ below (QI D (TYM cs) (WM ad cs) (AM ad) res.1 res.2) args s 0 0 (AM ad)) (F0 m 40 ls []) := by
  have hx := C.1.1
  have hb := C.1.2.1
  unfold f_X10_mend_40 at hf
  refine lv_iload hx hb dX10_mend_40 (lv_at hl 4 rfl) ?_
  refine lv_aload_n hx hb dX10_mend_42 rfl (lv_at hl 0 rfl) ?_
  refine gX10_1 C hP k_665 dX10_mend_43 ?_
  refine lv_icmp_ge (tgt := 158) hx hb dX10_mend_46 (by decide) (fun c1 => ?_) (fun c1 => ?_)
  · replace hf := zt c1 hf
    refine lv_iload_n hx hb dX10_mend_158 rfl (lv_at hl 1 rfl) ?_
    refine lv_if_ne (tgt := 166) hx hb dX10_mend_159 (by decide) (fun c2 => ?_) (fun c2 => ?_)
    · replace hf := zf c2 hf
      refine lv_iload_n hx hb dX10_mend_166 rfl (lv_at hl 2 rfl) ?_
      exact q_iret C hr hlk hP hS (Option.some.inj hf) dX10_mend_167
    · replace hf := zt c2 hf
      refine lv_iload_n hx hb dX10_mend_162 rfl (lv_at hl 3 rfl) ?_
      refine lv_goto (tgt := 167) hx hb dX10_mend_163 (by decide) ?_
      exact q_iret C hr hlk hP hS (Option.some.inj hf) dX10_mend_167
  · replace hf := zf c1 hf
    refine lv_aload_n hx hb dX10_mend_49 rfl (lv_at hl 0 rfl) ?_
    refine gX10_3 C hP k_667 dX10_mend_50 ?_
    refine lv_iload hx hb dX10_mend_53 (lv_at hl 4 rfl) ?_
    obtain ⟨h3, hf⟩ := zc hf
    refine aldM C hP (n := 8) rfl h3 dX10_mend_55 ?_
    refine lv_istore (lv' := [(5, .int (σ 2 x4.toNatClampNeg)), (0, .ref (ad 0)), (1, .int x1), (2, .int x2), (3, .int x3), (4, .int x4)]) hx hb dX10_mend_56 hl (by decide) rfl (fun ls hl => ?_)
    refine lv_iconst (v := 0) hx hb dX10_mend_58 (by decide) ?_
    refine lv_istore (lv' := [(6, .int 0), (5, .int (σ 2 x4.toNatClampNeg)), (0, .ref (ad 0)), (1, .int x1), (2, .int x2), (3, .int x3), (4, .int x4)]) hx hb dX10_mend_59 hl (by decide) rfl (fun ls hl => ?_)
    exact wl_X10_mend_61 C hr hlk hR hag40 fu _ _ _ _ _ _ _ hf hP hS (lv_sub hl [2, 3, 4, 5, 6, 1, 0] rfl)
set_option maxRecDepth 100000 in
set_option maxHeartbeats 4000000 in
theorem wl_X10_mend_40 (C : CX p m c cX10_mend 7 s args RX10 D (TYM cs) (WM ad cs) (AM ad)) (hr : meth.sig.returnType = (some .int)) (hlk : meth.locks = false) (hR : 6 ≤ R.frames ∧ 140 ≤ R.locals) {x1 : Int32} {res : Int32 × Sg} : ∀ n : Nat, ∀ (x2 : Int32) (x3 : Int32) (x4 : Int32) (σ : Sg) (H : Heap) (locs : List Loc) (ls : Array Slot), l_X10_mend_40 x1 n x2 x3 x4 σ = some res → va_P D vwCl (WM ad cs σ) H → va_S (AM ad) s.heap H locs → lv_has ls 7 [(0, .ref (ad 0)), (1, .int x1), (2, .int x2), (3, .int x3), (4, .int x4)] → W p l e R s m args below meth c H locs 0 0 (MQ below (QI D (TYM cs) (WM ad cs) (AM ad) res.1 res.2) args s 0 0 (AM ad)) (F0 m 40 ls []) := by
  intro n
  induction n with
  | zero => intro x2 x3 x4 σ H locs ls hf; cases hf
  | succ n ih =>
    intro x2 x3 x4 σ H locs ls hf hP hS hl
    exact w_X10_mend_40 C hr hlk hR (ag40 := l_X10_mend_40 x1 n) ih hf hP hS hl
set_option maxRecDepth 100000 in
set_option maxHeartbeats 4000000 in
theorem w_X10_mend (C : CX p m c cX10_mend 7 s args RX10 D (TYM cs) (WM ad cs) (AM ad)) (hr : meth.sig.returnType = (some .int)) (hlk : meth.locks = false) (hR : 6 ≤ R.frames ∧ 140 ≤ R.locals) {σ : Sg} {x1 : Int32} {res : Int32 × Sg} (hf : f_X10_mend σ x1 = some res) {H : Heap} {locs : List Loc} (hP : va_P D vwCl (WM ad cs σ) H) (hS : va_S (AM ad) s.heap H locs) {ls : Array Slot} (hl : lv_has ls 7 [(0, .ref (ad 0)), (1, .int x1)]) : W p l e R s m args below meth c H locs 0 0 (MQ below (QI D (TYM cs) (WM ad cs) (AM ad) res.1 res.2) args s 0 0 (AM ad)) (F0 m 0 ls []) := by
  have hx := C.1.1
  have hb := C.1.2.1
  unfold f_X10_mend at hf
  refine lv_iload_n hx hb dX10_mend_0 rfl (lv_at hl 1 rfl) ?_
  refine lv_i2l hx hb dX10_mend_1 rfl ?_
  refine lv_lconst (v := 0) hx hb dX10_mend_2 (by decide) ?_
  refine lv_lconst (v := 1) hx hb dX10_mend_3 (by decide) ?_
  obtain ⟨r2, hg1, hf⟩ := zb hf
  try dsimp only at hf
  refine q_calli C hS (q_runS C hP (c_X10_in (l := l) C.2.2.1 hg1) (As := [.long x1.toInt64, .long 0, .long 1]) (rest := []) ⟨gd_S k_760 k_761 k_53 k_762, ⟨rfl, rfl⟩, kd_X10_in, ⟨Nat.le_trans (Nat.le_of_ble_eq_true rfl) hR.1, Nat.le_trans (Nat.le_of_ble_eq_true rfl) hR.2⟩⟩ rfl rfl (Nat.le_of_ble_eq_true rfl) hl.1 dX10_mend_4) (fun H locs hP hS => ?_)
  refine lv_if_ne (tgt := 13) hx hb dX10_mend_7 (by decide) (fun c3 => ?_) (fun c3 => ?_)
  · replace hf := zf c3 hf
    refine lv_aload_n hx hb dX10_mend_13 rfl (lv_at hl 0 rfl) ?_
    refine gX10_1 C hP k_665 dX10_mend_14 ?_
    refine lv_if_ne (tgt := 23) hx hb dX10_mend_17 (by decide) (fun c4 => ?_) (fun c4 => ?_)
    · replace hf := zf c4 hf
      refine lv_aload_n hx hb dX10_mend_23 rfl (lv_at hl 0 rfl) ?_
      refine lv_iconst (v := 2) hx hb dX10_mend_24 (by decide) ?_
      obtain ⟨⟨r6, σ7⟩, hg5, hf⟩ := zb hf
      try dsimp only at hf
      refine q_calli C hS (q_runV C hP (c_X10_frailest (l := l) C.2.2.1 hg5) (ci := 9) (As := [.int 2]) (rest := []) ⟨gd_V k_894 k_896 k_35 k_53 k_897, ⟨rfl, rfl⟩, kd_X10_frailest, ⟨Nat.le_trans (Nat.le_of_ble_eq_true rfl) hR.1, Nat.le_trans (Nat.le_of_ble_eq_true rfl) hR.2⟩⟩ (o := 0) rfl rfl rfl rfl rfl (Nat.le_of_ble_eq_true rfl) hl.1 dX10_mend_25) (fun H locs hP hS => ?_)
      refine lv_pop hx hb dX10_mend_28 rfl ?_
      refine lv_aload_n hx hb dX10_mend_29 rfl (lv_at hl 0 rfl) ?_
      refine gX10_20 C hP k_684 dX10_mend_30 ?_
      refine lv_istore_n (lv' := [(2, .int (σ7 0 20)), (0, .ref (ad 0)), (1, .int x1)]) hx hb dX10_mend_33 rfl hl (by decide) rfl (fun ls hl => ?_)
      refine lv_bipush (v := (-9)) hx hb dX10_mend_34 (by decide) ?_
      refine lv_istore_n (lv' := [(3, .int (-9)), (2, .int (σ7 0 20)), (0, .ref (ad 0)), (1, .int x1)]) hx hb dX10_mend_36 rfl hl (by decide) rfl (fun ls hl => ?_)
      refine lv_iconst (v := 0) hx hb dX10_mend_37 (by decide) ?_
      refine lv_istore (lv' := [(4, .int 0), (3, .int (-9)), (2, .int (σ7 0 20)), (0, .ref (ad 0)), (1, .int x1)]) hx hb dX10_mend_38 hl (by decide) rfl (fun ls hl => ?_)
      exact wl_X10_mend_40 C hr hlk hR fu _ _ _ _ _ _ _ hf hP hS (lv_sub hl [3, 4, 2, 1, 0] rfl)
    · replace hf := zt c4 hf
      refine lv_bipush (v := (-3)) hx hb dX10_mend_20 (by decide) ?_
      exact q_iret C hr hlk hP hS (Option.some.inj hf) dX10_mend_22
  · replace hf := zt c3 hf
    refine lv_bipush (v := (-2)) hx hb dX10_mend_10 (by decide) ?_
    exact q_iret C hr hlk hP hS (Option.some.inj hf) dX10_mend_12
theorem kd_X10_mend : yX10_mend.cls = RX10 ∧ yX10_mend.cls ≠ "java/lang/invoke/MethodHandle" ∧ yX10_mend.cls ≠ "java/lang/invoke/VarHandle" ∧ (parseMethodDescriptor yX10_mend.desc).map (fun d => d.parameters.length) = some 1 := by decide +kernel
def r_X10_mend : Room := { frames := 6, cells := 0, slots := 0, locals := 140 }
set_option maxRecDepth 100000 in
set_option maxHeartbeats 4000000 in
theorem c_X10_mend {l : Launch} {D : va_G} {ad : Nat → Nat} {cs : Nat → ClassId} (hD : ∀ σ, va_D (AM ad) (WM ad cs σ)) {σ : Sg} {x1 : Int32} {res : Int32 × Sg} (hf : f_X10_mend σ x1 = some res) : Met l yX10_mend (wm yX10_mend cX10_mend 7 (some .int)) r_X10_mend (va_Pc [.ref (ad 0), .int x1] (BW D (TYM cs) (WM ad cs) σ)) (QI D (TYM cs) (WM ad cs) (AM ad) res.1 res.2) 0 0 (AM ad) := by
  refine q_enter (by decide) hD (Nat.le_of_ble_eq_true rfl) ?_
  intro p e s m below meth c C hr hlk hP hS ls hl
  exact w_X10_mend C hr hlk ⟨Nat.le_of_ble_eq_true rfl, Nat.le_of_ble_eq_true rfl⟩ hf hP hS hl

set_option maxRecDepth 100000 in
set_option maxHeartbeats 4000000 in
theorem w_X10_wave (C : CX p m c cX10_wave 4 s args RX10 D (TYM cs) (WM ad cs) (AM ad)) (hr : meth.sig.returnType = (some .int)) (hlk : meth.locks = false) (hR : 4 ≤ R.frames ∧ 95 ≤ R.locals) {σ : Sg} {x1 : Int32} {res : Int32 × Sg} (hf : f_X10_wave σ x1 = some res) {H : Heap} {locs : List Loc} (hP : va_P D vwCl (WM ad cs σ) H) (hS : va_S (AM ad) s.heap H locs) {ls : Array Slot} (hl : lv_has ls 4 [(0, .ref (ad 0)), (1, .int x1)]) : W p l e R s m args below meth c H locs 0 0 (MQ below (QI D (TYM cs) (WM ad cs) (AM ad) res.1 res.2) args s 0 0 (AM ad)) (F0 m 0 ls []) := by
  have hx := C.1.1
  have hb := C.1.2.1
  unfold f_X10_wave at hf
  refine lv_aload_n hx hb dX10_wave_0 rfl (lv_at hl 0 rfl) ?_
  refine lv_iload_n hx hb dX10_wave_1 rfl (lv_at hl 1 rfl) ?_
  obtain ⟨r2, hg1, hf⟩ := zb hf
  try dsimp only at hf
  refine q_calli C hS (q_runV C hP (c_X10_noThing (l := l) C.2.2.1 hg1) (ci := 9) (As := [.int x1]) (rest := []) ⟨gd_V k_799 k_801 k_23 k_53 k_802, ⟨rfl, rfl⟩, kd_X10_noThing, ⟨Nat.le_trans (Nat.le_of_ble_eq_true rfl) hR.1, Nat.le_trans (Nat.le_of_ble_eq_true rfl) hR.2⟩⟩ (o := 0) rfl rfl rfl rfl rfl (Nat.le_of_ble_eq_true rfl) hl.1 dX10_wave_2) (fun H locs hP hS => ?_)
  refine lv_if_eq (tgt := 10) hx hb dX10_wave_5 (by decide) (fun c3 => ?_) (fun c3 => ?_)
  · replace hf := zt c3 hf
    refine lv_aload_n hx hb dX10_wave_10 rfl (lv_at hl 0 rfl) ?_
    refine lv_iconst (v := 0) hx hb dX10_wave_11 (by decide) ?_
    obtain ⟨r5, hg4, hf⟩ := zb hf
    try dsimp only at hf
    refine q_calli C hS (q_runV C hP (c_X10_brokenIn (l := l) C.2.2.1 hg4) (ci := 9) (As := [.int 0]) (rest := []) ⟨gd_V k_839 k_841 k_27 k_53 k_842, ⟨rfl, rfl⟩, kd_X10_brokenIn, ⟨Nat.le_trans (Nat.le_of_ble_eq_true rfl) hR.1, Nat.le_trans (Nat.le_of_ble_eq_true rfl) hR.2⟩⟩ (o := 0) rfl rfl rfl rfl rfl (Nat.le_of_ble_eq_true rfl) hl.1 dX10_wave_12) (fun H locs hP hS => ?_)
    refine lv_istore_n (lv' := [(2, .int r5), (0, .ref (ad 0)), (1, .int x1)]) hx hb dX10_wave_15 rfl hl (by decide) rfl (fun ls hl => ?_)
    refine lv_aload_n hx hb dX10_wave_16 rfl (lv_at hl 1 rfl) ?_
    refine lv_iload_n hx hb dX10_wave_17 rfl (lv_at hl 0 rfl) ?_
    obtain ⟨σ7, hg6, hf⟩ := zb hf
    try dsimp only at hf
    refine q_callv C hS (q_runV C hP (c_X10_goFirst (l := l) C.2.2.1 hg6) (ci := 9) (As := [.int r5]) (rest := []) ⟨gd_V k_909 k_911 k_38 k_53 k_912, ⟨rfl, rfl⟩, kd_X10_goFirst, ⟨Nat.le_trans (Nat.le_of_ble_eq_true rfl) hR.1, Nat.le_trans (Nat.le_of_ble_eq_true rfl) hR.2⟩⟩ (o := 0) rfl rfl rfl rfl rfl (Nat.le_of_ble_eq_true rfl) hl.1 dX10_wave_18) (fun H locs hP hS => ?_)
    refine lv_aload_n hx hb dX10_wave_21 rfl (lv_at hl 1 rfl) ?_
    obtain ⟨r9, hg8, hf⟩ := zb hf
    try dsimp only at hf
    refine q_calli C hS (q_runV C hP (c_X10_servesNow (l := l) C.2.2.1 hg8) (ci := 9) (As := []) (rest := []) ⟨gd_V k_878 k_880 k_34 k_53 k_881, ⟨rfl, rfl⟩, kd_X10_servesNow, ⟨Nat.le_trans (Nat.le_of_ble_eq_true rfl) hR.1, Nat.le_trans (Nat.le_of_ble_eq_true rfl) hR.2⟩⟩ (o := 0) rfl rfl rfl rfl rfl (Nat.le_of_ble_eq_true rfl) hl.1 dX10_wave_22) (fun H locs hP hS => ?_)
    refine lv_istore_n (lv' := [(3, .int r9), (2, .int r5), (0, .ref (ad 0)), (1, .int x1)]) hx hb dX10_wave_25 rfl hl (by decide) rfl (fun ls hl => ?_)
    refine lv_aload_n hx hb dX10_wave_26 rfl (lv_at hl 2 rfl) ?_
    refine lv_iload_n hx hb dX10_wave_27 rfl (lv_at hl 1 rfl) ?_
    refine lv_iconst (v := 1) hx hb dX10_wave_28 (by decide) ?_
    refine lv_iload_n hx hb dX10_wave_29 rfl (lv_at hl 3 rfl) ?_
    refine lv_ishl hx hb dX10_wave_30 ?_
    refine lv_ior hx hb dX10_wave_31 ?_
    obtain ⟨σ11, hg10, hf⟩ := zb hf
    try dsimp only at hf
    refine q_callv C hS (q_runV C hP (c_X10_goFirst (l := l) C.2.2.1 hg10) (ci := 9) (As := [.int (r5 ||| ((1 : Int32) <<< (x1 &&& 31)))]) (rest := []) ⟨gd_V k_909 k_911 k_38 k_53 k_912, ⟨rfl, rfl⟩, kd_X10_goFirst, ⟨Nat.le_trans (Nat.le_of_ble_eq_true rfl) hR.1, Nat.le_trans (Nat.le_of_ble_eq_true rfl) hR.2⟩⟩ (o := 0) rfl rfl rfl rfl rfl (Nat.le_of_ble_eq_true rfl) hl.1 dX10_wave_32) (fun H locs hP hS => ?_)
    refine lv_iload_n hx hb dX10_wave_35 rfl (lv_at hl 0 rfl) ?_
    refine lv_aload_n hx hb dX10_wave_36 rfl (lv_at hl 2 rfl) ?_
    obtain ⟨r13, hg12, hf⟩ := zb hf
    try dsimp only at hf
    refine q_calli C hS (q_runV C hP (c_X10_servesNow (l := l) C.2.2.1 hg12) (ci := 9) (As := []) (rest := [.int r9]) ⟨gd_V k_878 k_880 k_34 k_53 k_881, ⟨rfl, rfl⟩, kd_X10_servesNow, ⟨Nat.le_trans (Nat.le_of_ble_eq_true rfl) hR.1, Nat.le_trans (Nat.le_of_ble_eq_true rfl) hR.2⟩⟩ (o := 0) rfl rfl rfl rfl rfl (Nat.le_of_ble_eq_true rfl) hl.1 dX10_wave_37) (fun H locs hP hS => ?_)
    refine lv_isub hx hb dX10_wave_40 ?_
    refine lv_sipush (v := 1000) hx hb dX10_wave_41 (by decide) ?_
    refine lv_iadd hx hb dX10_wave_44 ?_
    exact q_iret C hr hlk hP hS (Option.some.inj hf) dX10_wave_45
  · replace hf := zf c3 hf
    refine lv_iconst (v := (-1)) hx hb dX10_wave_8 (by decide) ?_
    exact q_iret C hr hlk hP hS (Option.some.inj hf) dX10_wave_9
theorem kd_X10_wave : yX10_wave.cls = RX10 ∧ yX10_wave.cls ≠ "java/lang/invoke/MethodHandle" ∧ yX10_wave.cls ≠ "java/lang/invoke/VarHandle" ∧ (parseMethodDescriptor yX10_wave.desc).map (fun d => d.parameters.length) = some 1 := by decide +kernel
def r_X10_wave : Room := { frames := 4, cells := 0, slots := 0, locals := 95 }
set_option maxRecDepth 100000 in
set_option maxHeartbeats 4000000 in
theorem c_X10_wave {l : Launch} {D : va_G} {ad : Nat → Nat} {cs : Nat → ClassId} (hD : ∀ σ, va_D (AM ad) (WM ad cs σ)) {σ : Sg} {x1 : Int32} {res : Int32 × Sg} (hf : f_X10_wave σ x1 = some res) : Met l yX10_wave (wm yX10_wave cX10_wave 4 (some .int)) r_X10_wave (va_Pc [.ref (ad 0), .int x1] (BW D (TYM cs) (WM ad cs) σ)) (QI D (TYM cs) (WM ad cs) (AM ad) res.1 res.2) 0 0 (AM ad) := by
  refine q_enter (by decide) hD (Nat.le_of_ble_eq_true rfl) ?_
  intro p e s m below meth c C hr hlk hP hS ls hl
  exact w_X10_wave C hr hlk ⟨Nat.le_of_ble_eq_true rfl, Nat.le_of_ble_eq_true rfl⟩ hf hP hS hl

set_option maxRecDepth 100000 in
set_option maxHeartbeats 4000000 in
theorem w_X10_roster_152 (C : CX p m c cX10_roster 8 s args RX10 D (TYM cs) (WM ad cs) (AM ad)) (hr : meth.sig.returnType = (some .int)) (hlk : meth.locks = false) (hR : 4 ≤ R.frames ∧ 96 ≤ R.locals) {σ : Sg} {x4 : Int32} {x6 : Int32} {x7 : Int32} {res : Int32 × Sg} {ag152 : Int32 → Option (Int32 × Sg)} (hag152 : ∀ (x7 : Int32) (H : Heap) (locs : List Loc) (ls : Array Slot), ag152 x7 = some res → va_P D vwCl (WM ad cs σ) H → va_S (AM ad) s.heap H locs → lv_has ls 8 [(0, .ref (ad 0)), (4, .int x4), (6, .int x6), (7, .int x7)] → W p l e R s m args below meth c H locs 0 0 (MQ below (QI D (TYM cs) (WM ad cs) (AM ad) res.1 res.2) args s 0 0 (AM ad)) (F0 m 152 ls [])) (hf : f_X10_roster_152 ag152 σ x4 x6 x7 = some res) {H : Heap} {locs : List Loc} (hP : va_P D vwCl (WM ad cs σ) H) (hS : va_S (AM ad) s.heap H locs) {ls : Array Slot} (hl : lv_has ls 8 [(0, .ref (ad 0)), (4, .int x4), (6, .int x6), (7, .int x7)]) : W p l e R s m args below meth c H locs 0 0 (MQ below (QI D (TYM cs) (WM ad cs) (AM ad) res.1 res.2) args s 0 0 (AM ad)) (F0 m 152 ls []) := by
  have hx := C.1.1
  have hb := C.1.2.1
  unfold f_X10_roster_152 at hf
  refine lv_iload hx hb dX10_roster_152 (lv_at hl 3 rfl) ?_
  refine lv_iload hx hb dX10_roster_154 (lv_at hl 1 rfl) ?_
  refine lv_icmp_ge (tgt := 192) hx hb dX10_roster_156 (by decide) (fun c1 => ?_) (fun c1 => ?_)
  · replace hf := zt c1 hf
    refine lv_aload_n hx hb dX10_roster_192 rfl (lv_at hl 0 rfl) ?_
    refine lv_bipush (v := (-9)) hx hb dX10_roster_193 (by decide) ?_
    obtain ⟨⟨r3, σ4⟩, hg2, hf⟩ := zb hf
    try dsimp only at hf
    refine q_calli C hS (q_runV C hP (c_X10_refused (l := l) C.2.2.1 hg2) (ci := 9) (As := [.int (-9)]) (rest := []) ⟨gd_V k_763 k_765 k_16 k_53 k_766, ⟨rfl, rfl⟩, kd_X10_refused, ⟨Nat.le_trans (Nat.le_of_ble_eq_true rfl) hR.1, Nat.le_trans (Nat.le_of_ble_eq_true rfl) hR.2⟩⟩ (o := 0) rfl rfl rfl rfl rfl (Nat.le_of_ble_eq_true rfl) hl.1 dX10_roster_195) (fun H locs hP hS => ?_)
    exact q_iret C hr hlk hP hS (Option.some.inj hf) dX10_roster_198
  · replace hf := zf c1 hf
    refine lv_aload_n hx hb dX10_roster_159 rfl (lv_at hl 0 rfl) ?_
    refine gX10_17 C hP k_681 dX10_roster_160 ?_
    refine lv_iload hx hb dX10_roster_163 (lv_at hl 3 rfl) ?_
    obtain ⟨h5, hf⟩ := zc hf
    refine aldM C hP (n := 8) rfl h5 dX10_roster_165 ?_
    refine lv_aload_n hx hb dX10_roster_166 rfl (lv_at hl 0 rfl) ?_
    refine gX10_26 C hP k_690 dX10_roster_167 ?_
    refine lv_iload hx hb dX10_roster_170 (lv_at hl 2 rfl) ?_
    refine lv_iload hx hb dX10_roster_172 (lv_at hl 3 rfl) ?_
    refine lv_iadd hx hb dX10_roster_174 ?_
    obtain ⟨h6, hf⟩ := zc hf
    refine aldM C hP (n := 240) rfl h6 dX10_roster_175 ?_
    refine lv_icmp_eq (tgt := 186) hx hb dX10_roster_176 (by decide) (fun c7 => ?_) (fun c7 => ?_)
    · replace hf := zt c7 hf
      refine lv_iinc (v := x7 + 1) (lv' := [(7, .int (x7 + 1)), (0, .ref (ad 0)), (4, .int x4), (6, .int x6)]) hx hb dX10_roster_186 hl (k := 3) rfl rfl (by decide) rfl (fun ls hl => ?_)
      refine lv_goto (tgt := 152) hx hb dX10_roster_189 (by decide) ?_
      exact hag152 _ _ _ _ hf hP hS (lv_sub hl [1, 2, 3, 0] rfl)
    · replace hf := zf c7 hf
      refine lv_aload_n hx hb dX10_roster_179 rfl (lv_at hl 0 rfl) ?_
      refine lv_iload hx hb dX10_roster_180 (lv_at hl 3 rfl) ?_
      obtain ⟨⟨r9, σ10⟩, hg8, hf⟩ := zb hf
      try dsimp only at hf
      refine q_calli C hS (q_runV C hP (c_X10_refused (l := l) C.2.2.1 hg8) (ci := 9) (As := [.int x7]) (rest := []) ⟨gd_V k_763 k_765 k_16 k_53 k_766, ⟨rfl, rfl⟩, kd_X10_refused, ⟨Nat.le_trans (Nat.le_of_ble_eq_true rfl) hR.1, Nat.le_trans (Nat.le_of_ble_eq_true rfl) hR.2⟩⟩ (o := 0) rfl rfl rfl rfl rfl (Nat.le_of_ble_eq_true rfl) hl.1 dX10_roster_182) (fun H locs hP hS => ?_)
      exact q_iret C hr hlk hP hS (Option.some.inj hf) dX10_roster_185
set_option maxRecDepth 100000 in
set_option maxHeartbeats 4000000 in
theorem wl_X10_roster_152 (C : CX p m c cX10_roster 8 s args RX10 D (TYM cs) (WM ad cs) (AM ad)) (hr : meth.sig.returnType = (some .int)) (hlk : meth.locks = false) (hR : 4 ≤ R.frames ∧ 96 ≤ R.locals) {σ : Sg} {x4 : Int32} {x6 : Int32} {res : Int32 × Sg} : ∀ n : Nat, ∀ (x7 : Int32) (H : Heap) (locs : List Loc) (ls : Array Slot), l_X10_roster_152 σ x4 x6 n x7 = some res → va_P D vwCl (WM ad cs σ) H → va_S (AM ad) s.heap H locs → lv_has ls 8 [(0, .ref (ad 0)), (4, .int x4), (6, .int x6), (7, .int x7)] → W p l e R s m args below meth c H locs 0 0 (MQ below (QI D (TYM cs) (WM ad cs) (AM ad) res.1 res.2) args s 0 0 (AM ad)) (F0 m 152 ls []) := by
  intro n
  induction n with
  | zero => intro x7 H locs ls hf; cases hf
  | succ n ih =>
    intro x7 H locs ls hf hP hS hl
    exact w_X10_roster_152 C hr hlk hR (ag152 := l_X10_roster_152 σ x4 x6 n) ih hf hP hS hl
set_option maxRecDepth 100000 in
set_option maxHeartbeats 4000000 in
theorem w_X10_roster_93 (C : CX p m c cX10_roster 8 s args RX10 D (TYM cs) (WM ad cs) (AM ad)) (hr : meth.sig.returnType = (some .int)) (hlk : meth.locks = false) (hR : 4 ≤ R.frames ∧ 96 ≤ R.locals) {σ : Sg} {x4 : Int32} {x6 : Int32} {x7 : Int32} {res : Int32 × Sg} {ag93 : Int32 → Option (Int32 × Sg)} (hag93 : ∀ (x7 : Int32) (H : Heap) (locs : List Loc) (ls : Array Slot), ag93 x7 = some res → va_P D vwCl (WM ad cs σ) H → va_S (AM ad) s.heap H locs → lv_has ls 8 [(0, .ref (ad 0)), (4, .int x4), (6, .int x6), (7, .int x7)] → W p l e R s m args below meth c H locs 0 0 (MQ below (QI D (TYM cs) (WM ad cs) (AM ad) res.1 res.2) args s 0 0 (AM ad)) (F0 m 93 ls [])) (hf : f_X10_roster_93 ag93 σ x4 x6 x7 = some res) {H : Heap} {locs : List Loc} (hP : va_P D vwCl (WM ad cs σ) H) (hS : va_S (AM ad) s.heap H locs) {ls : Array Slot} (hl : lv_has ls 8 [(0, .ref (ad 0)), (4, .int x4), (6, .int x6), (7, .int x7)]) : W p l e R s m args below meth c H locs 0 0 (MQ below (QI D (TYM cs) (WM ad cs) (AM ad) res.1 res.2) args s 0 0 (AM ad)) (F0 m 93 ls []) := by
  have hx := C.1.1
  have hb := C.1.2.1
  unfold f_X10_roster_93 at hf
  refine lv_iload hx hb dX10_roster_93 (lv_at hl 3 rfl) ?_
  refine lv_iload hx hb dX10_roster_95 (lv_at hl 1 rfl) ?_
  refine lv_icmp_ge (tgt := 144) hx hb dX10_roster_97 (by decide) (fun c1 => ?_) (fun c1 => ?_)
  · replace hf := zt c1 hf
    refine lv_aload_n hx hb dX10_roster_144 rfl (lv_at hl 0 rfl) ?_
    refine lv_iconst (v := 0) hx hb dX10_roster_145 (by decide) ?_
    obtain ⟨σ3, hg2, hf⟩ := zb hf
    try dsimp only at hf
    refine q_callv C hS (q_runV C hP (c_X10_goTo (l := l) C.2.2.1 hg2) (ci := 9) (As := [.int 0]) (rest := []) ⟨gd_V k_831 k_833 k_25 k_53 k_834, ⟨rfl, rfl⟩, kd_X10_goTo, ⟨Nat.le_trans (Nat.le_of_ble_eq_true rfl) hR.1, Nat.le_trans (Nat.le_of_ble_eq_true rfl) hR.2⟩⟩ (o := 0) rfl rfl rfl rfl rfl (Nat.le_of_ble_eq_true rfl) hl.1 dX10_roster_146) (fun H locs hP hS => ?_)
    refine lv_iconst (v := 0) hx hb dX10_roster_149 (by decide) ?_
    refine lv_istore (lv' := [(7, .int 0), (0, .ref (ad 0)), (4, .int x4), (6, .int x6)]) hx hb dX10_roster_150 hl (by decide) rfl (fun ls hl => ?_)
    exact wl_X10_roster_152 C hr hlk hR fu _ _ _ _ hf hP hS (lv_sub hl [1, 2, 3, 0] rfl)
  · replace hf := zf c1 hf
    refine lv_aload_n hx hb dX10_roster_100 rfl (lv_at hl 0 rfl) ?_
    refine gX10_26 C hP k_690 dX10_roster_101 ?_
    refine lv_iload hx hb dX10_roster_104 (lv_at hl 2 rfl) ?_
    refine lv_iload hx hb dX10_roster_106 (lv_at hl 3 rfl) ?_
    refine lv_iadd hx hb dX10_roster_108 ?_
    obtain ⟨h4, hf⟩ := zc hf
    refine aldM C hP (n := 240) rfl h4 dX10_roster_109 ?_
    refine lv_bipush (v := (-9)) hx hb dX10_roster_110 (by decide) ?_
    refine lv_icmp_eq (tgt := 138) hx hb dX10_roster_112 (by decide) (fun c5 => ?_) (fun c5 => ?_)
    · replace hf := zt c5 hf
      refine lv_iinc (v := x7 + 1) (lv' := [(7, .int (x7 + 1)), (0, .ref (ad 0)), (4, .int x4), (6, .int x6)]) hx hb dX10_roster_138 hl (k := 3) rfl rfl (by decide) rfl (fun ls hl => ?_)
      refine lv_goto (tgt := 93) hx hb dX10_roster_141 (by decide) ?_
      exact hag93 _ _ _ _ hf hP hS (lv_sub hl [1, 2, 3, 0] rfl)
    · replace hf := zf c5 hf
      refine lv_aload_n hx hb dX10_roster_115 rfl (lv_at hl 0 rfl) ?_
      refine lv_aload_n hx hb dX10_roster_116 rfl (lv_at hl 0 rfl) ?_
      refine gX10_26 C hP k_690 dX10_roster_117 ?_
      refine lv_iload hx hb dX10_roster_120 (lv_at hl 2 rfl) ?_
      refine lv_iload hx hb dX10_roster_122 (lv_at hl 3 rfl) ?_
      refine lv_iadd hx hb dX10_roster_124 ?_
      refine aldM C hP (n := 240) rfl h4 dX10_roster_125 ?_
      obtain ⟨r7, hg6, hf⟩ := zb hf
      try dsimp only at hf
      refine q_calli C hS (q_runV C hP (c_X10_noThing (l := l) C.2.2.1 hg6) (ci := 9) (As := [.int (σ 19 (x6 + x7).toNatClampNeg)]) (rest := []) ⟨gd_V k_799 k_801 k_23 k_53 k_802, ⟨rfl, rfl⟩, kd_X10_noThing, ⟨Nat.le_trans (Nat.le_of_ble_eq_true rfl) hR.1, Nat.le_trans (Nat.le_of_ble_eq_true rfl) hR.2⟩⟩ (o := 0) rfl rfl rfl rfl rfl (Nat.le_of_ble_eq_true rfl) hl.1 dX10_roster_126) (fun H locs hP hS => ?_)
      refine lv_if_eq (tgt := 138) hx hb dX10_roster_129 (by decide) (fun c8 => ?_) (fun c8 => ?_)
      · replace hf := zt c8 hf
        refine lv_iinc (v := x7 + 1) (lv' := [(7, .int (x7 + 1)), (0, .ref (ad 0)), (4, .int x4), (6, .int x6)]) hx hb dX10_roster_138 hl (k := 3) rfl rfl (by decide) rfl (fun ls hl => ?_)
        refine lv_goto (tgt := 93) hx hb dX10_roster_141 (by decide) ?_
        exact hag93 _ _ _ _ hf hP hS (lv_sub hl [1, 2, 3, 0] rfl)
      · replace hf := zf c8 hf
        refine lv_aload_n hx hb dX10_roster_132 rfl (lv_at hl 0 rfl) ?_
        refine lv_iconst (v := (-1)) hx hb dX10_roster_133 (by decide) ?_
        obtain ⟨⟨r10, σ11⟩, hg9, hf⟩ := zb hf
        try dsimp only at hf
        refine q_calli C hS (q_runV C hP (c_X10_refused (l := l) C.2.2.1 hg9) (ci := 9) (As := [.int (-1)]) (rest := []) ⟨gd_V k_763 k_765 k_16 k_53 k_766, ⟨rfl, rfl⟩, kd_X10_refused, ⟨Nat.le_trans (Nat.le_of_ble_eq_true rfl) hR.1, Nat.le_trans (Nat.le_of_ble_eq_true rfl) hR.2⟩⟩ (o := 0) rfl rfl rfl rfl rfl (Nat.le_of_ble_eq_true rfl) hl.1 dX10_roster_134) (fun H locs hP hS => ?_)
        exact q_iret C hr hlk hP hS (Option.some.inj hf) dX10_roster_137
set_option maxRecDepth 100000 in
set_option maxHeartbeats 4000000 in
theorem wl_X10_roster_93 (C : CX p m c cX10_roster 8 s args RX10 D (TYM cs) (WM ad cs) (AM ad)) (hr : meth.sig.returnType = (some .int)) (hlk : meth.locks = false) (hR : 4 ≤ R.frames ∧ 96 ≤ R.locals) {σ : Sg} {x4 : Int32} {x6 : Int32} {res : Int32 × Sg} : ∀ n : Nat, ∀ (x7 : Int32) (H : Heap) (locs : List Loc) (ls : Array Slot), l_X10_roster_93 σ x4 x6 n x7 = some res → va_P D vwCl (WM ad cs σ) H → va_S (AM ad) s.heap H locs → lv_has ls 8 [(0, .ref (ad 0)), (4, .int x4), (6, .int x6), (7, .int x7)] → W p l e R s m args below meth c H locs 0 0 (MQ below (QI D (TYM cs) (WM ad cs) (AM ad) res.1 res.2) args s 0 0 (AM ad)) (F0 m 93 ls []) := by
  intro n
  induction n with
  | zero => intro x7 H locs ls hf; cases hf
  | succ n ih =>
    intro x7 H locs ls hf hP hS hl
    exact w_X10_roster_93 C hr hlk hR (ag93 := l_X10_roster_93 σ x4 x6 n) ih hf hP hS hl
set_option maxRecDepth 100000 in
set_option maxHeartbeats 4000000 in
theorem w_X10_roster (C : CX p m c cX10_roster 8 s args RX10 D (TYM cs) (WM ad cs) (AM ad)) (hr : meth.sig.returnType = (some .int)) (hlk : meth.locks = false) (hR : 4 ≤ R.frames ∧ 96 ≤ R.locals) {σ : Sg} {x1 : Int32} {x2 : Int32} {x3 : Int32} {x4 : Int32} {res : Int32 × Sg} (hf : f_X10_roster σ x1 x2 x3 x4 = some res) {H : Heap} {locs : List Loc} (hP : va_P D vwCl (WM ad cs σ) H) (hS : va_S (AM ad) s.heap H locs) {ls : Array Slot} (hl : lv_has ls 8 [(0, .ref (ad 0)), (1, .int x1), (2, .int x2), (3, .int x3), (4, .int x4)]) : W p l e R s m args below meth c H locs 0 0 (MQ below (QI D (TYM cs) (WM ad cs) (AM ad) res.1 res.2) args s 0 0 (AM ad)) (F0 m 0 ls []) := by
  have hx := C.1.1
  have hb := C.1.2.1
  unfold f_X10_roster at hf
  refine lv_iload_n hx hb dX10_roster_0 rfl (lv_at hl 1 rfl) ?_
  obtain ⟨r2, hg1, hf⟩ := zb hf
  try dsimp only at hf
  refine q_calli C hS (q_runS C hP (c_X10_noSheet (l := l) C.2.2.1 hg1) (As := [.int x1]) (rest := []) ⟨gd_S k_756 k_757 k_53 k_758, ⟨rfl, rfl⟩, kd_X10_noSheet, ⟨Nat.le_trans (Nat.le_of_ble_eq_true rfl) hR.1, Nat.le_trans (Nat.le_of_ble_eq_true rfl) hR.2⟩⟩ rfl rfl (Nat.le_of_ble_eq_true rfl) hl.1 dX10_roster_1) (fun H locs hP hS => ?_)
  refine lv_if_eq (tgt := 13) hx hb dX10_roster_4 (by decide) (fun c3 => ?_) (fun c3 => ?_)
  · replace hf := zt c3 hf
    refine lv_iload_n hx hb dX10_roster_13 rfl (lv_at hl 2 rfl) ?_
    refine lv_i2l hx hb dX10_roster_14 rfl ?_
    refine lv_lconst (v := 0) hx hb dX10_roster_15 (by decide) ?_
    refine lv_ldc2 (v := 2) hx hb C.1.2.2.2.1 (C.1.2.2.2.2 _ k_767) dX10_roster_16 ?_
    obtain ⟨r5, hg4, hf⟩ := zb hf
    try dsimp only at hf
    refine q_calli C hS (q_runS C hP (c_X10_in (l := l) C.2.2.1 hg4) (As := [.long x2.toInt64, .long 0, .long 2]) (rest := []) ⟨gd_S k_760 k_761 k_53 k_762, ⟨rfl, rfl⟩, kd_X10_in, ⟨Nat.le_trans (Nat.le_of_ble_eq_true rfl) hR.1, Nat.le_trans (Nat.le_of_ble_eq_true rfl) hR.2⟩⟩ rfl rfl (Nat.le_of_ble_eq_true rfl) hl.1 dX10_roster_19) (fun H locs hP hS => ?_)
    refine lv_if_ne (tgt := 32) hx hb dX10_roster_22 (by decide) (fun c6 => ?_) (fun c6 => ?_)
    · replace hf := zf c6 hf
      refine lv_aload_n hx hb dX10_roster_32 rfl (lv_at hl 0 rfl) ?_
      refine gX10_1 C hP k_665 dX10_roster_33 ?_
      refine lv_if_ne (tgt := 46) hx hb dX10_roster_36 (by decide) (fun c7 => ?_) (fun c7 => ?_)
      · replace hf := zf c7 hf
        refine lv_aload_n hx hb dX10_roster_46 rfl (lv_at hl 0 rfl) ?_
        refine lv_iload_n hx hb dX10_roster_47 rfl (lv_at hl 1 rfl) ?_
        refine lv_iload_n hx hb dX10_roster_48 rfl (lv_at hl 2 rfl) ?_
        refine lv_iload_n hx hb dX10_roster_49 rfl (lv_at hl 3 rfl) ?_
        refine lv_iload hx hb dX10_roster_50 (lv_at hl 4 rfl) ?_
        refine lv_i2l hx hb dX10_roster_52 rfl ?_
        obtain ⟨⟨r9, σ10⟩, hg8, hf⟩ := zb hf
        try dsimp only at hf
        refine q_calli C hS (q_runV C hP (c_X10_cellsBarred (l := l) C.2.2.1 hg8) (ci := 9) (As := [.int x1, .int x2, .int x3, .long x4.toInt64]) (rest := []) ⟨gd_V k_768 k_770 k_17 k_53 k_771, ⟨rfl, rfl⟩, kd_X10_cellsBarred, ⟨Nat.le_trans (Nat.le_of_ble_eq_true rfl) hR.1, Nat.le_trans (Nat.le_of_ble_eq_true rfl) hR.2⟩⟩ (o := 0) rfl rfl rfl rfl rfl (Nat.le_of_ble_eq_true rfl) hl.1 dX10_roster_53) (fun H locs hP hS => ?_)
        refine lv_istore (lv' := [(5, .int r9), (0, .ref (ad 0)), (1, .int x1), (2, .int x2), (3, .int x3), (4, .int x4)]) hx hb dX10_roster_56 hl (by decide) rfl (fun ls hl => ?_)
        refine lv_iload hx hb dX10_roster_58 (lv_at hl 0 rfl) ?_
        refine lv_if_ge (tgt := 66) hx hb dX10_roster_60 (by decide) (fun c11 => ?_) (fun c11 => ?_)
        · replace hf := zt c11 hf
          refine lv_iload hx hb dX10_roster_66 (lv_at hl 5 rfl) ?_
          refine lv_aload_n hx hb dX10_roster_68 rfl (lv_at hl 1 rfl) ?_
          refine gX10_1 C hP k_665 dX10_roster_69 ?_
          refine lv_icmp_eq (tgt := 82) hx hb dX10_roster_72 (by decide) (fun c12 => ?_) (fun c12 => ?_)
          · replace hf := zt c12 hf
            refine lv_bipush (v := 60) hx hb dX10_roster_82 (by decide) ?_
            refine lv_iload_n hx hb dX10_roster_84 rfl (lv_at hl 2 rfl) ?_
            refine lv_imul hx hb dX10_roster_85 ?_
            refine lv_iload_n hx hb dX10_roster_86 rfl (lv_at hl 4 rfl) ?_
            refine lv_iadd hx hb dX10_roster_87 ?_
            refine lv_istore (lv' := [(6, .int (((60 : Int32) * x1) + x3)), (5, .int r9), (0, .ref (ad 0)), (1, .int x1), (2, .int x2), (3, .int x3), (4, .int x4)]) hx hb dX10_roster_88 hl (by decide) rfl (fun ls hl => ?_)
            refine lv_iconst (v := 0) hx hb dX10_roster_90 (by decide) ?_
            refine lv_istore (lv' := [(7, .int 0), (6, .int (((60 : Int32) * x1) + x3)), (5, .int r9), (0, .ref (ad 0)), (1, .int x1), (2, .int x2), (3, .int x3), (4, .int x4)]) hx hb dX10_roster_91 hl (by decide) rfl (fun ls hl => ?_)
            exact wl_X10_roster_93 C hr hlk hR fu _ _ _ _ hf hP hS (lv_sub hl [3, 7, 1, 0] rfl)
          · replace hf := zf c12 hf
            refine lv_aload_n hx hb dX10_roster_75 rfl (lv_at hl 1 rfl) ?_
            refine lv_bipush (v := (-2)) hx hb dX10_roster_76 (by decide) ?_
            obtain ⟨⟨r14, σ15⟩, hg13, hf⟩ := zb hf
            try dsimp only at hf
            refine q_calli C hS (q_runV C hP (c_X10_refused (l := l) C.2.2.1 hg13) (ci := 9) (As := [.int (-2)]) (rest := []) ⟨gd_V k_763 k_765 k_16 k_53 k_766, ⟨rfl, rfl⟩, kd_X10_refused, ⟨Nat.le_trans (Nat.le_of_ble_eq_true rfl) hR.1, Nat.le_trans (Nat.le_of_ble_eq_true rfl) hR.2⟩⟩ (o := 0) rfl rfl rfl rfl rfl (Nat.le_of_ble_eq_true rfl) hl.1 dX10_roster_78) (fun H locs hP hS => ?_)
            exact q_iret C hr hlk hP hS (Option.some.inj hf) dX10_roster_81
        · replace hf := zf c11 hf
          refine lv_iload hx hb dX10_roster_63 (lv_at hl 0 rfl) ?_
          exact q_iret C hr hlk hP hS (Option.some.inj hf) dX10_roster_65
      · replace hf := zt c7 hf
        refine lv_aload_n hx hb dX10_roster_39 rfl (lv_at hl 0 rfl) ?_
        refine lv_bipush (v := (-3)) hx hb dX10_roster_40 (by decide) ?_
        obtain ⟨⟨r17, σ18⟩, hg16, hf⟩ := zb hf
        try dsimp only at hf
        refine q_calli C hS (q_runV C hP (c_X10_refused (l := l) C.2.2.1 hg16) (ci := 9) (As := [.int (-3)]) (rest := []) ⟨gd_V k_763 k_765 k_16 k_53 k_766, ⟨rfl, rfl⟩, kd_X10_refused, ⟨Nat.le_trans (Nat.le_of_ble_eq_true rfl) hR.1, Nat.le_trans (Nat.le_of_ble_eq_true rfl) hR.2⟩⟩ (o := 0) rfl rfl rfl rfl rfl (Nat.le_of_ble_eq_true rfl) hl.1 dX10_roster_42) (fun H locs hP hS => ?_)
        exact q_iret C hr hlk hP hS (Option.some.inj hf) dX10_roster_45
    · replace hf := zt c6 hf
      refine lv_aload_n hx hb dX10_roster_25 rfl (lv_at hl 0 rfl) ?_
      refine lv_bipush (v := (-2)) hx hb dX10_roster_26 (by decide) ?_
      obtain ⟨⟨r20, σ21⟩, hg19, hf⟩ := zb hf
      try dsimp only at hf
      refine q_calli C hS (q_runV C hP (c_X10_refused (l := l) C.2.2.1 hg19) (ci := 9) (As := [.int (-2)]) (rest := []) ⟨gd_V k_763 k_765 k_16 k_53 k_766, ⟨rfl, rfl⟩, kd_X10_refused, ⟨Nat.le_trans (Nat.le_of_ble_eq_true rfl) hR.1, Nat.le_trans (Nat.le_of_ble_eq_true rfl) hR.2⟩⟩ (o := 0) rfl rfl rfl rfl rfl (Nat.le_of_ble_eq_true rfl) hl.1 dX10_roster_28) (fun H locs hP hS => ?_)
      exact q_iret C hr hlk hP hS (Option.some.inj hf) dX10_roster_31
  · replace hf := zf c3 hf
    refine lv_aload_n hx hb dX10_roster_7 rfl (lv_at hl 0 rfl) ?_
    refine lv_iconst (v := (-1)) hx hb dX10_roster_8 (by decide) ?_
    obtain ⟨⟨r23, σ24⟩, hg22, hf⟩ := zb hf
    try dsimp only at hf
    refine q_calli C hS (q_runV C hP (c_X10_refused (l := l) C.2.2.1 hg22) (ci := 9) (As := [.int (-1)]) (rest := []) ⟨gd_V k_763 k_765 k_16 k_53 k_766, ⟨rfl, rfl⟩, kd_X10_refused, ⟨Nat.le_trans (Nat.le_of_ble_eq_true rfl) hR.1, Nat.le_trans (Nat.le_of_ble_eq_true rfl) hR.2⟩⟩ (o := 0) rfl rfl rfl rfl rfl (Nat.le_of_ble_eq_true rfl) hl.1 dX10_roster_9) (fun H locs hP hS => ?_)
    exact q_iret C hr hlk hP hS (Option.some.inj hf) dX10_roster_12
theorem kd_X10_roster : yX10_roster.cls = RX10 ∧ yX10_roster.cls ≠ "java/lang/invoke/MethodHandle" ∧ yX10_roster.cls ≠ "java/lang/invoke/VarHandle" ∧ (parseMethodDescriptor yX10_roster.desc).map (fun d => d.parameters.length) = some 4 := by decide +kernel
def r_X10_roster : Room := { frames := 4, cells := 0, slots := 0, locals := 96 }
set_option maxRecDepth 100000 in
set_option maxHeartbeats 4000000 in
theorem c_X10_roster {l : Launch} {D : va_G} {ad : Nat → Nat} {cs : Nat → ClassId} (hD : ∀ σ, va_D (AM ad) (WM ad cs σ)) {σ : Sg} {x1 : Int32} {x2 : Int32} {x3 : Int32} {x4 : Int32} {res : Int32 × Sg} (hf : f_X10_roster σ x1 x2 x3 x4 = some res) : Met l yX10_roster (wm yX10_roster cX10_roster 8 (some .int)) r_X10_roster (va_Pc [.ref (ad 0), .int x1, .int x2, .int x3, .int x4] (BW D (TYM cs) (WM ad cs) σ)) (QI D (TYM cs) (WM ad cs) (AM ad) res.1 res.2) 0 0 (AM ad) := by
  refine q_enter (by decide) hD (Nat.le_of_ble_eq_true rfl) ?_
  intro p e s m below meth c C hr hlk hP hS ls hl
  exact w_X10_roster C hr hlk ⟨Nat.le_of_ble_eq_true rfl, Nat.le_of_ble_eq_true rfl⟩ hf hP hS hl

set_option maxRecDepth 100000 in
set_option maxHeartbeats 4000000 in
theorem w_X10_reading_24 (C : CX p m c cX10_reading 3 s args RX10 D (TYM cs) (WM ad cs) (AM ad)) (hr : meth.sig.returnType = (some .int)) (hlk : meth.locks = false) (hR : 2 ≤ R.frames ∧ 46 ≤ R.locals) {σ : Sg} {x1 : Int32} {x2 : Int32} {res : Int32 × Sg} (hf : f_X10_reading_24 σ x1 x2 = some res) {H : Heap} {locs : List Loc} (hP : va_P D vwCl (WM ad cs σ) H) (hS : va_S (AM ad) s.heap H locs) {ls : Array Slot} (hl : lv_has ls 3 [(0, .ref (ad 0)), (1, .int x1), (2, .int x2)]) : W p l e R s m args below meth c H locs 0 0 (MQ below (QI D (TYM cs) (WM ad cs) (AM ad) res.1 res.2) args s 0 0 (AM ad)) (F0 m 24 ls []) := by
  have hx := C.1.1
  have hb := C.1.2.1
  unfold f_X10_reading_24 at hf
  refine lv_aload_n hx hb dX10_reading_24 rfl (lv_at hl 0 rfl) ?_
  refine gX10_21 C hP k_685 dX10_reading_25 ?_
  refine lv_bipush (v := 8) hx hb dX10_reading_28 (by decide) ?_
  refine lv_icmp_ne (tgt := 36) hx hb dX10_reading_30 (by decide) (fun c1 => ?_) (fun c1 => ?_)
  · replace hf := zf c1 hf
    refine lv_aload_n hx hb dX10_reading_36 rfl (lv_at hl 0 rfl) ?_
    refine gX10_22 C hP k_686 dX10_reading_37 ?_
    refine lv_aload_n hx hb dX10_reading_40 rfl (lv_at hl 0 rfl) ?_
    refine gX10_21 C hP k_685 dX10_reading_41 ?_
    refine lv_iload_n hx hb dX10_reading_44 rfl (lv_at hl 1 rfl) ?_
    obtain ⟨h2, hf⟩ := zc hf
    refine astM C hP hS (n := 8) rfl h2 dX10_reading_45 (fun H locs hP hS => ?_)
    refine lv_aload_n hx hb dX10_reading_46 rfl (lv_at hl 0 rfl) ?_
    refine gX10_23 C hP k_687 dX10_reading_47 ?_
    refine lv_aload_n hx hb dX10_reading_50 rfl (lv_at hl 0 rfl) ?_
    refine gX10_21 C hP k_685 dX10_reading_51 ?_
    refine lv_iload_n hx hb dX10_reading_54 rfl (lv_at hl 2 rfl) ?_
    obtain ⟨h3, hf⟩ := zc hf
    refine astM C hP hS (n := 8) rfl h3 dX10_reading_55 (fun H locs hP hS => ?_)
    refine lv_aload_n hx hb dX10_reading_56 rfl (lv_at hl 0 rfl) ?_
    refine lv_dup hx hb dX10_reading_57 rfl ?_
    refine gX10_21 C hP k_685 dX10_reading_58 ?_
    refine lv_iconst (v := 1) hx hb dX10_reading_61 (by decide) ?_
    refine lv_iadd hx hb dX10_reading_62 ?_
    refine pX10_21 C hP hS k_685 dX10_reading_63 (fun H locs hP hS => ?_)
    refine lv_aload_n hx hb dX10_reading_66 rfl (lv_at hl 0 rfl) ?_
    refine gX10_21 C hP k_685 dX10_reading_67 ?_
    refine lv_iconst (v := 1) hx hb dX10_reading_70 (by decide) ?_
    refine lv_isub hx hb dX10_reading_71 ?_
    exact q_iret C hr hlk hP hS (Option.some.inj hf) dX10_reading_72
  · replace hf := zt c1 hf
    refine lv_bipush (v := (-4)) hx hb dX10_reading_33 (by decide) ?_
    exact q_iret C hr hlk hP hS (Option.some.inj hf) dX10_reading_35
set_option maxRecDepth 100000 in
set_option maxHeartbeats 4000000 in
theorem w_X10_reading (C : CX p m c cX10_reading 3 s args RX10 D (TYM cs) (WM ad cs) (AM ad)) (hr : meth.sig.returnType = (some .int)) (hlk : meth.locks = false) (hR : 2 ≤ R.frames ∧ 46 ≤ R.locals) {σ : Sg} {x1 : Int32} {x2 : Int32} {res : Int32 × Sg} (hf : f_X10_reading σ x1 x2 = some res) {H : Heap} {locs : List Loc} (hP : va_P D vwCl (WM ad cs σ) H) (hS : va_S (AM ad) s.heap H locs) {ls : Array Slot} (hl : lv_has ls 3 [(0, .ref (ad 0)), (1, .int x1), (2, .int x2)]) : W p l e R s m args below meth c H locs 0 0 (MQ below (QI D (TYM cs) (WM ad cs) (AM ad) res.1 res.2) args s 0 0 (AM ad)) (F0 m 0 ls []) := by
  have hx := C.1.1
  have hb := C.1.2.1
  unfold f_X10_reading at hf
  refine lv_aload_n hx hb dX10_reading_0 rfl (lv_at hl 0 rfl) ?_
  refine lv_iload_n hx hb dX10_reading_1 rfl (lv_at hl 1 rfl) ?_
  obtain ⟨r2, hg1, hf⟩ := zb hf
  try dsimp only at hf
  refine q_calli C hS (q_runV C hP (c_X10_noThing (l := l) C.2.2.1 hg1) (ci := 9) (As := [.int x1]) (rest := []) ⟨gd_V k_799 k_801 k_23 k_53 k_802, ⟨rfl, rfl⟩, kd_X10_noThing, ⟨Nat.le_trans (Nat.le_of_ble_eq_true rfl) hR.1, Nat.le_trans (Nat.le_of_ble_eq_true rfl) hR.2⟩⟩ (o := 0) rfl rfl rfl rfl rfl (Nat.le_of_ble_eq_true rfl) hl.1 dX10_reading_2) (fun H locs hP hS => ?_)
  refine lv_if_ne (tgt := 22) hx hb dX10_reading_5 (by decide) (fun c3 => ?_) (fun c3 => ?_)
  · replace hf := zf c3 hf
    refine lv_iconst (v := (-1)) hx hb dX10_reading_22 (by decide) ?_
    exact q_iret C hr hlk hP hS (Option.some.inj hf) dX10_reading_23
  · replace hf := zt c3 hf
    refine lv_iload_n hx hb dX10_reading_8 rfl (lv_at hl 2 rfl) ?_
    refine lv_bipush (v := (-9)) hx hb dX10_reading_9 (by decide) ?_
    refine lv_icmp_eq (tgt := 24) hx hb dX10_reading_11 (by decide) (fun c4 => ?_) (fun c4 => ?_)
    · replace hf := zt c4 hf
      exact w_X10_reading_24 C hr hlk hR hf hP hS (lv_sub hl [0, 1, 2] rfl)
    · replace hf := zf c4 hf
      refine lv_aload_n hx hb dX10_reading_14 rfl (lv_at hl 0 rfl) ?_
      refine lv_iload_n hx hb dX10_reading_15 rfl (lv_at hl 2 rfl) ?_
      obtain ⟨r6, hg5, hf⟩ := zb hf
      try dsimp only at hf
      refine q_calli C hS (q_runV C hP (c_X10_noThing (l := l) C.2.2.1 hg5) (ci := 9) (As := [.int x2]) (rest := []) ⟨gd_V k_799 k_801 k_23 k_53 k_802, ⟨rfl, rfl⟩, kd_X10_noThing, ⟨Nat.le_trans (Nat.le_of_ble_eq_true rfl) hR.1, Nat.le_trans (Nat.le_of_ble_eq_true rfl) hR.2⟩⟩ (o := 0) rfl rfl rfl rfl rfl (Nat.le_of_ble_eq_true rfl) hl.1 dX10_reading_16) (fun H locs hP hS => ?_)
      refine lv_if_eq (tgt := 24) hx hb dX10_reading_19 (by decide) (fun c7 => ?_) (fun c7 => ?_)
      · replace hf := zt c7 hf
        exact w_X10_reading_24 C hr hlk hR hf hP hS (lv_sub hl [0, 1, 2] rfl)
      · replace hf := zf c7 hf
        refine lv_iconst (v := (-1)) hx hb dX10_reading_22 (by decide) ?_
        exact q_iret C hr hlk hP hS (Option.some.inj hf) dX10_reading_23
theorem kd_X10_reading : yX10_reading.cls = RX10 ∧ yX10_reading.cls ≠ "java/lang/invoke/MethodHandle" ∧ yX10_reading.cls ≠ "java/lang/invoke/VarHandle" ∧ (parseMethodDescriptor yX10_reading.desc).map (fun d => d.parameters.length) = some 2 := by decide +kernel
def r_X10_reading : Room := { frames := 2, cells := 0, slots := 0, locals := 46 }
set_option maxRecDepth 100000 in
set_option maxHeartbeats 4000000 in
theorem c_X10_reading {l : Launch} {D : va_G} {ad : Nat → Nat} {cs : Nat → ClassId} (hD : ∀ σ, va_D (AM ad) (WM ad cs σ)) {σ : Sg} {x1 : Int32} {x2 : Int32} {res : Int32 × Sg} (hf : f_X10_reading σ x1 x2 = some res) : Met l yX10_reading (wm yX10_reading cX10_reading 3 (some .int)) r_X10_reading (va_Pc [.ref (ad 0), .int x1, .int x2] (BW D (TYM cs) (WM ad cs) σ)) (QI D (TYM cs) (WM ad cs) (AM ad) res.1 res.2) 0 0 (AM ad) := by
  refine q_enter (by decide) hD (Nat.le_of_ble_eq_true rfl) ?_
  intro p e s m below meth c C hr hlk hP hS ls hl
  exact w_X10_reading C hr hlk ⟨Nat.le_of_ble_eq_true rfl, Nat.le_of_ble_eq_true rfl⟩ hf hP hS hl

set_option maxRecDepth 100000 in
set_option maxHeartbeats 4000000 in
theorem w_X10_back (C : CX p m c cX10_back 2 s args RX10 D (TYM cs) (WM ad cs) (AM ad)) (hr : meth.sig.returnType = (some .int)) (hlk : meth.locks = false) (hR : 1 ≤ R.frames ∧ 25 ≤ R.locals) {σ : Sg} {x1 : Int32} {res : Int32 × Sg} (hf : f_X10_back σ x1 = some res) {H : Heap} {locs : List Loc} (hP : va_P D vwCl (WM ad cs σ) H) (hS : va_S (AM ad) s.heap H locs) {ls : Array Slot} (hl : lv_has ls 2 [(0, .ref (ad 0)), (1, .int x1)]) : W p l e R s m args below meth c H locs 0 0 (MQ below (QI D (TYM cs) (WM ad cs) (AM ad) res.1 res.2) args s 0 0 (AM ad)) (F0 m 0 ls []) := by
  have hx := C.1.1
  have hb := C.1.2.1
  unfold f_X10_back at hf
  refine lv_iload_n hx hb dX10_back_0 rfl (lv_at hl 1 rfl) ?_
  refine lv_i2l hx hb dX10_back_1 rfl ?_
  refine lv_lconst (v := 0) hx hb dX10_back_2 (by decide) ?_
  refine lv_aload_n hx hb dX10_back_3 rfl (lv_at hl 0 rfl) ?_
  refine gX10_21 C hP k_685 dX10_back_4 ?_
  refine lv_i2l hx hb dX10_back_7 rfl ?_
  obtain ⟨r2, hg1, hf⟩ := zb hf
  try dsimp only at hf
  refine q_calli C hS (q_runS C hP (c_X10_in (l := l) C.2.2.1 hg1) (As := [.long x1.toInt64, .long 0, .long ((σ 0 21).toInt64)]) (rest := []) ⟨gd_S k_760 k_761 k_53 k_762, ⟨rfl, rfl⟩, kd_X10_in, ⟨Nat.le_trans (Nat.le_of_ble_eq_true rfl) hR.1, Nat.le_trans (Nat.le_of_ble_eq_true rfl) hR.2⟩⟩ rfl rfl (Nat.le_of_ble_eq_true rfl) hl.1 dX10_back_8) (fun H locs hP hS => ?_)
  refine lv_if_ne (tgt := 17) hx hb dX10_back_11 (by decide) (fun c3 => ?_) (fun c3 => ?_)
  · replace hf := zf c3 hf
    refine lv_aload_n hx hb dX10_back_17 rfl (lv_at hl 0 rfl) ?_
    refine lv_dup hx hb dX10_back_18 rfl ?_
    refine gX10_21 C hP k_685 dX10_back_19 ?_
    refine lv_iload_n hx hb dX10_back_22 rfl (lv_at hl 1 rfl) ?_
    refine lv_isub hx hb dX10_back_23 ?_
    refine pX10_21 C hP hS k_685 dX10_back_24 (fun H locs hP hS => ?_)
    refine lv_aload_n hx hb dX10_back_27 rfl (lv_at hl 0 rfl) ?_
    refine gX10_21 C hP k_685 dX10_back_28 ?_
    exact q_iret C hr hlk hP hS (Option.some.inj hf) dX10_back_31
  · replace hf := zt c3 hf
    refine lv_bipush (v := (-2)) hx hb dX10_back_14 (by decide) ?_
    exact q_iret C hr hlk hP hS (Option.some.inj hf) dX10_back_16
theorem kd_X10_back : yX10_back.cls = RX10 ∧ yX10_back.cls ≠ "java/lang/invoke/MethodHandle" ∧ yX10_back.cls ≠ "java/lang/invoke/VarHandle" ∧ (parseMethodDescriptor yX10_back.desc).map (fun d => d.parameters.length) = some 1 := by decide +kernel
def r_X10_back : Room := { frames := 1, cells := 0, slots := 0, locals := 25 }
set_option maxRecDepth 100000 in
set_option maxHeartbeats 4000000 in
theorem c_X10_back {l : Launch} {D : va_G} {ad : Nat → Nat} {cs : Nat → ClassId} (hD : ∀ σ, va_D (AM ad) (WM ad cs σ)) {σ : Sg} {x1 : Int32} {res : Int32 × Sg} (hf : f_X10_back σ x1 = some res) : Met l yX10_back (wm yX10_back cX10_back 2 (some .int)) r_X10_back (va_Pc [.ref (ad 0), .int x1] (BW D (TYM cs) (WM ad cs) σ)) (QI D (TYM cs) (WM ad cs) (AM ad) res.1 res.2) 0 0 (AM ad) := by
  refine q_enter (by decide) hD (Nat.le_of_ble_eq_true rfl) ?_
  intro p e s m below meth c C hr hlk hP hS ls hl
  exact w_X10_back C hr hlk ⟨Nat.le_of_ble_eq_true rfl, Nat.le_of_ble_eq_true rfl⟩ hf hP hS hl

set_option maxRecDepth 100000 in
set_option maxHeartbeats 4000000 in
theorem w_X10_areSo_46 (C : CX p m c cX10_areSo 4 s args RX10 D (TYM cs) (WM ad cs) (AM ad)) (hr : meth.sig.returnType = (some .boolean)) (hlk : meth.locks = false) (hR : 4 ≤ R.frames ∧ 95 ≤ R.locals) {σ : Sg} {x3 : Int32} {s0 : Int32} {res : Int32 × Sg} {ag9 : Int32 → Int32 → Option (Int32 × Sg)} (hag9 : ∀ (x2 : Int32) (x3 : Int32) (H : Heap) (locs : List Loc) (ls : Array Slot), ag9 x2 x3 = some res → va_P D vwCl (WM ad cs σ) H → va_S (AM ad) s.heap H locs → lv_has ls 4 [(0, .ref (ad 0)), (2, .int x2), (3, .int x3)] → W p l e R s m args below meth c H locs 0 0 (MQ below (QI D (TYM cs) (WM ad cs) (AM ad) res.1 res.2) args s 0 0 (AM ad)) (F0 m 9 ls [])) (hf : f_X10_areSo_46 ag9 σ x3 s0 = some res) {H : Heap} {locs : List Loc} (hP : va_P D vwCl (WM ad cs σ) H) (hS : va_S (AM ad) s.heap H locs) {ls : Array Slot} (hl : lv_has ls 4 [(0, .ref (ad 0)), (3, .int x3)]) : W p l e R s m args below meth c H locs 0 0 (MQ below (QI D (TYM cs) (WM ad cs) (AM ad) res.1 res.2) args s 0 0 (AM ad)) (F0 m 46 ls [.int s0]) := by
  have hx := C.1.1
  have hb := C.1.2.1
  unfold f_X10_areSo_46 at hf
  refine lv_istore_n (lv' := [(2, .int s0), (0, .ref (ad 0)), (3, .int x3)]) hx hb dX10_areSo_46 rfl hl (by decide) rfl (fun ls hl => ?_)
  refine lv_iinc (v := x3 + 1) (lv' := [(3, .int (x3 + 1)), (2, .int s0), (0, .ref (ad 0))]) hx hb dX10_areSo_47 hl (k := 2) rfl rfl (by decide) rfl (fun ls hl => ?_)
  refine lv_goto (tgt := 9) hx hb dX10_areSo_50 (by decide) ?_
  exact hag9 _ _ _ _ _ hf hP hS (lv_sub hl [2, 1, 0] rfl)
set_option maxRecDepth 100000 in
set_option maxHeartbeats 4000000 in
theorem w_X10_areSo_9 (C : CX p m c cX10_areSo 4 s args RX10 D (TYM cs) (WM ad cs) (AM ad)) (hr : meth.sig.returnType = (some .boolean)) (hlk : meth.locks = false) (hR : 4 ≤ R.frames ∧ 95 ≤ R.locals) {σ : Sg} {x2 : Int32} {x3 : Int32} {res : Int32 × Sg} {ag9 : Int32 → Int32 → Option (Int32 × Sg)} (hag9 : ∀ (x2 : Int32) (x3 : Int32) (H : Heap) (locs : List Loc) (ls : Array Slot), ag9 x2 x3 = some res → va_P D vwCl (WM ad cs σ) H → va_S (AM ad) s.heap H locs → lv_has ls 4 [(0, .ref (ad 0)), (2, .int x2), (3, .int x3)] → W p l e R s m args below meth c H locs 0 0 (MQ below (QI D (TYM cs) (WM ad cs) (AM ad) res.1 res.2) args s 0 0 (AM ad)) (F0 m 9 ls [])) (hf : f_X10_areSo_9 ag9 σ x2 x3 = some res) {H : Heap} {locs : List Loc} (hP : va_P D vwCl (WM ad cs σ) H) (hS : va_S (AM ad) s.heap H locs) {ls : Array Slot} (hl : lv_has ls 4 [(0, .ref (ad 0)), (2, .int x2), (3, .int x3)]) : W p l e R s m args below meth c H locs 0 0 (MQ below (QI D (TYM cs) (WM ad cs) (AM ad) res.1 res.2) args s 0 0 (AM ad)) (F0 m 9 ls []) := by
  have hx := C.1.1
  have hb := C.1.2.1
  unfold f_X10_areSo_9 at hf
  refine lv_iload_n hx hb dX10_areSo_9 rfl (lv_at hl 2 rfl) ?_
  refine lv_aload_n hx hb dX10_areSo_10 rfl (lv_at hl 0 rfl) ?_
  refine gX10_21 C hP k_685 dX10_areSo_11 ?_
  refine lv_icmp_ge (tgt := 53) hx hb dX10_areSo_14 (by decide) (fun c1 => ?_) (fun c1 => ?_)
  · replace hf := zt c1 hf
    refine lv_iload_n hx hb dX10_areSo_53 rfl (lv_at hl 1 rfl) ?_
    obtain ⟨h2, hf⟩ := zc hf
    exact q_zret C hr hlk hP hS (Option.some.inj hf) h2 dX10_areSo_54
  · replace hf := zf c1 hf
    refine lv_iload_n hx hb dX10_areSo_17 rfl (lv_at hl 1 rfl) ?_
    refine lv_if_eq (tgt := 45) hx hb dX10_areSo_18 (by decide) (fun c3 => ?_) (fun c3 => ?_)
    · replace hf := zt c3 hf
      refine lv_iconst (v := 0) hx hb dX10_areSo_45 (by decide) ?_
      exact w_X10_areSo_46 C hr hlk hR hag9 hf hP hS (lv_sub hl [0, 2] rfl)
    · replace hf := zf c3 hf
      refine lv_aload_n hx hb dX10_areSo_21 rfl (lv_at hl 0 rfl) ?_
      refine gX10_17 C hP k_681 dX10_areSo_22 ?_
      refine lv_aload_n hx hb dX10_areSo_25 rfl (lv_at hl 0 rfl) ?_
      refine gX10_22 C hP k_686 dX10_areSo_26 ?_
      refine lv_iload_n hx hb dX10_areSo_29 rfl (lv_at hl 2 rfl) ?_
      obtain ⟨h4, hf⟩ := zc hf
      refine aldM C hP (n := 8) rfl h4 dX10_areSo_30 ?_
      obtain ⟨h5, hf⟩ := zc hf
      refine aldM C hP (n := 8) rfl h5 dX10_areSo_31 ?_
      refine lv_aload_n hx hb dX10_areSo_32 rfl (lv_at hl 0 rfl) ?_
      refine gX10_23 C hP k_687 dX10_areSo_33 ?_
      refine lv_iload_n hx hb dX10_areSo_36 rfl (lv_at hl 2 rfl) ?_
      refine aldM C hP (n := 8) rfl h4 dX10_areSo_37 ?_
      refine lv_icmp_ne (tgt := 45) hx hb dX10_areSo_38 (by decide) (fun c6 => ?_) (fun c6 => ?_)
      · replace hf := zf c6 hf
        refine lv_iconst (v := 0) hx hb dX10_areSo_45 (by decide) ?_
        exact w_X10_areSo_46 C hr hlk hR hag9 hf hP hS (lv_sub hl [0, 2] rfl)
      · replace hf := zt c6 hf
        refine lv_iconst (v := 1) hx hb dX10_areSo_41 (by decide) ?_
        refine lv_goto (tgt := 46) hx hb dX10_areSo_42 (by decide) ?_
        exact w_X10_areSo_46 C hr hlk hR hag9 hf hP hS (lv_sub hl [0, 2] rfl)
set_option maxRecDepth 100000 in
set_option maxHeartbeats 4000000 in
theorem wl_X10_areSo_9 (C : CX p m c cX10_areSo 4 s args RX10 D (TYM cs) (WM ad cs) (AM ad)) (hr : meth.sig.returnType = (some .boolean)) (hlk : meth.locks = false) (hR : 4 ≤ R.frames ∧ 95 ≤ R.locals) {σ : Sg}  {res : Int32 × Sg} : ∀ n : Nat, ∀ (x2 : Int32) (x3 : Int32) (H : Heap) (locs : List Loc) (ls : Array Slot), l_X10_areSo_9 σ n x2 x3 = some res → va_P D vwCl (WM ad cs σ) H → va_S (AM ad) s.heap H locs → lv_has ls 4 [(0, .ref (ad 0)), (2, .int x2), (3, .int x3)] → W p l e R s m args below meth c H locs 0 0 (MQ below (QI D (TYM cs) (WM ad cs) (AM ad) res.1 res.2) args s 0 0 (AM ad)) (F0 m 9 ls []) := by
  intro n
  induction n with
  | zero => intro x2 x3 H locs ls hf; cases hf
  | succ n ih =>
    intro x2 x3 H locs ls hf hP hS hl
    exact w_X10_areSo_9 C hr hlk hR (ag9 := l_X10_areSo_9 σ n) ih hf hP hS hl
set_option maxRecDepth 100000 in
set_option maxHeartbeats 4000000 in
theorem w_X10_areSo (C : CX p m c cX10_areSo 4 s args RX10 D (TYM cs) (WM ad cs) (AM ad)) (hr : meth.sig.returnType = (some .boolean)) (hlk : meth.locks = false) (hR : 4 ≤ R.frames ∧ 95 ≤ R.locals) {σ : Sg} {x1 : Int32} {res : Int32 × Sg} (hf : f_X10_areSo σ x1 = some res) {H : Heap} {locs : List Loc} (hP : va_P D vwCl (WM ad cs σ) H) (hS : va_S (AM ad) s.heap H locs) {ls : Array Slot} (hl : lv_has ls 4 [(0, .ref (ad 0)), (1, .int x1)]) : W p l e R s m args below meth c H locs 0 0 (MQ below (QI D (TYM cs) (WM ad cs) (AM ad) res.1 res.2) args s 0 0 (AM ad)) (F0 m 0 ls []) := by
  have hx := C.1.1
  have hb := C.1.2.1
  unfold f_X10_areSo at hf
  refine lv_aload_n hx hb dX10_areSo_0 rfl (lv_at hl 0 rfl) ?_
  refine lv_iload_n hx hb dX10_areSo_1 rfl (lv_at hl 1 rfl) ?_
  obtain ⟨σ2, hg1, hf⟩ := zb hf
  try dsimp only at hf
  refine q_callv C hS (q_runV C hP (c_X10_goFirst (l := l) C.2.2.1 hg1) (ci := 9) (As := [.int x1]) (rest := []) ⟨gd_V k_909 k_911 k_38 k_53 k_912, ⟨rfl, rfl⟩, kd_X10_goFirst, ⟨Nat.le_trans (Nat.le_of_ble_eq_true rfl) hR.1, Nat.le_trans (Nat.le_of_ble_eq_true rfl) hR.2⟩⟩ (o := 0) rfl rfl rfl rfl rfl (Nat.le_of_ble_eq_true rfl) hl.1 dX10_areSo_2) (fun H locs hP hS => ?_)
  refine lv_iconst (v := 1) hx hb dX10_areSo_5 (by decide) ?_
  refine lv_istore_n (lv' := [(2, .int 1), (0, .ref (ad 0)), (1, .int x1)]) hx hb dX10_areSo_6 rfl hl (by decide) rfl (fun ls hl => ?_)
  refine lv_iconst (v := 0) hx hb dX10_areSo_7 (by decide) ?_
  refine lv_istore_n (lv' := [(3, .int 0), (2, .int 1), (0, .ref (ad 0)), (1, .int x1)]) hx hb dX10_areSo_8 rfl hl (by decide) rfl (fun ls hl => ?_)
  exact wl_X10_areSo_9 C hr hlk hR fu _ _ _ _ _ hf hP hS (lv_sub hl [2, 1, 0] rfl)
theorem kd_X10_areSo : yX10_areSo.cls = RX10 ∧ yX10_areSo.cls ≠ "java/lang/invoke/MethodHandle" ∧ yX10_areSo.cls ≠ "java/lang/invoke/VarHandle" ∧ (parseMethodDescriptor yX10_areSo.desc).map (fun d => d.parameters.length) = some 1 := by decide +kernel
def r_X10_areSo : Room := { frames := 4, cells := 0, slots := 0, locals := 95 }
set_option maxRecDepth 100000 in
set_option maxHeartbeats 4000000 in
theorem c_X10_areSo {l : Launch} {D : va_G} {ad : Nat → Nat} {cs : Nat → ClassId} (hD : ∀ σ, va_D (AM ad) (WM ad cs σ)) {σ : Sg} {x1 : Int32} {res : Int32 × Sg} (hf : f_X10_areSo σ x1 = some res) : Met l yX10_areSo (wm yX10_areSo cX10_areSo 4 (some .boolean)) r_X10_areSo (va_Pc [.ref (ad 0), .int x1] (BW D (TYM cs) (WM ad cs) σ)) (QI D (TYM cs) (WM ad cs) (AM ad) res.1 res.2) 0 0 (AM ad) := by
  refine q_enter (by decide) hD (Nat.le_of_ble_eq_true rfl) ?_
  intro p e s m below meth c C hr hlk hP hS ls hl
  exact w_X10_areSo C hr hlk ⟨Nat.le_of_ble_eq_true rfl, Nat.le_of_ble_eq_true rfl⟩ hf hP hS hl

set_option maxRecDepth 100000 in
set_option maxHeartbeats 4000000 in
theorem w_X10_failed_82 (C : CX p m c cX10_failed 6 s args RX10 D (TYM cs) (WM ad cs) (AM ad)) (hr : meth.sig.returnType = (some .int)) (hlk : meth.locks = false) (hR : 5 ≤ R.frames ∧ 118 ≤ R.locals) {σ : Sg} {x1 : Int32} {x2 : Int32} {x4 : Int32} {x5 : Int32} {s0 : Int32} {res : Int32 × Sg} {ag39 : Int32 → Int32 → Int32 → Int32 → Sg → Option (Int32 × Sg)} (hag39 : ∀ (x2 : Int32) (x3 : Int32) (x4 : Int32) (x5 : Int32) (σ : Sg) (H : Heap) (locs : List Loc) (ls : Array Slot), ag39 x2 x3 x4 x5 σ = some res → va_P D vwCl (WM ad cs σ) H → va_S (AM ad) s.heap H locs → lv_has ls 6 [(0, .ref (ad 0)), (1, .int x1), (2, .int x2), (3, .int x3), (4, .int x4), (5, .int x5)] → W p l e R s m args below meth c H locs 0 0 (MQ below (QI D (TYM cs) (WM ad cs) (AM ad) res.1 res.2) args s 0 0 (AM ad)) (F0 m 39 ls [])) (hf : f_X10_failed_82 ag39 σ x1 x2 x4 x5 s0 = some res) {H : Heap} {locs : List Loc} (hP : va_P D vwCl (WM ad cs σ) H) (hS : va_S (AM ad) s.heap H locs) {ls : Array Slot} (hl : lv_has ls 6 [(0, .ref (ad 0)), (1, .int x1), (2, .int x2), (4, .int x4), (5, .int x5)]) : W p l e R s m args below meth c H locs 0 0 (MQ below (QI D (TYM cs) (WM ad cs) (AM ad) res.1 res.2) args s 0 0 (AM ad)) (F0 m 82 ls [.int s0]) := by
  have hx := C.1.1
  have hb := C.1.2.1
  unfold f_X10_failed_82 at hf
  refine lv_istore_n (lv' := [(3, .int s0), (0, .ref (ad 0)), (1, .int x1), (2, .int x2), (4, .int x4), (5, .int x5)]) hx hb dX10_failed_82 rfl hl (by decide) rfl (fun ls hl => ?_)
  refine lv_iload hx hb dX10_failed_83 (lv_at hl 4 rfl) ?_
  refine lv_iload hx hb dX10_failed_85 (lv_at hl 5 rfl) ?_
  refine lv_iand hx hb dX10_failed_87 ?_
  refine lv_istore (lv' := [(4, .int (x4 &&& x5)), (3, .int s0), (0, .ref (ad 0)), (1, .int x1), (2, .int x2), (5, .int x5)]) hx hb dX10_failed_88 hl (by decide) rfl (fun ls hl => ?_)
  refine lv_iinc (v := x5 + 1) (lv' := [(5, .int (x5 + 1)), (4, .int (x4 &&& x5)), (3, .int s0), (0, .ref (ad 0)), (1, .int x1), (2, .int x2)]) hx hb dX10_failed_90 hl (k := 5) rfl rfl (by decide) rfl (fun ls hl => ?_)
  refine lv_goto (tgt := 39) hx hb dX10_failed_93 (by decide) ?_
  exact hag39 _ _ _ _ _ _ _ _ hf hP hS (lv_sub hl [3, 4, 5, 2, 1, 0] rfl)
set_option maxRecDepth 100000 in
set_option maxHeartbeats 4000000 in
theorem w_X10_failed_39 (C : CX p m c cX10_failed 6 s args RX10 D (TYM cs) (WM ad cs) (AM ad)) (hr : meth.sig.returnType = (some .int)) (hlk : meth.locks = false) (hR : 5 ≤ R.frames ∧ 118 ≤ R.locals) {σ : Sg} {x1 : Int32} {x2 : Int32} {x3 : Int32} {x4 : Int32} {x5 : Int32} {res : Int32 × Sg} {ag39 : Int32 → Int32 → Int32 → Int32 → Sg → Option (Int32 × Sg)} (hag39 : ∀ (x2 : Int32) (x3 : Int32) (x4 : Int32) (x5 : Int32) (σ : Sg) (H : Heap) (locs : List Loc) (ls : Array Slot), ag39 x2 x3 x4 x5 σ = some res → va_P D vwCl (WM ad cs σ) H → va_S (AM ad) s.heap H locs → lv_has ls 6 [(0, .ref (ad 0)), (1, .int x1), (2, .int x2), (3, .int x3), (4, .int x4), (5, .int x5)] → W p l e R s m args below meth c H locs 0 0 (MQ below (QI D (TYM cs) (WM ad cs) (AM ad) res.1 res.2) args s 0 0 (AM ad)) (F0 m 39 ls [])) (hf : f_X10_failed_39 ag39 σ x1 x2 x3 x4 x5 = some res) {H : Heap} {locs : List Loc} (hP : va_P D vwCl (WM ad cs σ) H) (hS : va_S (AM ad) s.heap H locs) {ls : Array Slot} (hl : lv_has ls 6 [(0, .ref (ad 0)), (1, .int x1), (2, .int x2), (3, .int x3), (4, .int x4), (5, .int x5)]) : W p l e R s m args below meth c H locs 0 0 (MQ below (QI D (TYM cs) (WM ad cs) (AM ad) res.1 res.2) args s 0 0 (AM ad)) (F0 m 39 ls []) := by
  have hx := C.1.1
  have hb := C.1.2.1
  unfold f_X10_failed_39 at hf
  refine lv_iload hx hb dX10_failed_39 (lv_at hl 5 rfl) ?_
  refine lv_aload_n hx hb dX10_failed_41 rfl (lv_at hl 0 rfl) ?_
  obtain ⟨r2, hg1, hf⟩ := zb hf
  try dsimp only at hf
  refine q_calli C hS (q_runV C hP (c_X10_all (l := l) C.2.2.1 hg1) (ci := 9) (As := []) (rest := [.int x5]) ⟨gd_V k_898 k_900 k_36 k_53 k_901, ⟨rfl, rfl⟩, kd_X10_all, ⟨Nat.le_trans (Nat.le_of_ble_eq_true rfl) hR.1, Nat.le_trans (Nat.le_of_ble_eq_true rfl) hR.2⟩⟩ (o := 0) rfl rfl rfl rfl rfl (Nat.le_of_ble_eq_true rfl) hl.1 dX10_failed_42) (fun H locs hP hS => ?_)
  refine lv_icmp_gt (tgt := 96) hx hb dX10_failed_45 (by decide) (fun c3 => ?_) (fun c3 => ?_)
  · replace hf := zt c3 hf
    refine lv_iload_n hx hb dX10_failed_96 rfl (lv_at hl 1 rfl) ?_
    refine lv_if_ne (tgt := 104) hx hb dX10_failed_97 (by decide) (fun c4 => ?_) (fun c4 => ?_)
    · replace hf := zf c4 hf
      refine lv_iload_n hx hb dX10_failed_104 rfl (lv_at hl 1 rfl) ?_
      refine lv_iconst (v := 1) hx hb dX10_failed_105 (by decide) ?_
      refine lv_icmp_ne (tgt := 113) hx hb dX10_failed_106 (by decide) (fun c5 => ?_) (fun c5 => ?_)
      · replace hf := zf c5 hf
        refine lv_iload_n hx hb dX10_failed_113 rfl (lv_at hl 2 rfl) ?_
        refine lv_if_ne (tgt := 122) hx hb dX10_failed_114 (by decide) (fun c6 => ?_) (fun c6 => ?_)
        · replace hf := zf c6 hf
          refine lv_iload hx hb dX10_failed_122 (lv_at hl 4 rfl) ?_
          exact q_iret C hr hlk hP hS (Option.some.inj hf) dX10_failed_124
        · replace hf := zt c6 hf
          refine lv_bipush (v := (-9)) hx hb dX10_failed_117 (by decide) ?_
          refine lv_goto (tgt := 124) hx hb dX10_failed_119 (by decide) ?_
          exact q_iret C hr hlk hP hS (Option.some.inj hf) dX10_failed_124
      · replace hf := zt c5 hf
        refine lv_iload_n hx hb dX10_failed_109 rfl (lv_at hl 3 rfl) ?_
        refine lv_goto (tgt := 124) hx hb dX10_failed_110 (by decide) ?_
        exact q_iret C hr hlk hP hS (Option.some.inj hf) dX10_failed_124
    · replace hf := zt c4 hf
      refine lv_iload_n hx hb dX10_failed_100 rfl (lv_at hl 2 rfl) ?_
      refine lv_goto (tgt := 124) hx hb dX10_failed_101 (by decide) ?_
      exact q_iret C hr hlk hP hS (Option.some.inj hf) dX10_failed_124
  · replace hf := zf c3 hf
    refine lv_aload_n hx hb dX10_failed_48 rfl (lv_at hl 0 rfl) ?_
    refine lv_iload hx hb dX10_failed_49 (lv_at hl 5 rfl) ?_
    obtain ⟨⟨r8, σ9⟩, hg7, hf⟩ := zb hf
    try dsimp only at hf
    refine q_calli C hS (q_runV C hP (c_X10_areSo (l := l) C.2.2.1 hg7) (ci := 9) (As := [.int x5]) (rest := []) ⟨gd_V k_941 k_943 k_39 k_53 k_944, ⟨rfl, rfl⟩, kd_X10_areSo, ⟨Nat.le_trans (Nat.le_of_ble_eq_true rfl) hR.1, Nat.le_trans (Nat.le_of_ble_eq_true rfl) hR.2⟩⟩ (o := 0) rfl rfl rfl rfl rfl (Nat.le_of_ble_eq_true rfl) hl.1 dX10_failed_51) (fun H locs hP hS => ?_)
    refine lv_if_eq (tgt := 90) hx hb dX10_failed_54 (by decide) (fun c10 => ?_) (fun c10 => ?_)
    · replace hf := zt c10 hf
      refine lv_iinc (v := x5 + 1) (lv' := [(5, .int (x5 + 1)), (0, .ref (ad 0)), (1, .int x1), (2, .int x2), (3, .int x3), (4, .int x4)]) hx hb dX10_failed_90 hl (k := 5) rfl rfl (by decide) rfl (fun ls hl => ?_)
      refine lv_goto (tgt := 39) hx hb dX10_failed_93 (by decide) ?_
      exact hag39 _ _ _ _ _ _ _ _ hf hP hS (lv_sub hl [1, 2, 3, 4, 5, 0] rfl)
    · replace hf := zf c10 hf
      refine lv_iinc (v := x2 + 1) (lv' := [(2, .int (x2 + 1)), (0, .ref (ad 0)), (1, .int x1), (3, .int x3), (4, .int x4), (5, .int x5)]) hx hb dX10_failed_57 hl (k := 2) rfl rfl (by decide) rfl (fun ls hl => ?_)
      refine lv_iload_n hx hb dX10_failed_60 rfl (lv_at hl 3 rfl) ?_
      refine lv_if_lt (tgt := 76) hx hb dX10_failed_61 (by decide) (fun c11 => ?_) (fun c11 => ?_)
      · replace hf := zt c11 hf
        refine lv_iload hx hb dX10_failed_76 (lv_at hl 5 rfl) ?_
        refine lv_goto (tgt := 82) hx hb dX10_failed_78 (by decide) ?_
        exact w_X10_failed_82 C hr hlk hR hag39 hf hP hS (lv_sub hl [1, 2, 0, 4, 5] rfl)
      · replace hf := zf c11 hf
        refine lv_iload hx hb dX10_failed_64 (lv_at hl 5 rfl) ?_
        obtain ⟨r13, hg12, hf⟩ := zb hf
        try dsimp only at hf
        refine q_calli C hS (q_runS C hP (c_X10_bits (l := l) C.2.2.1 hg12) (As := [.int x5]) (rest := []) ⟨gd_S k_902 k_903 k_53 k_904, ⟨rfl, rfl⟩, kd_X10_bits, ⟨Nat.le_trans (Nat.le_of_ble_eq_true rfl) hR.1, Nat.le_trans (Nat.le_of_ble_eq_true rfl) hR.2⟩⟩ rfl rfl (Nat.le_of_ble_eq_true rfl) hl.1 dX10_failed_66) (fun H locs hP hS => ?_)
        refine lv_iload_n hx hb dX10_failed_69 rfl (lv_at hl 3 rfl) ?_
        obtain ⟨r15, hg14, hf⟩ := zb hf
        try dsimp only at hf
        refine q_calli C hS (q_runS C hP (c_X10_bits (l := l) C.2.2.1 hg14) (As := [.int x3]) (rest := [.int r13]) ⟨gd_S k_902 k_903 k_53 k_904, ⟨rfl, rfl⟩, kd_X10_bits, ⟨Nat.le_trans (Nat.le_of_ble_eq_true rfl) hR.1, Nat.le_trans (Nat.le_of_ble_eq_true rfl) hR.2⟩⟩ rfl rfl (Nat.le_of_ble_eq_true rfl) hl.1 dX10_failed_70) (fun H locs hP hS => ?_)
        refine lv_icmp_ge (tgt := 81) hx hb dX10_failed_73 (by decide) (fun c16 => ?_) (fun c16 => ?_)
        · replace hf := zt c16 hf
          refine lv_iload_n hx hb dX10_failed_81 rfl (lv_at hl 3 rfl) ?_
          exact w_X10_failed_82 C hr hlk hR hag39 hf hP hS (lv_sub hl [1, 2, 0, 4, 5] rfl)
        · replace hf := zf c16 hf
          refine lv_iload hx hb dX10_failed_76 (lv_at hl 5 rfl) ?_
          refine lv_goto (tgt := 82) hx hb dX10_failed_78 (by decide) ?_
          exact w_X10_failed_82 C hr hlk hR hag39 hf hP hS (lv_sub hl [1, 2, 0, 4, 5] rfl)
set_option maxRecDepth 100000 in
set_option maxHeartbeats 4000000 in
theorem wl_X10_failed_39 (C : CX p m c cX10_failed 6 s args RX10 D (TYM cs) (WM ad cs) (AM ad)) (hr : meth.sig.returnType = (some .int)) (hlk : meth.locks = false) (hR : 5 ≤ R.frames ∧ 118 ≤ R.locals) {x1 : Int32} {res : Int32 × Sg} : ∀ n : Nat, ∀ (x2 : Int32) (x3 : Int32) (x4 : Int32) (x5 : Int32) (σ : Sg) (H : Heap) (locs : List Loc) (ls : Array Slot), l_X10_failed_39 x1 n x2 x3 x4 x5 σ = some res → va_P D vwCl (WM ad cs σ) H → va_S (AM ad) s.heap H locs → lv_has ls 6 [(0, .ref (ad 0)), (1, .int x1), (2, .int x2), (3, .int x3), (4, .int x4), (5, .int x5)] → W p l e R s m args below meth c H locs 0 0 (MQ below (QI D (TYM cs) (WM ad cs) (AM ad) res.1 res.2) args s 0 0 (AM ad)) (F0 m 39 ls []) := by
  intro n
  induction n with
  | zero => intro x2 x3 x4 x5 σ H locs ls hf; cases hf
  | succ n ih =>
    intro x2 x3 x4 x5 σ H locs ls hf hP hS hl
    exact w_X10_failed_39 C hr hlk hR (ag39 := l_X10_failed_39 x1 n) ih hf hP hS hl
set_option maxRecDepth 100000 in
set_option maxHeartbeats 4000000 in
theorem w_X10_failed (C : CX p m c cX10_failed 6 s args RX10 D (TYM cs) (WM ad cs) (AM ad)) (hr : meth.sig.returnType = (some .int)) (hlk : meth.locks = false) (hR : 5 ≤ R.frames ∧ 118 ≤ R.locals) {σ : Sg} {x1 : Int32} {res : Int32 × Sg} (hf : f_X10_failed σ x1 = some res) {H : Heap} {locs : List Loc} (hP : va_P D vwCl (WM ad cs σ) H) (hS : va_S (AM ad) s.heap H locs) {ls : Array Slot} (hl : lv_has ls 6 [(0, .ref (ad 0)), (1, .int x1)]) : W p l e R s m args below meth c H locs 0 0 (MQ below (QI D (TYM cs) (WM ad cs) (AM ad) res.1 res.2) args s 0 0 (AM ad)) (F0 m 0 ls []) := by
  have hx := C.1.1
  have hb := C.1.2.1
  unfold f_X10_failed at hf
  refine lv_iload_n hx hb dX10_failed_0 rfl (lv_at hl 1 rfl) ?_
  refine lv_i2l hx hb dX10_failed_1 rfl ?_
  refine lv_lconst (v := 0) hx hb dX10_failed_2 (by decide) ?_
  refine lv_ldc2 (v := 2) hx hb C.1.2.2.2.1 (C.1.2.2.2.2 _ k_767) dX10_failed_3 ?_
  obtain ⟨r2, hg1, hf⟩ := zb hf
  try dsimp only at hf
  refine q_calli C hS (q_runS C hP (c_X10_in (l := l) C.2.2.1 hg1) (As := [.long x1.toInt64, .long 0, .long 2]) (rest := []) ⟨gd_S k_760 k_761 k_53 k_762, ⟨rfl, rfl⟩, kd_X10_in, ⟨Nat.le_trans (Nat.le_of_ble_eq_true rfl) hR.1, Nat.le_trans (Nat.le_of_ble_eq_true rfl) hR.2⟩⟩ rfl rfl (Nat.le_of_ble_eq_true rfl) hl.1 dX10_failed_6) (fun H locs hP hS => ?_)
  refine lv_if_ne (tgt := 15) hx hb dX10_failed_9 (by decide) (fun c3 => ?_) (fun c3 => ?_)
  · replace hf := zf c3 hf
    refine lv_aload_n hx hb dX10_failed_15 rfl (lv_at hl 0 rfl) ?_
    refine gX10_1 C hP k_665 dX10_failed_16 ?_
    refine lv_if_ne (tgt := 25) hx hb dX10_failed_19 (by decide) (fun c4 => ?_) (fun c4 => ?_)
    · replace hf := zf c4 hf
      refine lv_iconst (v := 0) hx hb dX10_failed_25 (by decide) ?_
      refine lv_istore_n (lv' := [(2, .int 0), (0, .ref (ad 0)), (1, .int x1)]) hx hb dX10_failed_26 rfl hl (by decide) rfl (fun ls hl => ?_)
      refine lv_bipush (v := (-9)) hx hb dX10_failed_27 (by decide) ?_
      refine lv_istore_n (lv' := [(3, .int (-9)), (2, .int 0), (0, .ref (ad 0)), (1, .int x1)]) hx hb dX10_failed_29 rfl hl (by decide) rfl (fun ls hl => ?_)
      refine lv_aload_n hx hb dX10_failed_30 rfl (lv_at hl 2 rfl) ?_
      obtain ⟨r6, hg5, hf⟩ := zb hf
      try dsimp only at hf
      refine q_calli C hS (q_runV C hP (c_X10_all (l := l) C.2.2.1 hg5) (ci := 9) (As := []) (rest := []) ⟨gd_V k_898 k_900 k_36 k_53 k_901, ⟨rfl, rfl⟩, kd_X10_all, ⟨Nat.le_trans (Nat.le_of_ble_eq_true rfl) hR.1, Nat.le_trans (Nat.le_of_ble_eq_true rfl) hR.2⟩⟩ (o := 0) rfl rfl rfl rfl rfl (Nat.le_of_ble_eq_true rfl) hl.1 dX10_failed_31) (fun H locs hP hS => ?_)
      refine lv_istore (lv' := [(4, .int r6), (3, .int (-9)), (2, .int 0), (0, .ref (ad 0)), (1, .int x1)]) hx hb dX10_failed_34 hl (by decide) rfl (fun ls hl => ?_)
      refine lv_iconst (v := 0) hx hb dX10_failed_36 (by decide) ?_
      refine lv_istore (lv' := [(5, .int 0), (4, .int r6), (3, .int (-9)), (2, .int 0), (0, .ref (ad 0)), (1, .int x1)]) hx hb dX10_failed_37 hl (by decide) rfl (fun ls hl => ?_)
      exact wl_X10_failed_39 C hr hlk hR fu _ _ _ _ _ _ _ _ hf hP hS (lv_sub hl [4, 5, 3, 2, 1, 0] rfl)
    · replace hf := zt c4 hf
      refine lv_bipush (v := (-3)) hx hb dX10_failed_22 (by decide) ?_
      exact q_iret C hr hlk hP hS (Option.some.inj hf) dX10_failed_24
  · replace hf := zt c3 hf
    refine lv_bipush (v := (-2)) hx hb dX10_failed_12 (by decide) ?_
    exact q_iret C hr hlk hP hS (Option.some.inj hf) dX10_failed_14
theorem kd_X10_failed : yX10_failed.cls = RX10 ∧ yX10_failed.cls ≠ "java/lang/invoke/MethodHandle" ∧ yX10_failed.cls ≠ "java/lang/invoke/VarHandle" ∧ (parseMethodDescriptor yX10_failed.desc).map (fun d => d.parameters.length) = some 1 := by decide +kernel
def r_X10_failed : Room := { frames := 5, cells := 0, slots := 0, locals := 118 }
set_option maxRecDepth 100000 in
set_option maxHeartbeats 4000000 in
theorem c_X10_failed {l : Launch} {D : va_G} {ad : Nat → Nat} {cs : Nat → ClassId} (hD : ∀ σ, va_D (AM ad) (WM ad cs σ)) {σ : Sg} {x1 : Int32} {res : Int32 × Sg} (hf : f_X10_failed σ x1 = some res) : Met l yX10_failed (wm yX10_failed cX10_failed 6 (some .int)) r_X10_failed (va_Pc [.ref (ad 0), .int x1] (BW D (TYM cs) (WM ad cs) σ)) (QI D (TYM cs) (WM ad cs) (AM ad) res.1 res.2) 0 0 (AM ad) := by
  refine q_enter (by decide) hD (Nat.le_of_ble_eq_true rfl) ?_
  intro p e s m below meth c C hr hlk hP hS ls hl
  exact w_X10_failed C hr hlk ⟨Nat.le_of_ble_eq_true rfl, Nat.le_of_ble_eq_true rfl⟩ hf hP hS hl

set_option maxRecDepth 100000 in
set_option maxHeartbeats 4000000 in
theorem w_X10_laws_49 (C : CX p m c cX10_laws 4 s args RX10 D (TYM cs) (WM ad cs) (AM ad)) (hr : meth.sig.returnType = (some .int)) (hlk : meth.locks = false) (hR : 5 ≤ R.frames ∧ 118 ≤ R.locals) {σ : Sg} {x1 : Int32} {x3 : Int32} {s0 : Int32} {s1 : Int32} {res : Int32 × Sg} {ag19 : Int32 → Int32 → Sg → Option (Int32 × Sg)} (hag19 : ∀ (x2 : Int32) (x3 : Int32) (σ : Sg) (H : Heap) (locs : List Loc) (ls : Array Slot), ag19 x2 x3 σ = some res → va_P D vwCl (WM ad cs σ) H → va_S (AM ad) s.heap H locs → lv_has ls 4 [(0, .ref (ad 0)), (1, .int x1), (2, .int x2), (3, .int x3)] → W p l e R s m args below meth c H locs 0 0 (MQ below (QI D (TYM cs) (WM ad cs) (AM ad) res.1 res.2) args s 0 0 (AM ad)) (F0 m 19 ls [])) (hf : f_X10_laws_49 ag19 σ x1 x3 s0 s1 = some res) {H : Heap} {locs : List Loc} (hP : va_P D vwCl (WM ad cs σ) H) (hS : va_S (AM ad) s.heap H locs) {ls : Array Slot} (hl : lv_has ls 4 [(0, .ref (ad 0)), (1, .int x1), (3, .int x3)]) : W p l e R s m args below meth c H locs 0 0 (MQ below (QI D (TYM cs) (WM ad cs) (AM ad) res.1 res.2) args s 0 0 (AM ad)) (F0 m 49 ls [.int s0, .int s1]) := by
  have hx := C.1.1
  have hb := C.1.2.1
  unfold f_X10_laws_49 at hf
  refine lv_ior hx hb dX10_laws_49 ?_
  refine lv_istore_n (lv' := [(2, .int (s1 ||| s0)), (0, .ref (ad 0)), (1, .int x1), (3, .int x3)]) hx hb dX10_laws_50 rfl hl (by decide) rfl (fun ls hl => ?_)
  refine lv_iinc (v := x3 + 1) (lv' := [(3, .int (x3 + 1)), (2, .int (s1 ||| s0)), (0, .ref (ad 0)), (1, .int x1)]) hx hb dX10_laws_51 hl (k := 3) rfl rfl (by decide) rfl (fun ls hl => ?_)
  refine lv_goto (tgt := 19) hx hb dX10_laws_54 (by decide) ?_
  exact hag19 _ _ _ _ _ _ hf hP hS (lv_sub hl [2, 3, 1, 0] rfl)
set_option maxRecDepth 100000 in
set_option maxHeartbeats 4000000 in
theorem w_X10_laws_19 (C : CX p m c cX10_laws 4 s args RX10 D (TYM cs) (WM ad cs) (AM ad)) (hr : meth.sig.returnType = (some .int)) (hlk : meth.locks = false) (hR : 5 ≤ R.frames ∧ 118 ≤ R.locals) {σ : Sg} {x1 : Int32} {x2 : Int32} {x3 : Int32} {res : Int32 × Sg} {ag19 : Int32 → Int32 → Sg → Option (Int32 × Sg)} (hag19 : ∀ (x2 : Int32) (x3 : Int32) (σ : Sg) (H : Heap) (locs : List Loc) (ls : Array Slot), ag19 x2 x3 σ = some res → va_P D vwCl (WM ad cs σ) H → va_S (AM ad) s.heap H locs → lv_has ls 4 [(0, .ref (ad 0)), (1, .int x1), (2, .int x2), (3, .int x3)] → W p l e R s m args below meth c H locs 0 0 (MQ below (QI D (TYM cs) (WM ad cs) (AM ad) res.1 res.2) args s 0 0 (AM ad)) (F0 m 19 ls [])) (hf : f_X10_laws_19 ag19 σ x1 x2 x3 = some res) {H : Heap} {locs : List Loc} (hP : va_P D vwCl (WM ad cs σ) H) (hS : va_S (AM ad) s.heap H locs) {ls : Array Slot} (hl : lv_has ls 4 [(0, .ref (ad 0)), (1, .int x1), (2, .int x2), (3, .int x3)]) : W p l e R s m args below meth c H locs 0 0 (MQ below (QI D (TYM cs) (WM ad cs) (AM ad) res.1 res.2) args s 0 0 (AM ad)) (F0 m 19 ls []) := by
  have hx := C.1.1
  have hb := C.1.2.1
  unfold f_X10_laws_19 at hf
  refine lv_iload_n hx hb dX10_laws_19 rfl (lv_at hl 3 rfl) ?_
  refine lv_iconst (v := 3) hx hb dX10_laws_20 (by decide) ?_
  refine lv_icmp_ge (tgt := 57) hx hb dX10_laws_21 (by decide) (fun c1 => ?_) (fun c1 => ?_)
  · replace hf := zt c1 hf
    refine lv_aload_n hx hb dX10_laws_57 rfl (lv_at hl 0 rfl) ?_
    refine lv_iload_n hx hb dX10_laws_58 rfl (lv_at hl 1 rfl) ?_
    refine pX10_6 C hP hS k_670 dX10_laws_59 (fun H locs hP hS => ?_)
    refine lv_iload_n hx hb dX10_laws_62 rfl (lv_at hl 2 rfl) ?_
    exact q_iret C hr hlk hP hS (Option.some.inj hf) dX10_laws_63
  · replace hf := zf c1 hf
    refine lv_aload_n hx hb dX10_laws_24 rfl (lv_at hl 0 rfl) ?_
    refine lv_iload_n hx hb dX10_laws_25 rfl (lv_at hl 3 rfl) ?_
    refine pX10_6 C hP hS k_670 dX10_laws_26 (fun H locs hP hS => ?_)
    refine lv_iload_n hx hb dX10_laws_29 rfl (lv_at hl 2 rfl) ?_
    refine lv_aload_n hx hb dX10_laws_30 rfl (lv_at hl 0 rfl) ?_
    refine lv_aload_n hx hb dX10_laws_31 rfl (lv_at hl 0 rfl) ?_
    refine lv_iconst (v := 0) hx hb dX10_laws_32 (by decide) ?_
    obtain ⟨r3, hg2, hf⟩ := zb hf
    try dsimp only at hf
    refine q_calli C hS (q_runV C hP (c_X10_brokenIn (l := l) C.2.2.1 hg2) (ci := 9) (As := [.int 0]) (rest := [.ref (ad 0), .int x2]) ⟨gd_V k_839 k_841 k_27 k_53 k_842, ⟨rfl, rfl⟩, kd_X10_brokenIn, ⟨Nat.le_trans (Nat.le_of_ble_eq_true rfl) hR.1, Nat.le_trans (Nat.le_of_ble_eq_true rfl) hR.2⟩⟩ (o := 0) rfl rfl rfl rfl rfl (Nat.le_of_ble_eq_true rfl) hl.1 dX10_laws_33) (fun H locs hP hS => ?_)
    obtain ⟨⟨r5, σ6⟩, hg4, hf⟩ := zb hf
    try dsimp only at hf
    refine q_calli C hS (q_runV C hP (c_X10_areSo (l := l) C.2.2.1 hg4) (ci := 9) (As := [.int r3]) (rest := [.int x2]) ⟨gd_V k_941 k_943 k_39 k_53 k_944, ⟨rfl, rfl⟩, kd_X10_areSo, ⟨Nat.le_trans (Nat.le_of_ble_eq_true rfl) hR.1, Nat.le_trans (Nat.le_of_ble_eq_true rfl) hR.2⟩⟩ (o := 0) rfl rfl rfl rfl rfl (Nat.le_of_ble_eq_true rfl) hl.1 dX10_laws_36) (fun H locs hP hS => ?_)
    refine lv_if_eq (tgt := 48) hx hb dX10_laws_39 (by decide) (fun c7 => ?_) (fun c7 => ?_)
    · replace hf := zt c7 hf
      refine lv_iconst (v := 0) hx hb dX10_laws_48 (by decide) ?_
      exact w_X10_laws_49 C hr hlk hR hag19 hf hP hS (lv_sub hl [0, 1, 3] rfl)
    · replace hf := zf c7 hf
      refine lv_iconst (v := 1) hx hb dX10_laws_42 (by decide) ?_
      refine lv_iload_n hx hb dX10_laws_43 rfl (lv_at hl 3 rfl) ?_
      refine lv_ishl hx hb dX10_laws_44 ?_
      refine lv_goto (tgt := 49) hx hb dX10_laws_45 (by decide) ?_
      exact w_X10_laws_49 C hr hlk hR hag19 hf hP hS (lv_sub hl [0, 1, 3] rfl)
set_option maxRecDepth 100000 in
set_option maxHeartbeats 4000000 in
theorem wl_X10_laws_19 (C : CX p m c cX10_laws 4 s args RX10 D (TYM cs) (WM ad cs) (AM ad)) (hr : meth.sig.returnType = (some .int)) (hlk : meth.locks = false) (hR : 5 ≤ R.frames ∧ 118 ≤ R.locals) {x1 : Int32} {res : Int32 × Sg} : ∀ n : Nat, ∀ (x2 : Int32) (x3 : Int32) (σ : Sg) (H : Heap) (locs : List Loc) (ls : Array Slot), l_X10_laws_19 x1 n x2 x3 σ = some res → va_P D vwCl (WM ad cs σ) H → va_S (AM ad) s.heap H locs → lv_has ls 4 [(0, .ref (ad 0)), (1, .int x1), (2, .int x2), (3, .int x3)] → W p l e R s m args below meth c H locs 0 0 (MQ below (QI D (TYM cs) (WM ad cs) (AM ad) res.1 res.2) args s 0 0 (AM ad)) (F0 m 19 ls []) := by
  intro n
  induction n with
  | zero => intro x2 x3 σ H locs ls hf; cases hf
  | succ n ih =>
    intro x2 x3 σ H locs ls hf hP hS hl
    exact w_X10_laws_19 C hr hlk hR (ag19 := l_X10_laws_19 x1 n) ih hf hP hS hl
set_option maxRecDepth 100000 in
set_option maxHeartbeats 4000000 in
theorem w_X10_laws (C : CX p m c cX10_laws 4 s args RX10 D (TYM cs) (WM ad cs) (AM ad)) (hr : meth.sig.returnType = (some .int)) (hlk : meth.locks = false) (hR : 5 ≤ R.frames ∧ 118 ≤ R.locals) {σ : Sg}  {res : Int32 × Sg} (hf : f_X10_laws σ = some res) {H : Heap} {locs : List Loc} (hP : va_P D vwCl (WM ad cs σ) H) (hS : va_S (AM ad) s.heap H locs) {ls : Array Slot} (hl : lv_has ls 4 [(0, .ref (ad 0))]) : W p l e R s m args below meth c H locs 0 0 (MQ below (QI D (TYM cs) (WM ad cs) (AM ad) res.1 res.2) args s 0 0 (AM ad)) (F0 m 0 ls []) := by
  have hx := C.1.1
  have hb := C.1.2.1
  unfold f_X10_laws at hf
  refine lv_aload_n hx hb dX10_laws_0 rfl (lv_at hl 0 rfl) ?_
  refine gX10_1 C hP k_665 dX10_laws_1 ?_
  refine lv_if_ne (tgt := 10) hx hb dX10_laws_4 (by decide) (fun c1 => ?_) (fun c1 => ?_)
  · replace hf := zf c1 hf
    refine lv_aload_n hx hb dX10_laws_10 rfl (lv_at hl 0 rfl) ?_
    refine gX10_6 C hP k_670 dX10_laws_11 ?_
    refine lv_istore_n (lv' := [(1, .int (σ 0 6)), (0, .ref (ad 0))]) hx hb dX10_laws_14 rfl hl (by decide) rfl (fun ls hl => ?_)
    refine lv_iconst (v := 0) hx hb dX10_laws_15 (by decide) ?_
    refine lv_istore_n (lv' := [(2, .int 0), (1, .int (σ 0 6)), (0, .ref (ad 0))]) hx hb dX10_laws_16 rfl hl (by decide) rfl (fun ls hl => ?_)
    refine lv_iconst (v := 0) hx hb dX10_laws_17 (by decide) ?_
    refine lv_istore_n (lv' := [(3, .int 0), (2, .int 0), (1, .int (σ 0 6)), (0, .ref (ad 0))]) hx hb dX10_laws_18 rfl hl (by decide) rfl (fun ls hl => ?_)
    exact wl_X10_laws_19 C hr hlk hR fu _ _ _ _ _ _ hf hP hS (lv_sub hl [3, 2, 1, 0] rfl)
  · replace hf := zt c1 hf
    refine lv_bipush (v := (-3)) hx hb dX10_laws_7 (by decide) ?_
    exact q_iret C hr hlk hP hS (Option.some.inj hf) dX10_laws_9
theorem kd_X10_laws : yX10_laws.cls = RX10 ∧ yX10_laws.cls ≠ "java/lang/invoke/MethodHandle" ∧ yX10_laws.cls ≠ "java/lang/invoke/VarHandle" ∧ (parseMethodDescriptor yX10_laws.desc).map (fun d => d.parameters.length) = some 0 := by decide +kernel
def r_X10_laws : Room := { frames := 5, cells := 0, slots := 0, locals := 118 }
set_option maxRecDepth 100000 in
set_option maxHeartbeats 4000000 in
theorem c_X10_laws {l : Launch} {D : va_G} {ad : Nat → Nat} {cs : Nat → ClassId} (hD : ∀ σ, va_D (AM ad) (WM ad cs σ)) {σ : Sg}  {res : Int32 × Sg} (hf : f_X10_laws σ = some res) : Met l yX10_laws (wm yX10_laws cX10_laws 4 (some .int)) r_X10_laws (va_Pc [.ref (ad 0)] (BW D (TYM cs) (WM ad cs) σ)) (QI D (TYM cs) (WM ad cs) (AM ad) res.1 res.2) 0 0 (AM ad) := by
  refine q_enter (by decide) hD (Nat.le_of_ble_eq_true rfl) ?_
  intro p e s m below meth c C hr hlk hP hS ls hl
  exact w_X10_laws C hr hlk ⟨Nat.le_of_ble_eq_true rfl, Nat.le_of_ble_eq_true rfl⟩ hf hP hS hl

set_option maxRecDepth 100000 in
set_option maxHeartbeats 4000000 in
theorem w_X10_odds_18 (C : CX p m c cX10_odds 6 s args RX10 D (TYM cs) (WM ad cs) (AM ad)) (hr : meth.sig.returnType = (some .long)) (hlk : meth.locks = false) (hR : 4 ≤ R.frames ∧ 95 ≤ R.locals) {σ : Sg}  {res : Int64 × Sg} (hf : f_X10_odds_18 σ = some res) {H : Heap} {locs : List Loc} (hP : va_P D vwCl (WM ad cs σ) H) (hS : va_S (AM ad) s.heap H locs) {ls : Array Slot} (hl : lv_has ls 6 []) : W p l e R s m args below meth c H locs 0 0 (MQ below (QL D (TYM cs) (WM ad cs) (AM ad) res.1 res.2) args s 0 0 (AM ad)) (F0 m 18 ls []) := by
  have hx := C.1.1
  have hb := C.1.2.1
  unfold f_X10_odds_18 at hf
  obtain ⟨r2, hg1, hf⟩ := zb hf
  try dsimp only at hf
  refine q_calll C hS (q_runS C hP (c_X10_lost (l := l) C.2.2.1 hg1) (As := []) (rest := []) ⟨gd_S k_953 k_954 k_53 k_955, ⟨rfl, rfl⟩, kd_X10_lost, ⟨Nat.le_trans (Nat.le_of_ble_eq_true rfl) hR.1, Nat.le_trans (Nat.le_of_ble_eq_true rfl) hR.2⟩⟩ rfl rfl (Nat.le_of_ble_eq_true rfl) hl.1 dX10_odds_18) (fun H locs hP hS => ?_)
  exact q_lret C hr hlk hP hS (Option.some.inj hf) dX10_odds_21
set_option maxRecDepth 100000 in
set_option maxHeartbeats 4000000 in
theorem w_X10_odds_57 (C : CX p m c cX10_odds 6 s args RX10 D (TYM cs) (WM ad cs) (AM ad)) (hr : meth.sig.returnType = (some .long)) (hlk : meth.locks = false) (hR : 4 ≤ R.frames ∧ 95 ≤ R.locals) {σ : Sg} {x1 : Int32} {x2 : Int32} {x5 : Int32} {s0 : Int64} {s1 : Int64} {res : Int64 × Sg} {ag27 : Int64 → Int32 → Sg → Option (Int64 × Sg)} (hag27 : ∀ (x3 : Int64) (x5 : Int32) (σ : Sg) (H : Heap) (locs : List Loc) (ls : Array Slot), ag27 x3 x5 σ = some res → va_P D vwCl (WM ad cs σ) H → va_S (AM ad) s.heap H locs → lv_has ls 6 [(0, .ref (ad 0)), (1, .int x1), (2, .int x2), (3, .long x3), (5, .int x5)] → W p l e R s m args below meth c H locs 0 0 (MQ below (QL D (TYM cs) (WM ad cs) (AM ad) res.1 res.2) args s 0 0 (AM ad)) (F0 m 27 ls [])) (hf : f_X10_odds_57 ag27 σ x1 x2 x5 s0 s1 = some res) {H : Heap} {locs : List Loc} (hP : va_P D vwCl (WM ad cs σ) H) (hS : va_S (AM ad) s.heap H locs) {ls : Array Slot} (hl : lv_has ls 6 [(0, .ref (ad 0)), (1, .int x1), (2, .int x2), (5, .int x5)]) : W p l e R s m args below meth c H locs 0 0 (MQ below (QL D (TYM cs) (WM ad cs) (AM ad) res.1 res.2) args s 0 0 (AM ad)) (F0 m 57 ls [.long s0, .long s1]) := by
  have hx := C.1.1
  have hb := C.1.2.1
  unfold f_X10_odds_57 at hf
  refine lv_ladd hx hb dX10_odds_57 ?_
  refine lv_lstore_n (lv' := [(3, .long (s1 + s0)), (0, .ref (ad 0)), (1, .int x1), (2, .int x2), (5, .int x5)]) hx hb dX10_odds_58 rfl hl (by decide) rfl (fun ls hl => ?_)
  refine lv_iinc (v := x5 + 1) (lv' := [(5, .int (x5 + 1)), (3, .long (s1 + s0)), (0, .ref (ad 0)), (1, .int x1), (2, .int x2)]) hx hb dX10_odds_59 hl (k := 4) rfl rfl (by decide) rfl (fun ls hl => ?_)
  refine lv_goto (tgt := 27) hx hb dX10_odds_62 (by decide) ?_
  exact hag27 _ _ _ _ _ _ hf hP hS (lv_sub hl [2, 3, 4, 1, 0] rfl)
set_option maxRecDepth 100000 in
set_option maxHeartbeats 4000000 in
theorem w_X10_odds_27 (C : CX p m c cX10_odds 6 s args RX10 D (TYM cs) (WM ad cs) (AM ad)) (hr : meth.sig.returnType = (some .long)) (hlk : meth.locks = false) (hR : 4 ≤ R.frames ∧ 95 ≤ R.locals) {σ : Sg} {x1 : Int32} {x2 : Int32} {x3 : Int64} {x5 : Int32} {res : Int64 × Sg} {ag27 : Int64 → Int32 → Sg → Option (Int64 × Sg)} (hag27 : ∀ (x3 : Int64) (x5 : Int32) (σ : Sg) (H : Heap) (locs : List Loc) (ls : Array Slot), ag27 x3 x5 σ = some res → va_P D vwCl (WM ad cs σ) H → va_S (AM ad) s.heap H locs → lv_has ls 6 [(0, .ref (ad 0)), (1, .int x1), (2, .int x2), (3, .long x3), (5, .int x5)] → W p l e R s m args below meth c H locs 0 0 (MQ below (QL D (TYM cs) (WM ad cs) (AM ad) res.1 res.2) args s 0 0 (AM ad)) (F0 m 27 ls [])) (hf : f_X10_odds_27 ag27 σ x1 x2 x3 x5 = some res) {H : Heap} {locs : List Loc} (hP : va_P D vwCl (WM ad cs σ) H) (hS : va_S (AM ad) s.heap H locs) {ls : Array Slot} (hl : lv_has ls 6 [(0, .ref (ad 0)), (1, .int x1), (2, .int x2), (3, .long x3), (5, .int x5)]) : W p l e R s m args below meth c H locs 0 0 (MQ below (QL D (TYM cs) (WM ad cs) (AM ad) res.1 res.2) args s 0 0 (AM ad)) (F0 m 27 ls []) := by
  have hx := C.1.1
  have hb := C.1.2.1
  unfold f_X10_odds_27 at hf
  refine lv_iload hx hb dX10_odds_27 (lv_at hl 4 rfl) ?_
  refine lv_aload_n hx hb dX10_odds_29 rfl (lv_at hl 0 rfl) ?_
  obtain ⟨r2, hg1, hf⟩ := zb hf
  try dsimp only at hf
  refine q_calli C hS (q_runV C hP (c_X10_all (l := l) C.2.2.1 hg1) (ci := 9) (As := []) (rest := [.int x5]) ⟨gd_V k_898 k_900 k_36 k_53 k_901, ⟨rfl, rfl⟩, kd_X10_all, ⟨Nat.le_trans (Nat.le_of_ble_eq_true rfl) hR.1, Nat.le_trans (Nat.le_of_ble_eq_true rfl) hR.2⟩⟩ (o := 0) rfl rfl rfl rfl rfl (Nat.le_of_ble_eq_true rfl) hl.1 dX10_odds_30) (fun H locs hP hS => ?_)
  refine lv_icmp_gt (tgt := 65) hx hb dX10_odds_33 (by decide) (fun c3 => ?_) (fun c3 => ?_)
  · replace hf := zt c3 hf
    refine lv_lload_n hx hb dX10_odds_65 rfl (lv_at hl 3 rfl) ?_
    refine lv_aload_n hx hb dX10_odds_66 rfl (lv_at hl 0 rfl) ?_
    obtain ⟨r5, hg4, hf⟩ := zb hf
    try dsimp only at hf
    refine q_calli C hS (q_runV C hP (c_X10_all (l := l) C.2.2.1 hg4) (ci := 9) (As := []) (rest := [.long x3]) ⟨gd_V k_898 k_900 k_36 k_53 k_901, ⟨rfl, rfl⟩, kd_X10_all, ⟨Nat.le_trans (Nat.le_of_ble_eq_true rfl) hR.1, Nat.le_trans (Nat.le_of_ble_eq_true rfl) hR.2⟩⟩ (o := 0) rfl rfl rfl rfl rfl (Nat.le_of_ble_eq_true rfl) hl.1 dX10_odds_67) (fun H locs hP hS => ?_)
    refine lv_i2l hx hb dX10_odds_70 rfl ?_
    refine lv_lconst (v := 1) hx hb dX10_odds_71 (by decide) ?_
    refine lv_ladd hx hb dX10_odds_72 ?_
    refine lv_iload_n hx hb dX10_odds_73 rfl (lv_at hl 2 rfl) ?_
    obtain ⟨r7, hg6, hf⟩ := zb hf
    try dsimp only at hf
    refine q_calll C hS (q_runS C hP (c_X10_told (l := l) C.2.2.1 hg6) (As := [.long x3, .long (r5.toInt64 + 1), .int x2]) (rest := []) ⟨gd_S k_957 k_958 k_53 k_959, ⟨rfl, rfl⟩, kd_X10_told, ⟨Nat.le_trans (Nat.le_of_ble_eq_true rfl) hR.1, Nat.le_trans (Nat.le_of_ble_eq_true rfl) hR.2⟩⟩ rfl rfl (Nat.le_of_ble_eq_true rfl) hl.1 dX10_odds_74) (fun H locs hP hS => ?_)
    exact q_lret C hr hlk hP hS (Option.some.inj hf) dX10_odds_77
  · replace hf := zf c3 hf
    refine lv_aload_n hx hb dX10_odds_36 rfl (lv_at hl 0 rfl) ?_
    refine lv_iload hx hb dX10_odds_37 (lv_at hl 4 rfl) ?_
    obtain ⟨σ9, hg8, hf⟩ := zb hf
    try dsimp only at hf
    refine q_callv C hS (q_runV C hP (c_X10_goFirst (l := l) C.2.2.1 hg8) (ci := 9) (As := [.int x5]) (rest := []) ⟨gd_V k_909 k_911 k_38 k_53 k_912, ⟨rfl, rfl⟩, kd_X10_goFirst, ⟨Nat.le_trans (Nat.le_of_ble_eq_true rfl) hR.1, Nat.le_trans (Nat.le_of_ble_eq_true rfl) hR.2⟩⟩ (o := 0) rfl rfl rfl rfl rfl (Nat.le_of_ble_eq_true rfl) hl.1 dX10_odds_39) (fun H locs hP hS => ?_)
    refine lv_lload_n hx hb dX10_odds_42 rfl (lv_at hl 3 rfl) ?_
    refine lv_aload_n hx hb dX10_odds_43 rfl (lv_at hl 0 rfl) ?_
    refine gX10_17 C hP k_681 dX10_odds_44 ?_
    refine lv_iload_n hx hb dX10_odds_47 rfl (lv_at hl 1 rfl) ?_
    obtain ⟨h10, hf⟩ := zc hf
    refine aldM C hP (n := 8) rfl h10 dX10_odds_48 ?_
    refine lv_if_ge (tgt := 56) hx hb dX10_odds_49 (by decide) (fun c11 => ?_) (fun c11 => ?_)
    · replace hf := zt c11 hf
      refine lv_lconst (v := 1) hx hb dX10_odds_56 (by decide) ?_
      exact w_X10_odds_57 C hr hlk hR hag27 hf hP hS (lv_sub hl [0, 1, 2, 4] rfl)
    · replace hf := zf c11 hf
      refine lv_lconst (v := 0) hx hb dX10_odds_52 (by decide) ?_
      refine lv_goto (tgt := 57) hx hb dX10_odds_53 (by decide) ?_
      exact w_X10_odds_57 C hr hlk hR hag27 hf hP hS (lv_sub hl [0, 1, 2, 4] rfl)
set_option maxRecDepth 100000 in
set_option maxHeartbeats 4000000 in
theorem wl_X10_odds_27 (C : CX p m c cX10_odds 6 s args RX10 D (TYM cs) (WM ad cs) (AM ad)) (hr : meth.sig.returnType = (some .long)) (hlk : meth.locks = false) (hR : 4 ≤ R.frames ∧ 95 ≤ R.locals) {x1 : Int32} {x2 : Int32} {res : Int64 × Sg} : ∀ n : Nat, ∀ (x3 : Int64) (x5 : Int32) (σ : Sg) (H : Heap) (locs : List Loc) (ls : Array Slot), l_X10_odds_27 x1 x2 n x3 x5 σ = some res → va_P D vwCl (WM ad cs σ) H → va_S (AM ad) s.heap H locs → lv_has ls 6 [(0, .ref (ad 0)), (1, .int x1), (2, .int x2), (3, .long x3), (5, .int x5)] → W p l e R s m args below meth c H locs 0 0 (MQ below (QL D (TYM cs) (WM ad cs) (AM ad) res.1 res.2) args s 0 0 (AM ad)) (F0 m 27 ls []) := by
  intro n
  induction n with
  | zero => intro x3 x5 σ H locs ls hf; cases hf
  | succ n ih =>
    intro x3 x5 σ H locs ls hf hP hS hl
    exact w_X10_odds_27 C hr hlk hR (ag27 := l_X10_odds_27 x1 x2 n) ih hf hP hS hl
set_option maxRecDepth 100000 in
set_option maxHeartbeats 4000000 in
theorem w_X10_odds (C : CX p m c cX10_odds 6 s args RX10 D (TYM cs) (WM ad cs) (AM ad)) (hr : meth.sig.returnType = (some .long)) (hlk : meth.locks = false) (hR : 4 ≤ R.frames ∧ 95 ≤ R.locals) {σ : Sg} {x1 : Int32} {x2 : Int32} {res : Int64 × Sg} (hf : f_X10_odds σ x1 x2 = some res) {H : Heap} {locs : List Loc} (hP : va_P D vwCl (WM ad cs σ) H) (hS : va_S (AM ad) s.heap H locs) {ls : Array Slot} (hl : lv_has ls 6 [(0, .ref (ad 0)), (1, .int x1), (2, .int x2)]) : W p l e R s m args below meth c H locs 0 0 (MQ below (QL D (TYM cs) (WM ad cs) (AM ad) res.1 res.2) args s 0 0 (AM ad)) (F0 m 0 ls []) := by
  have hx := C.1.1
  have hb := C.1.2.1
  unfold f_X10_odds at hf
  refine lv_aload_n hx hb dX10_odds_0 rfl (lv_at hl 0 rfl) ?_
  refine lv_iload_n hx hb dX10_odds_1 rfl (lv_at hl 1 rfl) ?_
  obtain ⟨r2, hg1, hf⟩ := zb hf
  try dsimp only at hf
  refine q_calli C hS (q_runV C hP (c_X10_noThing (l := l) C.2.2.1 hg1) (ci := 9) (As := [.int x1]) (rest := []) ⟨gd_V k_799 k_801 k_23 k_53 k_802, ⟨rfl, rfl⟩, kd_X10_noThing, ⟨Nat.le_trans (Nat.le_of_ble_eq_true rfl) hR.1, Nat.le_trans (Nat.le_of_ble_eq_true rfl) hR.2⟩⟩ (o := 0) rfl rfl rfl rfl rfl (Nat.le_of_ble_eq_true rfl) hl.1 dX10_odds_2) (fun H locs hP hS => ?_)
  refine lv_if_ne (tgt := 18) hx hb dX10_odds_5 (by decide) (fun c3 => ?_) (fun c3 => ?_)
  · replace hf := zf c3 hf
    exact w_X10_odds_18 C hr hlk hR hf hP hS (lv_sub hl [] rfl)
  · replace hf := zt c3 hf
    refine lv_iload_n hx hb dX10_odds_8 rfl (lv_at hl 2 rfl) ?_
    refine lv_i2l hx hb dX10_odds_9 rfl ?_
    refine lv_lconst (v := 0) hx hb dX10_odds_10 (by decide) ?_
    refine lv_lconst (v := 1) hx hb dX10_odds_11 (by decide) ?_
    obtain ⟨r5, hg4, hf⟩ := zb hf
    try dsimp only at hf
    refine q_calli C hS (q_runS C hP (c_X10_in (l := l) C.2.2.1 hg4) (As := [.long x2.toInt64, .long 0, .long 1]) (rest := []) ⟨gd_S k_760 k_761 k_53 k_762, ⟨rfl, rfl⟩, kd_X10_in, ⟨Nat.le_trans (Nat.le_of_ble_eq_true rfl) hR.1, Nat.le_trans (Nat.le_of_ble_eq_true rfl) hR.2⟩⟩ rfl rfl (Nat.le_of_ble_eq_true rfl) hl.1 dX10_odds_12) (fun H locs hP hS => ?_)
    refine lv_if_ne (tgt := 22) hx hb dX10_odds_15 (by decide) (fun c6 => ?_) (fun c6 => ?_)
    · replace hf := zf c6 hf
      refine lv_lconst (v := 0) hx hb dX10_odds_22 (by decide) ?_
      refine lv_lstore_n (lv' := [(3, .long 0), (0, .ref (ad 0)), (1, .int x1), (2, .int x2)]) hx hb dX10_odds_23 rfl hl (by decide) rfl (fun ls hl => ?_)
      refine lv_iconst (v := 0) hx hb dX10_odds_24 (by decide) ?_
      refine lv_istore (lv' := [(5, .int 0), (3, .long 0), (0, .ref (ad 0)), (1, .int x1), (2, .int x2)]) hx hb dX10_odds_25 hl (by decide) rfl (fun ls hl => ?_)
      exact wl_X10_odds_27 C hr hlk hR fu _ _ _ _ _ _ hf hP hS (lv_sub hl [2, 3, 4, 1, 0] rfl)
    · replace hf := zt c6 hf
      exact w_X10_odds_18 C hr hlk hR hf hP hS (lv_sub hl [] rfl)
theorem kd_X10_odds : yX10_odds.cls = RX10 ∧ yX10_odds.cls ≠ "java/lang/invoke/MethodHandle" ∧ yX10_odds.cls ≠ "java/lang/invoke/VarHandle" ∧ (parseMethodDescriptor yX10_odds.desc).map (fun d => d.parameters.length) = some 2 := by decide +kernel
def r_X10_odds : Room := { frames := 4, cells := 0, slots := 0, locals := 95 }
set_option maxRecDepth 100000 in
set_option maxHeartbeats 4000000 in
theorem c_X10_odds {l : Launch} {D : va_G} {ad : Nat → Nat} {cs : Nat → ClassId} (hD : ∀ σ, va_D (AM ad) (WM ad cs σ)) {σ : Sg} {x1 : Int32} {x2 : Int32} {res : Int64 × Sg} (hf : f_X10_odds σ x1 x2 = some res) : Met l yX10_odds (wm yX10_odds cX10_odds 6 (some .long)) r_X10_odds (va_Pc [.ref (ad 0), .int x1, .int x2] (BW D (TYM cs) (WM ad cs) σ)) (QL D (TYM cs) (WM ad cs) (AM ad) res.1 res.2) 0 0 (AM ad) := by
  refine q_enter (by decide) hD (Nat.le_of_ble_eq_true rfl) ?_
  intro p e s m below meth c C hr hlk hP hS ls hl
  exact w_X10_odds C hr hlk ⟨Nat.le_of_ble_eq_true rfl, Nat.le_of_ble_eq_true rfl⟩ hf hP hS hl

end

section
variable {p : Program} {l : Launch} {e : Env} {R : Room} {s : State} {m : MethodId} {args : Array Value} {below : List Frame} {meth : Method} {c : Code} {D : va_G} {ad : Nat → Nat} {cs : Nat → ClassId}
set_option maxRecDepth 100000 in
set_option maxHeartbeats 4000000 in
theorem w_X10_in (C : CX p m c cX10_in 6 s args RX10 D (TYM cs) (WM ad cs) (AM ad)) (hr : meth.sig.returnType = (some .boolean)) (hlk : meth.locks = false) (hR : 0 ≤ R.frames ∧ 0 ≤ R.locals) {σ : Sg} {x0 : Int64} {x2 : Int64} {x4 : Int64} {res : Int32} (hf : f_X10_in σ x0 x2 x4 = some res) {H : Heap} {locs : List Loc} (hP : va_P D vwCl (WM ad cs σ) H) (hS : va_S (AM ad) s.heap H locs) {ls : Array Slot} (hl : lv_has ls 6 [(0, .long x0), (2, .long x2), (4, .long x4)]) : W p l e R s m args below meth c H locs 0 0 (MQ below (QI D (TYM cs) (WM ad cs) (AM ad) res σ) args s 0 0 (AM ad)) (F0 m 0 ls []) := by
  have hx := C.1.1
  have hb := C.1.2.1
  unfold f_X10_in at hf
  refine lv_lload_n hx hb dX10_in_0 rfl (lv_at hl 0 rfl) ?_
  refine lv_lload_n hx hb dX10_in_1 rfl (lv_at hl 1 rfl) ?_
  refine W.lcmp hx hb dX10_in_2 ?_
  refine lv_if_lt (tgt := 17) hx hb dX10_in_3 (by decide) (fun c1 => ?_) (fun c1 => ?_)
  · replace hf := zt c1 hf
    refine lv_iconst (v := 0) hx hb dX10_in_17 (by decide) ?_
    exact q_zret C hr hlk hP hS (congrArg (fun q => (q, σ)) (Option.some.inj hf)) (by decide) dX10_in_18
  · replace hf := zf c1 hf
    refine lv_lload_n hx hb dX10_in_6 rfl (lv_at hl 0 rfl) ?_
    refine lv_lload hx hb dX10_in_7 (lv_at hl 2 rfl) ?_
    refine W.lcmp hx hb dX10_in_9 ?_
    refine lv_if_gt (tgt := 17) hx hb dX10_in_10 (by decide) (fun c2 => ?_) (fun c2 => ?_)
    · replace hf := zt c2 hf
      refine lv_iconst (v := 0) hx hb dX10_in_17 (by decide) ?_
      exact q_zret C hr hlk hP hS (congrArg (fun q => (q, σ)) (Option.some.inj hf)) (by decide) dX10_in_18
    · replace hf := zf c2 hf
      refine lv_iconst (v := 1) hx hb dX10_in_13 (by decide) ?_
      refine lv_goto (tgt := 18) hx hb dX10_in_14 (by decide) ?_
      exact q_zret C hr hlk hP hS (congrArg (fun q => (q, σ)) (Option.some.inj hf)) (by decide) dX10_in_18
theorem kd_X10_in : yX10_in.cls ≠ "java/lang/invoke/MethodHandle" ∧ yX10_in.cls ≠ "java/lang/invoke/VarHandle" ∧ (parseMethodDescriptor yX10_in.desc).map (fun d => d.parameters.length) = some 3 := by decide +kernel
def r_X10_in : Room := { frames := 0, cells := 0, slots := 0, locals := 0 }
set_option maxRecDepth 100000 in
set_option maxHeartbeats 4000000 in
theorem c_X10_in {l : Launch} {D : va_G} {ad : Nat → Nat} {cs : Nat → ClassId} (hD : ∀ σ, va_D (AM ad) (WM ad cs σ)) {σ : Sg} {x0 : Int64} {x2 : Int64} {x4 : Int64} {res : Int32} (hf : f_X10_in σ x0 x2 x4 = some res) : Met l yX10_in (wm yX10_in cX10_in 6 (some .boolean)) r_X10_in (va_Pc [.long x0, .long x2, .long x4] (BW D (TYM cs) (WM ad cs) σ)) (QI D (TYM cs) (WM ad cs) (AM ad) res σ) 0 0 (AM ad) := by
  refine q_enter (by decide) hD (Nat.le_of_ble_eq_true rfl) ?_
  intro p e s m below meth c C hr hlk hP hS ls hl
  exact w_X10_in C hr hlk ⟨Nat.le_of_ble_eq_true rfl, Nat.le_of_ble_eq_true rfl⟩ hf hP hS hl

set_option maxRecDepth 100000 in
set_option maxHeartbeats 4000000 in
theorem w_X10_lost (C : CX p m c cX10_lost 0 s args RX10 D (TYM cs) (WM ad cs) (AM ad)) (hr : meth.sig.returnType = (some .long)) (hlk : meth.locks = false) (hR : 0 ≤ R.frames ∧ 0 ≤ R.locals) {σ : Sg}  {res : Int64} (hf : f_X10_lost σ = some res) {H : Heap} {locs : List Loc} (hP : va_P D vwCl (WM ad cs σ) H) (hS : va_S (AM ad) s.heap H locs) {ls : Array Slot} (hl : lv_has ls 0 []) : W p l e R s m args below meth c H locs 0 0 (MQ below (QL D (TYM cs) (WM ad cs) (AM ad) res σ) args s 0 0 (AM ad)) (F0 m 0 ls []) := by
  have hx := C.1.1
  have hb := C.1.2.1
  unfold f_X10_lost at hf
  refine lv_ldc2 (v := (-9223372036854775808)) hx hb C.1.2.2.2.1 (C.1.2.2.2.2 _ k_956) dX10_lost_0 ?_
  exact q_lret C hr hlk hP hS (congrArg (fun q => (q, σ)) (Option.some.inj hf)) dX10_lost_3
theorem kd_X10_lost : yX10_lost.cls ≠ "java/lang/invoke/MethodHandle" ∧ yX10_lost.cls ≠ "java/lang/invoke/VarHandle" ∧ (parseMethodDescriptor yX10_lost.desc).map (fun d => d.parameters.length) = some 0 := by decide +kernel
def r_X10_lost : Room := { frames := 0, cells := 0, slots := 0, locals := 0 }
set_option maxRecDepth 100000 in
set_option maxHeartbeats 4000000 in
theorem c_X10_lost {l : Launch} {D : va_G} {ad : Nat → Nat} {cs : Nat → ClassId} (hD : ∀ σ, va_D (AM ad) (WM ad cs σ)) {σ : Sg}  {res : Int64} (hf : f_X10_lost σ = some res) : Met l yX10_lost (wm yX10_lost cX10_lost 0 (some .long)) r_X10_lost (va_Pc [] (BW D (TYM cs) (WM ad cs) σ)) (QL D (TYM cs) (WM ad cs) (AM ad) res σ) 0 0 (AM ad) := by
  refine q_enter (by decide) hD (Nat.le_of_ble_eq_true rfl) ?_
  intro p e s m below meth c C hr hlk hP hS ls hl
  exact w_X10_lost C hr hlk ⟨Nat.le_of_ble_eq_true rfl, Nat.le_of_ble_eq_true rfl⟩ hf hP hS hl

set_option maxRecDepth 100000 in
set_option maxHeartbeats 4000000 in
theorem w_X10_isIn (C : CX p m c cX10_isIn 2 s args RX10 D (TYM cs) (WM ad cs) (AM ad)) (hr : meth.sig.returnType = (some .boolean)) (hlk : meth.locks = false) (hR : 0 ≤ R.frames ∧ 0 ≤ R.locals) {σ : Sg} {x0 : Int32} {x1 : Int32} {res : Int32} (hf : f_X10_isIn σ x0 x1 = some res) {H : Heap} {locs : List Loc} (hP : va_P D vwCl (WM ad cs σ) H) (hS : va_S (AM ad) s.heap H locs) {ls : Array Slot} (hl : lv_has ls 2 [(0, .int x0), (1, .int x1)]) : W p l e R s m args below meth c H locs 0 0 (MQ below (QI D (TYM cs) (WM ad cs) (AM ad) res σ) args s 0 0 (AM ad)) (F0 m 0 ls []) := by
  have hx := C.1.1
  have hb := C.1.2.1
  unfold f_X10_isIn at hf
  refine lv_iload_n hx hb dX10_isIn_0 rfl (lv_at hl 0 rfl) ?_
  refine lv_iload_n hx hb dX10_isIn_1 rfl (lv_at hl 1 rfl) ?_
  refine lv_ishr hx hb dX10_isIn_2 ?_
  refine lv_iconst (v := 1) hx hb dX10_isIn_3 (by decide) ?_
  refine lv_iand hx hb dX10_isIn_4 ?_
  refine lv_iconst (v := 1) hx hb dX10_isIn_5 (by decide) ?_
  refine lv_icmp_ne (tgt := 13) hx hb dX10_isIn_6 (by decide) (fun c1 => ?_) (fun c1 => ?_)
  · replace hf := zf c1 hf
    refine lv_iconst (v := 0) hx hb dX10_isIn_13 (by decide) ?_
    exact q_zret C hr hlk hP hS (congrArg (fun q => (q, σ)) (Option.some.inj hf)) (by decide) dX10_isIn_14
  · replace hf := zt c1 hf
    refine lv_iconst (v := 1) hx hb dX10_isIn_9 (by decide) ?_
    refine lv_goto (tgt := 14) hx hb dX10_isIn_10 (by decide) ?_
    exact q_zret C hr hlk hP hS (congrArg (fun q => (q, σ)) (Option.some.inj hf)) (by decide) dX10_isIn_14
theorem kd_X10_isIn : yX10_isIn.cls ≠ "java/lang/invoke/MethodHandle" ∧ yX10_isIn.cls ≠ "java/lang/invoke/VarHandle" ∧ (parseMethodDescriptor yX10_isIn.desc).map (fun d => d.parameters.length) = some 2 := by decide +kernel
def r_X10_isIn : Room := { frames := 0, cells := 0, slots := 0, locals := 0 }
set_option maxRecDepth 100000 in
set_option maxHeartbeats 4000000 in
theorem c_X10_isIn {l : Launch} {D : va_G} {ad : Nat → Nat} {cs : Nat → ClassId} (hD : ∀ σ, va_D (AM ad) (WM ad cs σ)) {σ : Sg} {x0 : Int32} {x1 : Int32} {res : Int32} (hf : f_X10_isIn σ x0 x1 = some res) : Met l yX10_isIn (wm yX10_isIn cX10_isIn 2 (some .boolean)) r_X10_isIn (va_Pc [.int x0, .int x1] (BW D (TYM cs) (WM ad cs) σ)) (QI D (TYM cs) (WM ad cs) (AM ad) res σ) 0 0 (AM ad) := by
  refine q_enter (by decide) hD (Nat.le_of_ble_eq_true rfl) ?_
  intro p e s m below meth c C hr hlk hP hS ls hl
  exact w_X10_isIn C hr hlk ⟨Nat.le_of_ble_eq_true rfl, Nat.le_of_ble_eq_true rfl⟩ hf hP hS hl

set_option maxRecDepth 100000 in
set_option maxHeartbeats 4000000 in
theorem w_X10_bits_4 (C : CX p m c cX10_bits 3 s args RX10 D (TYM cs) (WM ad cs) (AM ad)) (hr : meth.sig.returnType = (some .int)) (hlk : meth.locks = false) (hR : 0 ≤ R.frames ∧ 0 ≤ R.locals) {σ : Sg} {x1 : Int32} {x2 : Int32} {res : Int32} {ag4 : Int32 → Int32 → Option (Int32)} (hag4 : ∀ (x1 : Int32) (x2 : Int32) (H : Heap) (locs : List Loc) (ls : Array Slot), ag4 x1 x2 = some res → va_P D vwCl (WM ad cs σ) H → va_S (AM ad) s.heap H locs → lv_has ls 3 [(1, .int x1), (2, .int x2)] → W p l e R s m args below meth c H locs 0 0 (MQ below (QI D (TYM cs) (WM ad cs) (AM ad) res σ) args s 0 0 (AM ad)) (F0 m 4 ls [])) (hf : f_X10_bits_4 ag4 σ x1 x2 = some res) {H : Heap} {locs : List Loc} (hP : va_P D vwCl (WM ad cs σ) H) (hS : va_S (AM ad) s.heap H locs) {ls : Array Slot} (hl : lv_has ls 3 [(1, .int x1), (2, .int x2)]) : W p l e R s m args below meth c H locs 0 0 (MQ below (QI D (TYM cs) (WM ad cs) (AM ad) res σ) args s 0 0 (AM ad)) (F0 m 4 ls []) := by
  have hx := C.1.1
  have hb := C.1.2.1
  unfold f_X10_bits_4 at hf
  refine lv_iload_n hx hb dX10_bits_4 rfl (lv_at hl 1 rfl) ?_
  refine lv_if_le (tgt := 21) hx hb dX10_bits_5 (by decide) (fun c1 => ?_) (fun c1 => ?_)
  · replace hf := zt c1 hf
    refine lv_iload_n hx hb dX10_bits_21 rfl (lv_at hl 0 rfl) ?_
    exact q_iret C hr hlk hP hS (congrArg (fun q => (q, σ)) (Option.some.inj hf)) dX10_bits_22
  · replace hf := zf c1 hf
    refine lv_iload_n hx hb dX10_bits_8 rfl (lv_at hl 0 rfl) ?_
    refine lv_iload_n hx hb dX10_bits_9 rfl (lv_at hl 1 rfl) ?_
    refine lv_iconst (v := 1) hx hb dX10_bits_10 (by decide) ?_
    refine lv_iand hx hb dX10_bits_11 ?_
    refine lv_iadd hx hb dX10_bits_12 ?_
    refine lv_istore_n (lv' := [(1, .int (x1 + (x2 &&& 1))), (2, .int x2)]) hx hb dX10_bits_13 rfl hl (by decide) rfl (fun ls hl => ?_)
    refine lv_iload_n hx hb dX10_bits_14 rfl (lv_at hl 1 rfl) ?_
    refine lv_iconst (v := 1) hx hb dX10_bits_15 (by decide) ?_
    refine lv_ishr hx hb dX10_bits_16 ?_
    refine lv_istore_n (lv' := [(2, .int (x2 >>> ((1 : Int32) &&& 31))), (1, .int (x1 + (x2 &&& 1)))]) hx hb dX10_bits_17 rfl hl (by decide) rfl (fun ls hl => ?_)
    refine lv_goto (tgt := 4) hx hb dX10_bits_18 (by decide) ?_
    exact hag4 _ _ _ _ _ hf hP hS (lv_sub hl [1, 0] rfl)
set_option maxRecDepth 100000 in
set_option maxHeartbeats 4000000 in
theorem wl_X10_bits_4 (C : CX p m c cX10_bits 3 s args RX10 D (TYM cs) (WM ad cs) (AM ad)) (hr : meth.sig.returnType = (some .int)) (hlk : meth.locks = false) (hR : 0 ≤ R.frames ∧ 0 ≤ R.locals) {σ : Sg}  {res : Int32} : ∀ n : Nat, ∀ (x1 : Int32) (x2 : Int32) (H : Heap) (locs : List Loc) (ls : Array Slot), l_X10_bits_4 σ n x1 x2 = some res → va_P D vwCl (WM ad cs σ) H → va_S (AM ad) s.heap H locs → lv_has ls 3 [(1, .int x1), (2, .int x2)] → W p l e R s m args below meth c H locs 0 0 (MQ below (QI D (TYM cs) (WM ad cs) (AM ad) res σ) args s 0 0 (AM ad)) (F0 m 4 ls []) := by
  intro n
  induction n with
  | zero => intro x1 x2 H locs ls hf; cases hf
  | succ n ih =>
    intro x1 x2 H locs ls hf hP hS hl
    exact w_X10_bits_4 C hr hlk hR (ag4 := l_X10_bits_4 σ n) ih hf hP hS hl
set_option maxRecDepth 100000 in
set_option maxHeartbeats 4000000 in
theorem w_X10_bits (C : CX p m c cX10_bits 3 s args RX10 D (TYM cs) (WM ad cs) (AM ad)) (hr : meth.sig.returnType = (some .int)) (hlk : meth.locks = false) (hR : 0 ≤ R.frames ∧ 0 ≤ R.locals) {σ : Sg} {x0 : Int32} {res : Int32} (hf : f_X10_bits σ x0 = some res) {H : Heap} {locs : List Loc} (hP : va_P D vwCl (WM ad cs σ) H) (hS : va_S (AM ad) s.heap H locs) {ls : Array Slot} (hl : lv_has ls 3 [(0, .int x0)]) : W p l e R s m args below meth c H locs 0 0 (MQ below (QI D (TYM cs) (WM ad cs) (AM ad) res σ) args s 0 0 (AM ad)) (F0 m 0 ls []) := by
  have hx := C.1.1
  have hb := C.1.2.1
  unfold f_X10_bits at hf
  refine lv_iconst (v := 0) hx hb dX10_bits_0 (by decide) ?_
  refine lv_istore_n (lv' := [(1, .int 0), (0, .int x0)]) hx hb dX10_bits_1 rfl hl (by decide) rfl (fun ls hl => ?_)
  refine lv_iload_n hx hb dX10_bits_2 rfl (lv_at hl 1 rfl) ?_
  refine lv_istore_n (lv' := [(2, .int x0), (1, .int 0), (0, .int x0)]) hx hb dX10_bits_3 rfl hl (by decide) rfl (fun ls hl => ?_)
  exact wl_X10_bits_4 C hr hlk hR fu _ _ _ _ _ hf hP hS (lv_sub hl [1, 0] rfl)
theorem kd_X10_bits : yX10_bits.cls ≠ "java/lang/invoke/MethodHandle" ∧ yX10_bits.cls ≠ "java/lang/invoke/VarHandle" ∧ (parseMethodDescriptor yX10_bits.desc).map (fun d => d.parameters.length) = some 1 := by decide +kernel
def r_X10_bits : Room := { frames := 0, cells := 0, slots := 0, locals := 0 }
set_option maxRecDepth 100000 in
set_option maxHeartbeats 4000000 in
theorem c_X10_bits {l : Launch} {D : va_G} {ad : Nat → Nat} {cs : Nat → ClassId} (hD : ∀ σ, va_D (AM ad) (WM ad cs σ)) {σ : Sg} {x0 : Int32} {res : Int32} (hf : f_X10_bits σ x0 = some res) : Met l yX10_bits (wm yX10_bits cX10_bits 3 (some .int)) r_X10_bits (va_Pc [.int x0] (BW D (TYM cs) (WM ad cs) σ)) (QI D (TYM cs) (WM ad cs) (AM ad) res σ) 0 0 (AM ad) := by
  refine q_enter (by decide) hD (Nat.le_of_ble_eq_true rfl) ?_
  intro p e s m below meth c C hr hlk hP hS ls hl
  exact w_X10_bits C hr hlk ⟨Nat.le_of_ble_eq_true rfl, Nat.le_of_ble_eq_true rfl⟩ hf hP hS hl

set_option maxRecDepth 100000 in
set_option maxHeartbeats 4000000 in
theorem w_X10_told_6 (C : CX p m c cX10_told 11 s args RX10 D (TYM cs) (WM ad cs) (AM ad)) (hr : meth.sig.returnType = (some .long)) (hlk : meth.locks = false) (hR : 0 ≤ R.frames ∧ 0 ≤ R.locals) {σ : Sg} {x0 : Int64} {x2 : Int64} {x4 : Int32} {x5 : Int64} {x7 : Int64} {res : Int64} {ag6 : Int64 → Int64 → Option (Int64)} (hag6 : ∀ (x5 : Int64) (x7 : Int64) (H : Heap) (locs : List Loc) (ls : Array Slot), ag6 x5 x7 = some res → va_P D vwCl (WM ad cs σ) H → va_S (AM ad) s.heap H locs → lv_has ls 11 [(0, .long x0), (2, .long x2), (4, .int x4), (5, .long x5), (7, .long x7)] → W p l e R s m args below meth c H locs 0 0 (MQ below (QL D (TYM cs) (WM ad cs) (AM ad) res σ) args s 0 0 (AM ad)) (F0 m 6 ls [])) (hf : f_X10_told_6 ag6 σ x0 x2 x4 x5 x7 = some res) {H : Heap} {locs : List Loc} (hP : va_P D vwCl (WM ad cs σ) H) (hS : va_S (AM ad) s.heap H locs) {ls : Array Slot} (hl : lv_has ls 11 [(0, .long x0), (2, .long x2), (4, .int x4), (5, .long x5), (7, .long x7)]) : W p l e R s m args below meth c H locs 0 0 (MQ below (QL D (TYM cs) (WM ad cs) (AM ad) res σ) args s 0 0 (AM ad)) (F0 m 6 ls []) := by
  have hx := C.1.1
  have hb := C.1.2.1
  unfold f_X10_told_6 at hf
  refine lv_lload hx hb dX10_told_6 (lv_at hl 4 rfl) ?_
  refine lv_lconst (v := 0) hx hb dX10_told_8 (by decide) ?_
  refine W.lcmp hx hb dX10_told_9 ?_
  refine lv_if_eq (tgt := 31) hx hb dX10_told_10 (by decide) (fun c1 => ?_) (fun c1 => ?_)
  · replace hf := zt c1 hf
    refine lv_iload hx hb dX10_told_31 (lv_at hl 2 rfl) ?_
    refine lv_if_ne (tgt := 40) hx hb dX10_told_33 (by decide) (fun c2 => ?_) (fun c2 => ?_)
    · replace hf := zf c2 hf
      refine lv_lload_n hx hb dX10_told_40 rfl (lv_at hl 1 rfl) ?_
      refine lv_lload hx hb dX10_told_41 (lv_at hl 3 rfl) ?_
      obtain ⟨h3, hf⟩ := zc hf
      refine lv_ldiv hx hb dX10_told_43 h3 ?_
      exact q_lret C hr hlk hP hS (congrArg (fun q => (q, σ)) (Option.some.inj hf)) dX10_told_44
    · replace hf := zt c2 hf
      refine lv_lload_n hx hb dX10_told_36 rfl (lv_at hl 0 rfl) ?_
      refine lv_goto (tgt := 41) hx hb dX10_told_37 (by decide) ?_
      refine lv_lload hx hb dX10_told_41 (lv_at hl 3 rfl) ?_
      obtain ⟨h4, hf⟩ := zc hf
      refine lv_ldiv hx hb dX10_told_43 h4 ?_
      exact q_lret C hr hlk hP hS (congrArg (fun q => (q, σ)) (Option.some.inj hf)) dX10_told_44
  · replace hf := zf c1 hf
    refine lv_lload hx hb dX10_told_13 (lv_at hl 3 rfl) ?_
    refine lv_lload hx hb dX10_told_15 (lv_at hl 4 rfl) ?_
    obtain ⟨h5, hf⟩ := zc hf
    refine lv_lrem hx hb dX10_told_17 h5 ?_
    refine lv_lstore (lv' := [(9, .long (x5 - x5 / x7 * x7)), (0, .long x0), (2, .long x2), (4, .int x4), (5, .long x5), (7, .long x7)]) hx hb dX10_told_18 hl (by decide) rfl (fun ls hl => ?_)
    refine lv_lload hx hb dX10_told_20 (lv_at hl 5 rfl) ?_
    refine lv_lstore (lv' := [(5, .long x7), (9, .long (x5 - x5 / x7 * x7)), (0, .long x0), (2, .long x2), (4, .int x4), (7, .long x7)]) hx hb dX10_told_22 hl (by decide) rfl (fun ls hl => ?_)
    refine lv_lload hx hb dX10_told_24 (lv_at hl 1 rfl) ?_
    refine lv_lstore (lv' := [(7, .long (x5 - x5 / x7 * x7)), (5, .long x7), (9, .long (x5 - x5 / x7 * x7)), (0, .long x0), (2, .long x2), (4, .int x4)]) hx hb dX10_told_26 hl (by decide) rfl (fun ls hl => ?_)
    refine lv_goto (tgt := 6) hx hb dX10_told_28 (by decide) ?_
    exact hag6 _ _ _ _ _ hf hP hS (lv_sub hl [3, 4, 5, 1, 0] rfl)
set_option maxRecDepth 100000 in
set_option maxHeartbeats 4000000 in
theorem wl_X10_told_6 (C : CX p m c cX10_told 11 s args RX10 D (TYM cs) (WM ad cs) (AM ad)) (hr : meth.sig.returnType = (some .long)) (hlk : meth.locks = false) (hR : 0 ≤ R.frames ∧ 0 ≤ R.locals) {σ : Sg} {x0 : Int64} {x2 : Int64} {x4 : Int32} {res : Int64} : ∀ n : Nat, ∀ (x5 : Int64) (x7 : Int64) (H : Heap) (locs : List Loc) (ls : Array Slot), l_X10_told_6 σ x0 x2 x4 n x5 x7 = some res → va_P D vwCl (WM ad cs σ) H → va_S (AM ad) s.heap H locs → lv_has ls 11 [(0, .long x0), (2, .long x2), (4, .int x4), (5, .long x5), (7, .long x7)] → W p l e R s m args below meth c H locs 0 0 (MQ below (QL D (TYM cs) (WM ad cs) (AM ad) res σ) args s 0 0 (AM ad)) (F0 m 6 ls []) := by
  intro n
  induction n with
  | zero => intro x5 x7 H locs ls hf; cases hf
  | succ n ih =>
    intro x5 x7 H locs ls hf hP hS hl
    exact w_X10_told_6 C hr hlk hR (ag6 := l_X10_told_6 σ x0 x2 x4 n) ih hf hP hS hl
set_option maxRecDepth 100000 in
set_option maxHeartbeats 4000000 in
theorem w_X10_told (C : CX p m c cX10_told 11 s args RX10 D (TYM cs) (WM ad cs) (AM ad)) (hr : meth.sig.returnType = (some .long)) (hlk : meth.locks = false) (hR : 0 ≤ R.frames ∧ 0 ≤ R.locals) {σ : Sg} {x0 : Int64} {x2 : Int64} {x4 : Int32} {res : Int64} (hf : f_X10_told σ x0 x2 x4 = some res) {H : Heap} {locs : List Loc} (hP : va_P D vwCl (WM ad cs σ) H) (hS : va_S (AM ad) s.heap H locs) {ls : Array Slot} (hl : lv_has ls 11 [(0, .long x0), (2, .long x2), (4, .int x4)]) : W p l e R s m args below meth c H locs 0 0 (MQ below (QL D (TYM cs) (WM ad cs) (AM ad) res σ) args s 0 0 (AM ad)) (F0 m 0 ls []) := by
  have hx := C.1.1
  have hb := C.1.2.1
  unfold f_X10_told at hf
  refine lv_lload_n hx hb dX10_told_0 rfl (lv_at hl 0 rfl) ?_
  refine lv_lstore (lv' := [(5, .long x0), (0, .long x0), (2, .long x2), (4, .int x4)]) hx hb dX10_told_1 hl (by decide) rfl (fun ls hl => ?_)
  refine lv_lload_n hx hb dX10_told_3 rfl (lv_at hl 2 rfl) ?_
  refine lv_lstore (lv' := [(7, .long x2), (5, .long x0), (0, .long x0), (2, .long x2), (4, .int x4)]) hx hb dX10_told_4 hl (by decide) rfl (fun ls hl => ?_)
  exact wl_X10_told_6 C hr hlk hR fu _ _ _ _ _ hf hP hS (lv_sub hl [2, 3, 4, 1, 0] rfl)
theorem kd_X10_told : yX10_told.cls ≠ "java/lang/invoke/MethodHandle" ∧ yX10_told.cls ≠ "java/lang/invoke/VarHandle" ∧ (parseMethodDescriptor yX10_told.desc).map (fun d => d.parameters.length) = some 3 := by decide +kernel
def r_X10_told : Room := { frames := 0, cells := 0, slots := 0, locals := 0 }
set_option maxRecDepth 100000 in
set_option maxHeartbeats 4000000 in
theorem c_X10_told {l : Launch} {D : va_G} {ad : Nat → Nat} {cs : Nat → ClassId} (hD : ∀ σ, va_D (AM ad) (WM ad cs σ)) {σ : Sg} {x0 : Int64} {x2 : Int64} {x4 : Int32} {res : Int64} (hf : f_X10_told σ x0 x2 x4 = some res) : Met l yX10_told (wm yX10_told cX10_told 11 (some .long)) r_X10_told (va_Pc [.long x0, .long x2, .int x4] (BW D (TYM cs) (WM ad cs) σ)) (QL D (TYM cs) (WM ad cs) (AM ad) res σ) 0 0 (AM ad) := by
  refine q_enter (by decide) hD (Nat.le_of_ble_eq_true rfl) ?_
  intro p e s m below meth c C hr hlk hP hS ls hl
  exact w_X10_told C hr hlk ⟨Nat.le_of_ble_eq_true rfl, Nat.le_of_ble_eq_true rfl⟩ hf hP hS hl

set_option maxRecDepth 100000 in
set_option maxHeartbeats 4000000 in
theorem w_X10_refused (C : CX p m c cX10_refused 2 s args RX10 D (TYM cs) (WM ad cs) (AM ad)) (hr : meth.sig.returnType = (some .int)) (hlk : meth.locks = false) (hR : 0 ≤ R.frames ∧ 0 ≤ R.locals) {σ : Sg} {x1 : Int32} {res : Int32 × Sg} (hf : f_X10_refused σ x1 = some res) {H : Heap} {locs : List Loc} (hP : va_P D vwCl (WM ad cs σ) H) (hS : va_S (AM ad) s.heap H locs) {ls : Array Slot} (hl : lv_has ls 2 [(0, .ref (ad 0)), (1, .int x1)]) : W p l e R s m args below meth c H locs 0 0 (MQ below (QI D (TYM cs) (WM ad cs) (AM ad) res.1 res.2) args s 0 0 (AM ad)) (F0 m 0 ls []) := by
  have hx := C.1.1
  have hb := C.1.2.1
  unfold f_X10_refused at hf
  refine lv_aload_n hx hb dX10_refused_0 rfl (lv_at hl 0 rfl) ?_
  refine lv_iconst (v := 0) hx hb dX10_refused_1 (by decide) ?_
  refine pX10_0 C hP hS k_664 dX10_refused_2 (fun H locs hP hS => ?_)
  refine lv_iload_n hx hb dX10_refused_5 rfl (lv_at hl 1 rfl) ?_
  exact q_iret C hr hlk hP hS (Option.some.inj hf) dX10_refused_6
theorem kd_X10_refused : yX10_refused.cls = RX10 ∧ yX10_refused.cls ≠ "java/lang/invoke/MethodHandle" ∧ yX10_refused.cls ≠ "java/lang/invoke/VarHandle" ∧ (parseMethodDescriptor yX10_refused.desc).map (fun d => d.parameters.length) = some 1 := by decide +kernel
def r_X10_refused : Room := { frames := 0, cells := 0, slots := 0, locals := 0 }
set_option maxRecDepth 100000 in
set_option maxHeartbeats 4000000 in
theorem c_X10_refused {l : Launch} {D : va_G} {ad : Nat → Nat} {cs : Nat → ClassId} (hD : ∀ σ, va_D (AM ad) (WM ad cs σ)) {σ : Sg} {x1 : Int32} {res : Int32 × Sg} (hf : f_X10_refused σ x1 = some res) : Met l yX10_refused (wm yX10_refused cX10_refused 2 (some .int)) r_X10_refused (va_Pc [.ref (ad 0), .int x1] (BW D (TYM cs) (WM ad cs) σ)) (QI D (TYM cs) (WM ad cs) (AM ad) res.1 res.2) 0 0 (AM ad) := by
  refine q_enter (by decide) hD (Nat.le_of_ble_eq_true rfl) ?_
  intro p e s m below meth c C hr hlk hP hS ls hl
  exact w_X10_refused C hr hlk ⟨Nat.le_of_ble_eq_true rfl, Nat.le_of_ble_eq_true rfl⟩ hf hP hS hl

set_option maxRecDepth 100000 in
set_option maxHeartbeats 4000000 in
theorem w_X10_faulted (C : CX p m c cX10_faulted 2 s args RX10 D (TYM cs) (WM ad cs) (AM ad)) (hr : meth.sig.returnType = (some .int)) (hlk : meth.locks = false) (hR : 0 ≤ R.frames ∧ 0 ≤ R.locals) {σ : Sg} {x1 : Int32} {res : Int32 × Sg} (hf : f_X10_faulted σ x1 = some res) {H : Heap} {locs : List Loc} (hP : va_P D vwCl (WM ad cs σ) H) (hS : va_S (AM ad) s.heap H locs) {ls : Array Slot} (hl : lv_has ls 2 [(0, .ref (ad 0)), (1, .int x1)]) : W p l e R s m args below meth c H locs 0 0 (MQ below (QI D (TYM cs) (WM ad cs) (AM ad) res.1 res.2) args s 0 0 (AM ad)) (F0 m 0 ls []) := by
  have hx := C.1.1
  have hb := C.1.2.1
  unfold f_X10_faulted at hf
  refine lv_aload_n hx hb dX10_faulted_0 rfl (lv_at hl 0 rfl) ?_
  refine lv_iload_n hx hb dX10_faulted_1 rfl (lv_at hl 1 rfl) ?_
  refine pX10_0 C hP hS k_664 dX10_faulted_2 (fun H locs hP hS => ?_)
  refine lv_bipush (v := (-10)) hx hb dX10_faulted_5 (by decide) ?_
  refine lv_iload_n hx hb dX10_faulted_7 rfl (lv_at hl 1 rfl) ?_
  refine lv_isub hx hb dX10_faulted_8 ?_
  exact q_iret C hr hlk hP hS (Option.some.inj hf) dX10_faulted_9
theorem kd_X10_faulted : yX10_faulted.cls = RX10 ∧ yX10_faulted.cls ≠ "java/lang/invoke/MethodHandle" ∧ yX10_faulted.cls ≠ "java/lang/invoke/VarHandle" ∧ (parseMethodDescriptor yX10_faulted.desc).map (fun d => d.parameters.length) = some 1 := by decide +kernel
def r_X10_faulted : Room := { frames := 0, cells := 0, slots := 0, locals := 0 }
set_option maxRecDepth 100000 in
set_option maxHeartbeats 4000000 in
theorem c_X10_faulted {l : Launch} {D : va_G} {ad : Nat → Nat} {cs : Nat → ClassId} (hD : ∀ σ, va_D (AM ad) (WM ad cs σ)) {σ : Sg} {x1 : Int32} {res : Int32 × Sg} (hf : f_X10_faulted σ x1 = some res) : Met l yX10_faulted (wm yX10_faulted cX10_faulted 2 (some .int)) r_X10_faulted (va_Pc [.ref (ad 0), .int x1] (BW D (TYM cs) (WM ad cs) σ)) (QI D (TYM cs) (WM ad cs) (AM ad) res.1 res.2) 0 0 (AM ad) := by
  refine q_enter (by decide) hD (Nat.le_of_ble_eq_true rfl) ?_
  intro p e s m below meth c C hr hlk hP hS ls hl
  exact w_X10_faulted C hr hlk ⟨Nat.le_of_ble_eq_true rfl, Nat.le_of_ble_eq_true rfl⟩ hf hP hS hl

set_option maxRecDepth 100000 in
set_option maxHeartbeats 4000000 in
theorem w_X10_faultedLong (C : CX p m c cX10_faultedLong 2 s args RX10 D (TYM cs) (WM ad cs) (AM ad)) (hr : meth.sig.returnType = (some .long)) (hlk : meth.locks = false) (hR : 1 ≤ R.frames ∧ 19 ≤ R.locals) {σ : Sg} {x1 : Int32} {res : Int64 × Sg} (hf : f_X10_faultedLong σ x1 = some res) {H : Heap} {locs : List Loc} (hP : va_P D vwCl (WM ad cs σ) H) (hS : va_S (AM ad) s.heap H locs) {ls : Array Slot} (hl : lv_has ls 2 [(0, .ref (ad 0)), (1, .int x1)]) : W p l e R s m args below meth c H locs 0 0 (MQ below (QL D (TYM cs) (WM ad cs) (AM ad) res.1 res.2) args s 0 0 (AM ad)) (F0 m 0 ls []) := by
  have hx := C.1.1
  have hb := C.1.2.1
  unfold f_X10_faultedLong at hf
  refine lv_aload_n hx hb dX10_faultedLong_0 rfl (lv_at hl 0 rfl) ?_
  refine lv_iload_n hx hb dX10_faultedLong_1 rfl (lv_at hl 1 rfl) ?_
  refine pX10_0 C hP hS k_664 dX10_faultedLong_2 (fun H locs hP hS => ?_)
  obtain ⟨r2, hg1, hf⟩ := zb hf
  try dsimp only at hf
  refine q_calll C hS (q_runS C hP (c_X10_lost (l := l) C.2.2.1 hg1) (As := []) (rest := []) ⟨gd_S k_953 k_954 k_53 k_955, ⟨rfl, rfl⟩, kd_X10_lost, ⟨Nat.le_trans (Nat.le_of_ble_eq_true rfl) hR.1, Nat.le_trans (Nat.le_of_ble_eq_true rfl) hR.2⟩⟩ rfl rfl (Nat.le_of_ble_eq_true rfl) hl.1 dX10_faultedLong_5) (fun H locs hP hS => ?_)
  exact q_lret C hr hlk hP hS (Option.some.inj hf) dX10_faultedLong_8
theorem kd_X10_faultedLong : yX10_faultedLong.cls = RX10 ∧ yX10_faultedLong.cls ≠ "java/lang/invoke/MethodHandle" ∧ yX10_faultedLong.cls ≠ "java/lang/invoke/VarHandle" ∧ (parseMethodDescriptor yX10_faultedLong.desc).map (fun d => d.parameters.length) = some 1 := by decide +kernel
def r_X10_faultedLong : Room := { frames := 1, cells := 0, slots := 0, locals := 19 }
set_option maxRecDepth 100000 in
set_option maxHeartbeats 4000000 in
theorem c_X10_faultedLong {l : Launch} {D : va_G} {ad : Nat → Nat} {cs : Nat → ClassId} (hD : ∀ σ, va_D (AM ad) (WM ad cs σ)) {σ : Sg} {x1 : Int32} {res : Int64 × Sg} (hf : f_X10_faultedLong σ x1 = some res) : Met l yX10_faultedLong (wm yX10_faultedLong cX10_faultedLong 2 (some .long)) r_X10_faultedLong (va_Pc [.ref (ad 0), .int x1] (BW D (TYM cs) (WM ad cs) σ)) (QL D (TYM cs) (WM ad cs) (AM ad) res.1 res.2) 0 0 (AM ad) := by
  refine q_enter (by decide) hD (Nat.le_of_ble_eq_true rfl) ?_
  intro p e s m below meth c C hr hlk hP hS ls hl
  exact w_X10_faultedLong C hr hlk ⟨Nat.le_of_ble_eq_true rfl, Nat.le_of_ble_eq_true rfl⟩ hf hP hS hl

set_option maxRecDepth 100000 in
set_option maxHeartbeats 4000000 in
theorem w_X10_noThing (C : CX p m c cX10_noThing 2 s args RX10 D (TYM cs) (WM ad cs) (AM ad)) (hr : meth.sig.returnType = (some .boolean)) (hlk : meth.locks = false) (hR : 1 ≤ R.frames ∧ 25 ≤ R.locals) {σ : Sg} {x1 : Int32} {res : Int32} (hf : f_X10_noThing σ x1 = some res) {H : Heap} {locs : List Loc} (hP : va_P D vwCl (WM ad cs σ) H) (hS : va_S (AM ad) s.heap H locs) {ls : Array Slot} (hl : lv_has ls 2 [(0, .ref (ad 0)), (1, .int x1)]) : W p l e R s m args below meth c H locs 0 0 (MQ below (QI D (TYM cs) (WM ad cs) (AM ad) res σ) args s 0 0 (AM ad)) (F0 m 0 ls []) := by
  have hx := C.1.1
  have hb := C.1.2.1
  unfold f_X10_noThing at hf
  refine lv_iload_n hx hb dX10_noThing_0 rfl (lv_at hl 1 rfl) ?_
  refine lv_i2l hx hb dX10_noThing_1 rfl ?_
  refine lv_lconst (v := 0) hx hb dX10_noThing_2 (by decide) ?_
  refine lv_aload_n hx hb dX10_noThing_3 rfl (lv_at hl 0 rfl) ?_
  refine gX10_1 C hP k_665 dX10_noThing_4 ?_
  refine lv_i2l hx hb dX10_noThing_7 rfl ?_
  refine lv_lconst (v := 1) hx hb dX10_noThing_8 (by decide) ?_
  refine lv_lsub hx hb dX10_noThing_9 ?_
  obtain ⟨r2, hg1, hf⟩ := zb hf
  try dsimp only at hf
  refine q_calli C hS (q_runS C hP (c_X10_in (l := l) C.2.2.1 hg1) (As := [.long x1.toInt64, .long 0, .long (((σ 0 1).toInt64) - 1)]) (rest := []) ⟨gd_S k_760 k_761 k_53 k_762, ⟨rfl, rfl⟩, kd_X10_in, ⟨Nat.le_trans (Nat.le_of_ble_eq_true rfl) hR.1, Nat.le_trans (Nat.le_of_ble_eq_true rfl) hR.2⟩⟩ rfl rfl (Nat.le_of_ble_eq_true rfl) hl.1 dX10_noThing_10) (fun H locs hP hS => ?_)
  refine lv_if_ne (tgt := 20) hx hb dX10_noThing_13 (by decide) (fun c3 => ?_) (fun c3 => ?_)
  · replace hf := zf c3 hf
    refine lv_iconst (v := 0) hx hb dX10_noThing_20 (by decide) ?_
    exact q_zret C hr hlk hP hS (congrArg (fun q => (q, σ)) (Option.some.inj hf)) (by decide) dX10_noThing_21
  · replace hf := zt c3 hf
    refine lv_iconst (v := 1) hx hb dX10_noThing_16 (by decide) ?_
    refine lv_goto (tgt := 21) hx hb dX10_noThing_17 (by decide) ?_
    exact q_zret C hr hlk hP hS (congrArg (fun q => (q, σ)) (Option.some.inj hf)) (by decide) dX10_noThing_21
theorem kd_X10_noThing : yX10_noThing.cls = RX10 ∧ yX10_noThing.cls ≠ "java/lang/invoke/MethodHandle" ∧ yX10_noThing.cls ≠ "java/lang/invoke/VarHandle" ∧ (parseMethodDescriptor yX10_noThing.desc).map (fun d => d.parameters.length) = some 1 := by decide +kernel
def r_X10_noThing : Room := { frames := 1, cells := 0, slots := 0, locals := 25 }
set_option maxRecDepth 100000 in
set_option maxHeartbeats 4000000 in
theorem c_X10_noThing {l : Launch} {D : va_G} {ad : Nat → Nat} {cs : Nat → ClassId} (hD : ∀ σ, va_D (AM ad) (WM ad cs σ)) {σ : Sg} {x1 : Int32} {res : Int32} (hf : f_X10_noThing σ x1 = some res) : Met l yX10_noThing (wm yX10_noThing cX10_noThing 2 (some .boolean)) r_X10_noThing (va_Pc [.ref (ad 0), .int x1] (BW D (TYM cs) (WM ad cs) σ)) (QI D (TYM cs) (WM ad cs) (AM ad) res σ) 0 0 (AM ad) := by
  refine q_enter (by decide) hD (Nat.le_of_ble_eq_true rfl) ?_
  intro p e s m below meth c C hr hlk hP hS ls hl
  exact w_X10_noThing C hr hlk ⟨Nat.le_of_ble_eq_true rfl, Nat.le_of_ble_eq_true rfl⟩ hf hP hS hl

set_option maxRecDepth 100000 in
set_option maxHeartbeats 4000000 in
theorem w_X10_isHour (C : CX p m c cX10_isHour 1 s args RX10 D (TYM cs) (WM ad cs) (AM ad)) (hr : meth.sig.returnType = (some .boolean)) (hlk : meth.locks = false) (hR : 1 ≤ R.frames ∧ 25 ≤ R.locals) {σ : Sg} {x0 : Int32} {res : Int32} (hf : f_X10_isHour σ x0 = some res) {H : Heap} {locs : List Loc} (hP : va_P D vwCl (WM ad cs σ) H) (hS : va_S (AM ad) s.heap H locs) {ls : Array Slot} (hl : lv_has ls 1 [(0, .int x0)]) : W p l e R s m args below meth c H locs 0 0 (MQ below (QI D (TYM cs) (WM ad cs) (AM ad) res σ) args s 0 0 (AM ad)) (F0 m 0 ls []) := by
  have hx := C.1.1
  have hb := C.1.2.1
  unfold f_X10_isHour at hf
  refine lv_iload_n hx hb dX10_isHour_0 rfl (lv_at hl 0 rfl) ?_
  refine lv_i2l hx hb dX10_isHour_1 rfl ?_
  refine lv_lconst (v := 0) hx hb dX10_isHour_2 (by decide) ?_
  refine lv_ldc2 (v := 29) hx hb C.1.2.2.2.1 (C.1.2.2.2.2 _ k_822) dX10_isHour_3 ?_
  obtain ⟨r2, hg1, hf⟩ := zb hf
  try dsimp only at hf
  refine q_calli C hS (q_runS C hP (c_X10_in (l := l) C.2.2.1 hg1) (As := [.long x0.toInt64, .long 0, .long 29]) (rest := []) ⟨gd_S k_760 k_761 k_53 k_762, ⟨rfl, rfl⟩, kd_X10_in, ⟨Nat.le_trans (Nat.le_of_ble_eq_true rfl) hR.1, Nat.le_trans (Nat.le_of_ble_eq_true rfl) hR.2⟩⟩ rfl rfl (Nat.le_of_ble_eq_true rfl) hl.1 dX10_isHour_6) (fun H locs hP hS => ?_)
  obtain ⟨h3, hf⟩ := zc hf
  exact q_zret C hr hlk hP hS (congrArg (fun q => (q, σ)) (Option.some.inj hf)) h3 dX10_isHour_9
theorem kd_X10_isHour : yX10_isHour.cls ≠ "java/lang/invoke/MethodHandle" ∧ yX10_isHour.cls ≠ "java/lang/invoke/VarHandle" ∧ (parseMethodDescriptor yX10_isHour.desc).map (fun d => d.parameters.length) = some 1 := by decide +kernel
def r_X10_isHour : Room := { frames := 1, cells := 0, slots := 0, locals := 25 }
set_option maxRecDepth 100000 in
set_option maxHeartbeats 4000000 in
theorem c_X10_isHour {l : Launch} {D : va_G} {ad : Nat → Nat} {cs : Nat → ClassId} (hD : ∀ σ, va_D (AM ad) (WM ad cs σ)) {σ : Sg} {x0 : Int32} {res : Int32} (hf : f_X10_isHour σ x0 = some res) : Met l yX10_isHour (wm yX10_isHour cX10_isHour 1 (some .boolean)) r_X10_isHour (va_Pc [.int x0] (BW D (TYM cs) (WM ad cs) σ)) (QI D (TYM cs) (WM ad cs) (AM ad) res σ) 0 0 (AM ad) := by
  refine q_enter (by decide) hD (Nat.le_of_ble_eq_true rfl) ?_
  intro p e s m below meth c C hr hlk hP hS ls hl
  exact w_X10_isHour C hr hlk ⟨Nat.le_of_ble_eq_true rfl, Nat.le_of_ble_eq_true rfl⟩ hf hP hS hl

set_option maxRecDepth 100000 in
set_option maxHeartbeats 4000000 in
theorem w_X10_all (C : CX p m c cX10_all 1 s args RX10 D (TYM cs) (WM ad cs) (AM ad)) (hr : meth.sig.returnType = (some .int)) (hlk : meth.locks = false) (hR : 0 ≤ R.frames ∧ 0 ≤ R.locals) {σ : Sg}  {res : Int32} (hf : f_X10_all σ = some res) {H : Heap} {locs : List Loc} (hP : va_P D vwCl (WM ad cs σ) H) (hS : va_S (AM ad) s.heap H locs) {ls : Array Slot} (hl : lv_has ls 1 [(0, .ref (ad 0))]) : W p l e R s m args below meth c H locs 0 0 (MQ below (QI D (TYM cs) (WM ad cs) (AM ad) res σ) args s 0 0 (AM ad)) (F0 m 0 ls []) := by
  have hx := C.1.1
  have hb := C.1.2.1
  unfold f_X10_all at hf
  refine lv_iconst (v := 1) hx hb dX10_all_0 (by decide) ?_
  refine lv_aload_n hx hb dX10_all_1 rfl (lv_at hl 0 rfl) ?_
  refine gX10_1 C hP k_665 dX10_all_2 ?_
  refine lv_ishl hx hb dX10_all_5 ?_
  refine lv_iconst (v := 1) hx hb dX10_all_6 (by decide) ?_
  refine lv_isub hx hb dX10_all_7 ?_
  exact q_iret C hr hlk hP hS (congrArg (fun q => (q, σ)) (Option.some.inj hf)) dX10_all_8
theorem kd_X10_all : yX10_all.cls = RX10 ∧ yX10_all.cls ≠ "java/lang/invoke/MethodHandle" ∧ yX10_all.cls ≠ "java/lang/invoke/VarHandle" ∧ (parseMethodDescriptor yX10_all.desc).map (fun d => d.parameters.length) = some 0 := by decide +kernel
def r_X10_all : Room := { frames := 0, cells := 0, slots := 0, locals := 0 }
set_option maxRecDepth 100000 in
set_option maxHeartbeats 4000000 in
theorem c_X10_all {l : Launch} {D : va_G} {ad : Nat → Nat} {cs : Nat → ClassId} (hD : ∀ σ, va_D (AM ad) (WM ad cs σ)) {σ : Sg}  {res : Int32} (hf : f_X10_all σ = some res) : Met l yX10_all (wm yX10_all cX10_all 1 (some .int)) r_X10_all (va_Pc [.ref (ad 0)] (BW D (TYM cs) (WM ad cs) σ)) (QI D (TYM cs) (WM ad cs) (AM ad) res σ) 0 0 (AM ad) := by
  refine q_enter (by decide) hD (Nat.le_of_ble_eq_true rfl) ?_
  intro p e s m below meth c C hr hlk hP hS ls hl
  exact w_X10_all C hr hlk ⟨Nat.le_of_ble_eq_true rfl, Nat.le_of_ble_eq_true rfl⟩ hf hP hS hl

set_option maxRecDepth 100000 in
set_option maxHeartbeats 4000000 in
theorem w_X10_codeAt (C : CX p m c cX10_codeAt 3 s args RX10 D (TYM cs) (WM ad cs) (AM ad)) (hr : meth.sig.returnType = (some .int)) (hlk : meth.locks = false) (hR : 0 ≤ R.frames ∧ 0 ≤ R.locals) {σ : Sg} {x1 : Int32} {x2 : Int32} {res : Int32} (hf : f_X10_codeAt σ x1 x2 = some res) {H : Heap} {locs : List Loc} (hP : va_P D vwCl (WM ad cs σ) H) (hS : va_S (AM ad) s.heap H locs) {ls : Array Slot} (hl : lv_has ls 3 [(0, .ref (ad 0)), (1, .int x1), (2, .int x2)]) : W p l e R s m args below meth c H locs 0 0 (MQ below (QI D (TYM cs) (WM ad cs) (AM ad) res σ) args s 0 0 (AM ad)) (F0 m 0 ls []) := by
  have hx := C.1.1
  have hb := C.1.2.1
  unfold f_X10_codeAt at hf
  refine lv_aload_n hx hb dX10_codeAt_0 rfl (lv_at hl 0 rfl) ?_
  refine gX10_7 C hP k_671 dX10_codeAt_1 ?_
  refine lv_iload_n hx hb dX10_codeAt_4 rfl (lv_at hl 2 rfl) ?_
  refine lv_icmp_ge (tgt := 22) hx hb dX10_codeAt_5 (by decide) (fun c1 => ?_) (fun c1 => ?_)
  · replace hf := zt c1 hf
    refine lv_bipush (v := (-9)) hx hb dX10_codeAt_22 (by decide) ?_
    exact q_iret C hr hlk hP hS (congrArg (fun q => (q, σ)) (Option.some.inj hf)) dX10_codeAt_24
  · replace hf := zf c1 hf
    refine lv_aload_n hx hb dX10_codeAt_8 rfl (lv_at hl 0 rfl) ?_
    refine gX10_26 C hP k_690 dX10_codeAt_9 ?_
    refine lv_iload_n hx hb dX10_codeAt_12 rfl (lv_at hl 1 rfl) ?_
    refine lv_aload_n hx hb dX10_codeAt_13 rfl (lv_at hl 0 rfl) ?_
    refine gX10_7 C hP k_671 dX10_codeAt_14 ?_
    refine lv_iadd hx hb dX10_codeAt_17 ?_
    obtain ⟨h2, hf⟩ := zc hf
    refine aldM C hP (n := 240) rfl h2 dX10_codeAt_18 ?_
    refine lv_goto (tgt := 24) hx hb dX10_codeAt_19 (by decide) ?_
    exact q_iret C hr hlk hP hS (congrArg (fun q => (q, σ)) (Option.some.inj hf)) dX10_codeAt_24
theorem kd_X10_codeAt : yX10_codeAt.cls = RX10 ∧ yX10_codeAt.cls ≠ "java/lang/invoke/MethodHandle" ∧ yX10_codeAt.cls ≠ "java/lang/invoke/VarHandle" ∧ (parseMethodDescriptor yX10_codeAt.desc).map (fun d => d.parameters.length) = some 2 := by decide +kernel
def r_X10_codeAt : Room := { frames := 0, cells := 0, slots := 0, locals := 0 }
set_option maxRecDepth 100000 in
set_option maxHeartbeats 4000000 in
theorem c_X10_codeAt {l : Launch} {D : va_G} {ad : Nat → Nat} {cs : Nat → ClassId} (hD : ∀ σ, va_D (AM ad) (WM ad cs σ)) {σ : Sg} {x1 : Int32} {x2 : Int32} {res : Int32} (hf : f_X10_codeAt σ x1 x2 = some res) : Met l yX10_codeAt (wm yX10_codeAt cX10_codeAt 3 (some .int)) r_X10_codeAt (va_Pc [.ref (ad 0), .int x1, .int x2] (BW D (TYM cs) (WM ad cs) σ)) (QI D (TYM cs) (WM ad cs) (AM ad) res σ) 0 0 (AM ad) := by
  refine q_enter (by decide) hD (Nat.le_of_ble_eq_true rfl) ?_
  intro p e s m below meth c C hr hlk hP hS ls hl
  exact w_X10_codeAt C hr hlk ⟨Nat.le_of_ble_eq_true rfl, Nat.le_of_ble_eq_true rfl⟩ hf hP hS hl

set_option maxRecDepth 100000 in
set_option maxHeartbeats 4000000 in
theorem w_X10_figure_54 (C : CX p m c cX10_figure 8 s args RX10 D (TYM cs) (WM ad cs) (AM ad)) (hr : meth.sig.returnType = (some .int)) (hlk : meth.locks = false) (hR : 1 ≤ R.frames ∧ 25 ≤ R.locals) {σ : Sg} {x6 : Int32} {x7 : Int32} {s0 : Int32} {s1 : Int32} {res : Int32 × Sg} (hf : f_X10_figure_54 σ x6 x7 s0 s1 = some res) {H : Heap} {locs : List Loc} (hP : va_P D vwCl (WM ad cs σ) H) (hS : va_S (AM ad) s.heap H locs) {ls : Array Slot} (hl : lv_has ls 8 [(6, .int x6), (7, .int x7)]) : W p l e R s m args below meth c H locs 0 0 (MQ below (QI D (TYM cs) (WM ad cs) (AM ad) res.1 res.2) args s 0 0 (AM ad)) (F0 m 54 ls [.int s0, .int s1, .ref (ad 0)]) := by
  have hx := C.1.1
  have hb := C.1.2.1
  unfold f_X10_figure_54 at hf
  refine lv_iadd hx hb dX10_figure_54 ?_
  refine pX10_7 C hP hS k_671 dX10_figure_55 (fun H locs hP hS => ?_)
  refine lv_iload hx hb dX10_figure_58 (lv_at hl 1 rfl) ?_
  refine lv_if_eq (tgt := 68) hx hb dX10_figure_60 (by decide) (fun c1 => ?_) (fun c1 => ?_)
  · replace hf := zt c1 hf
    refine lv_bipush (v := (-9)) hx hb dX10_figure_68 (by decide) ?_
    exact q_iret C hr hlk hP hS (Option.some.inj hf) dX10_figure_70
  · replace hf := zf c1 hf
    refine lv_iload hx hb dX10_figure_63 (lv_at hl 0 rfl) ?_
    refine lv_goto (tgt := 70) hx hb dX10_figure_65 (by decide) ?_
    exact q_iret C hr hlk hP hS (Option.some.inj hf) dX10_figure_70
set_option maxRecDepth 100000 in
set_option maxHeartbeats 4000000 in
theorem w_X10_figure_37 (C : CX p m c cX10_figure 8 s args RX10 D (TYM cs) (WM ad cs) (AM ad)) (hr : meth.sig.returnType = (some .int)) (hlk : meth.locks = false) (hR : 1 ≤ R.frames ∧ 25 ≤ R.locals) {σ : Sg} {x6 : Int32} {s0 : Int32} {res : Int32 × Sg} (hf : f_X10_figure_37 σ x6 s0 = some res) {H : Heap} {locs : List Loc} (hP : va_P D vwCl (WM ad cs σ) H) (hS : va_S (AM ad) s.heap H locs) {ls : Array Slot} (hl : lv_has ls 8 [(0, .ref (ad 0)), (6, .int x6)]) : W p l e R s m args below meth c H locs 0 0 (MQ below (QI D (TYM cs) (WM ad cs) (AM ad) res.1 res.2) args s 0 0 (AM ad)) (F0 m 37 ls [.int s0]) := by
  have hx := C.1.1
  have hb := C.1.2.1
  unfold f_X10_figure_37 at hf
  refine lv_istore (lv' := [(7, .int s0), (0, .ref (ad 0)), (6, .int x6)]) hx hb dX10_figure_37 hl (by decide) rfl (fun ls hl => ?_)
  refine lv_aload_n hx hb dX10_figure_39 rfl (lv_at hl 1 rfl) ?_
  refine lv_dup hx hb dX10_figure_40 rfl ?_
  refine gX10_7 C hP k_671 dX10_figure_41 ?_
  refine lv_iload hx hb dX10_figure_44 (lv_at hl 0 rfl) ?_
  refine lv_if_eq (tgt := 53) hx hb dX10_figure_46 (by decide) (fun c1 => ?_) (fun c1 => ?_)
  · replace hf := zt c1 hf
    refine lv_iconst (v := 0) hx hb dX10_figure_53 (by decide) ?_
    exact w_X10_figure_54 C hr hlk hR hf hP hS (lv_sub hl [2, 0] rfl)
  · replace hf := zf c1 hf
    refine lv_iconst (v := 1) hx hb dX10_figure_49 (by decide) ?_
    refine lv_goto (tgt := 54) hx hb dX10_figure_50 (by decide) ?_
    exact w_X10_figure_54 C hr hlk hR hf hP hS (lv_sub hl [2, 0] rfl)
set_option maxRecDepth 100000 in
set_option maxHeartbeats 4000000 in
theorem w_X10_figure (C : CX p m c cX10_figure 8 s args RX10 D (TYM cs) (WM ad cs) (AM ad)) (hr : meth.sig.returnType = (some .int)) (hlk : meth.locks = false) (hR : 1 ≤ R.frames ∧ 25 ≤ R.locals) {σ : Sg} {x1 : Int32} {x2 : Int32} {x3 : Int32} {x4 : Int32} {x5 : Int32} {res : Int32 × Sg} (hf : f_X10_figure σ x1 x2 x3 x4 x5 = some res) {H : Heap} {locs : List Loc} (hP : va_P D vwCl (WM ad cs σ) H) (hS : va_S (AM ad) s.heap H locs) {ls : Array Slot} (hl : lv_has ls 8 [(0, .ref (ad 0)), (1, .int x1), (2, .int x2), (3, .int x3), (4, .int x4), (5, .int x5)]) : W p l e R s m args below meth c H locs 0 0 (MQ below (QI D (TYM cs) (WM ad cs) (AM ad) res.1 res.2) args s 0 0 (AM ad)) (F0 m 0 ls []) := by
  have hx := C.1.1
  have hb := C.1.2.1
  unfold f_X10_figure at hf
  refine lv_aload_n hx hb dX10_figure_0 rfl (lv_at hl 0 rfl) ?_
  refine lv_iload_n hx hb dX10_figure_1 rfl (lv_at hl 1 rfl) ?_
  refine lv_iload_n hx hb dX10_figure_2 rfl (lv_at hl 2 rfl) ?_
  obtain ⟨r2, hg1, hf⟩ := zb hf
  try dsimp only at hf
  refine q_calli C hS (q_runV C hP (c_X10_codeAt (l := l) C.2.2.1 hg1) (ci := 9) (As := [.int x1, .int x2]) (rest := []) ⟨gd_V k_783 k_785 k_20 k_53 k_786, ⟨rfl, rfl⟩, kd_X10_codeAt, ⟨Nat.le_trans (Nat.le_of_ble_eq_true rfl) hR.1, Nat.le_trans (Nat.le_of_ble_eq_true rfl) hR.2⟩⟩ (o := 0) rfl rfl rfl rfl rfl (Nat.le_of_ble_eq_true rfl) hl.1 dX10_figure_3) (fun H locs hP hS => ?_)
  refine lv_bipush (v := 48) hx hb dX10_figure_6 (by decide) ?_
  refine lv_isub hx hb dX10_figure_8 ?_
  refine lv_istore (lv' := [(6, .int (r2 - 48)), (0, .ref (ad 0)), (1, .int x1), (2, .int x2), (3, .int x3), (4, .int x4), (5, .int x5)]) hx hb dX10_figure_9 hl (by decide) rfl (fun ls hl => ?_)
  refine lv_iload hx hb dX10_figure_11 (lv_at hl 0 rfl) ?_
  refine lv_i2l hx hb dX10_figure_13 rfl ?_
  refine lv_iload_n hx hb dX10_figure_14 rfl (lv_at hl 4 rfl) ?_
  refine lv_i2l hx hb dX10_figure_15 rfl ?_
  refine lv_iload hx hb dX10_figure_16 (lv_at hl 5 rfl) ?_
  refine lv_i2l hx hb dX10_figure_18 rfl ?_
  obtain ⟨r4, hg3, hf⟩ := zb hf
  try dsimp only at hf
  refine q_calli C hS (q_runS C hP (c_X10_in (l := l) C.2.2.1 hg3) (As := [.long ((r2 - 48).toInt64), .long x3.toInt64, .long x4.toInt64]) (rest := []) ⟨gd_S k_760 k_761 k_53 k_762, ⟨rfl, rfl⟩, kd_X10_in, ⟨Nat.le_trans (Nat.le_of_ble_eq_true rfl) hR.1, Nat.le_trans (Nat.le_of_ble_eq_true rfl) hR.2⟩⟩ rfl rfl (Nat.le_of_ble_eq_true rfl) hl.1 dX10_figure_19) (fun H locs hP hS => ?_)
  refine lv_if_eq (tgt := 36) hx hb dX10_figure_22 (by decide) (fun c5 => ?_) (fun c5 => ?_)
  · replace hf := zt c5 hf
    refine lv_iconst (v := 0) hx hb dX10_figure_36 (by decide) ?_
    exact w_X10_figure_37 C hr hlk hR hf hP hS (lv_sub hl [1, 0] rfl)
  · replace hf := zf c5 hf
    refine lv_iload hx hb dX10_figure_25 (lv_at hl 0 rfl) ?_
    refine lv_iload hx hb dX10_figure_27 (lv_at hl 6 rfl) ?_
    refine lv_icmp_eq (tgt := 36) hx hb dX10_figure_29 (by decide) (fun c6 => ?_) (fun c6 => ?_)
    · replace hf := zt c6 hf
      refine lv_iconst (v := 0) hx hb dX10_figure_36 (by decide) ?_
      exact w_X10_figure_37 C hr hlk hR hf hP hS (lv_sub hl [1, 0] rfl)
    · replace hf := zf c6 hf
      refine lv_iconst (v := 1) hx hb dX10_figure_32 (by decide) ?_
      refine lv_goto (tgt := 37) hx hb dX10_figure_33 (by decide) ?_
      exact w_X10_figure_37 C hr hlk hR hf hP hS (lv_sub hl [1, 0] rfl)
theorem kd_X10_figure : yX10_figure.cls = RX10 ∧ yX10_figure.cls ≠ "java/lang/invoke/MethodHandle" ∧ yX10_figure.cls ≠ "java/lang/invoke/VarHandle" ∧ (parseMethodDescriptor yX10_figure.desc).map (fun d => d.parameters.length) = some 5 := by decide +kernel
def r_X10_figure : Room := { frames := 1, cells := 0, slots := 0, locals := 25 }
set_option maxRecDepth 100000 in
set_option maxHeartbeats 4000000 in
theorem c_X10_figure {l : Launch} {D : va_G} {ad : Nat → Nat} {cs : Nat → ClassId} (hD : ∀ σ, va_D (AM ad) (WM ad cs σ)) {σ : Sg} {x1 : Int32} {x2 : Int32} {x3 : Int32} {x4 : Int32} {x5 : Int32} {res : Int32 × Sg} (hf : f_X10_figure σ x1 x2 x3 x4 x5 = some res) : Met l yX10_figure (wm yX10_figure cX10_figure 8 (some .int)) r_X10_figure (va_Pc [.ref (ad 0), .int x1, .int x2, .int x3, .int x4, .int x5] (BW D (TYM cs) (WM ad cs) σ)) (QI D (TYM cs) (WM ad cs) (AM ad) res.1 res.2) 0 0 (AM ad) := by
  refine q_enter (by decide) hD (Nat.le_of_ble_eq_true rfl) ?_
  intro p e s m below meth c C hr hlk hP hS ls hl
  exact w_X10_figure C hr hlk ⟨Nat.le_of_ble_eq_true rfl, Nat.le_of_ble_eq_true rfl⟩ hf hP hS hl

set_option maxRecDepth 100000 in
set_option maxHeartbeats 4000000 in
theorem w_X10_readsThing_166 (C : CX p m c cX10_readsThing 7 s args RX10 D (TYM cs) (WM ad cs) (AM ad)) (hr : meth.sig.returnType = (some .boolean)) (hlk : meth.locks = false) (hR : 2 ≤ R.frames ∧ 52 ≤ R.locals) {σ : Sg} {x4 : Int32} {x5 : Int32} {x6 : Int32} {s0 : Int32} {s1 : Int32} {res : Int32 × Sg} (hf : f_X10_readsThing_166 σ x4 x5 x6 s0 s1 = some res) {H : Heap} {locs : List Loc} (hP : va_P D vwCl (WM ad cs σ) H) (hS : va_S (AM ad) s.heap H locs) {ls : Array Slot} (hl : lv_has ls 7 [(0, .ref (ad 0)), (4, .int x4), (5, .int x5), (6, .int x6)]) : W p l e R s m args below meth c H locs 0 0 (MQ below (QI D (TYM cs) (WM ad cs) (AM ad) res.1 res.2) args s 0 0 (AM ad)) (F0 m 166 ls [.int s0, .int s1, .ref (ad 5)]) := by
  have hx := C.1.1
  have hb := C.1.2.1
  unfold f_X10_readsThing_166 at hf
  obtain ⟨h1, hf⟩ := zc hf
  refine astM C hP hS (n := 8) rfl h1 dX10_readsThing_166 (fun H locs hP hS => ?_)
  refine lv_aload_n hx hb dX10_readsThing_167 rfl (lv_at hl 0 rfl) ?_
  refine gX10_10 C hP k_674 dX10_readsThing_168 ?_
  refine lv_aload_n hx hb dX10_readsThing_171 rfl (lv_at hl 0 rfl) ?_
  refine gX10_8 C hP k_672 dX10_readsThing_172 ?_
  refine lv_iload hx hb dX10_readsThing_175 (lv_at hl 1 rfl) ?_
  obtain ⟨h2, hf⟩ := zc hf
  refine astM C hP hS (n := 8) rfl h2 dX10_readsThing_177 (fun H locs hP hS => ?_)
  refine lv_aload_n hx hb dX10_readsThing_178 rfl (lv_at hl 0 rfl) ?_
  refine gX10_11 C hP k_675 dX10_readsThing_179 ?_
  refine lv_aload_n hx hb dX10_readsThing_182 rfl (lv_at hl 0 rfl) ?_
  refine gX10_8 C hP k_672 dX10_readsThing_183 ?_
  refine lv_iload hx hb dX10_readsThing_186 (lv_at hl 2 rfl) ?_
  obtain ⟨h3, hf⟩ := zc hf
  refine astM C hP hS (n := 8) rfl h3 dX10_readsThing_188 (fun H locs hP hS => ?_)
  refine lv_aload_n hx hb dX10_readsThing_189 rfl (lv_at hl 0 rfl) ?_
  refine gX10_12 C hP k_676 dX10_readsThing_190 ?_
  refine lv_aload_n hx hb dX10_readsThing_193 rfl (lv_at hl 0 rfl) ?_
  refine gX10_8 C hP k_672 dX10_readsThing_194 ?_
  refine lv_iload hx hb dX10_readsThing_197 (lv_at hl 3 rfl) ?_
  obtain ⟨h4, hf⟩ := zc hf
  refine astM C hP hS (n := 8) rfl h4 dX10_readsThing_199 (fun H locs hP hS => ?_)
  refine lv_aload_n hx hb dX10_readsThing_200 rfl (lv_at hl 0 rfl) ?_
  refine lv_dup hx hb dX10_readsThing_201 rfl ?_
  refine gX10_8 C hP k_672 dX10_readsThing_202 ?_
  refine lv_iconst (v := 1) hx hb dX10_readsThing_205 (by decide) ?_
  refine lv_iadd hx hb dX10_readsThing_206 ?_
  refine pX10_8 C hP hS k_672 dX10_readsThing_207 (fun H locs hP hS => ?_)
  refine lv_iconst (v := 1) hx hb dX10_readsThing_210 (by decide) ?_
  exact q_zret C hr hlk hP hS (Option.some.inj hf) (by decide) dX10_readsThing_211
set_option maxRecDepth 100000 in
set_option maxHeartbeats 4000000 in
theorem w_X10_readsThing_128 (C : CX p m c cX10_readsThing 7 s args RX10 D (TYM cs) (WM ad cs) (AM ad)) (hr : meth.sig.returnType = (some .boolean)) (hlk : meth.locks = false) (hR : 2 ≤ R.frames ∧ 52 ≤ R.locals) {σ : Sg} {x3 : Int32} {x4 : Int32} {x5 : Int32} {s0 : Int32} {res : Int32 × Sg} (hf : f_X10_readsThing_128 σ x3 x4 x5 s0 = some res) {H : Heap} {locs : List Loc} (hP : va_P D vwCl (WM ad cs σ) H) (hS : va_S (AM ad) s.heap H locs) {ls : Array Slot} (hl : lv_has ls 7 [(0, .ref (ad 0)), (3, .int x3), (4, .int x4), (5, .int x5)]) : W p l e R s m args below meth c H locs 0 0 (MQ below (QI D (TYM cs) (WM ad cs) (AM ad) res.1 res.2) args s 0 0 (AM ad)) (F0 m 128 ls [.int s0]) := by
  have hx := C.1.1
  have hb := C.1.2.1
  unfold f_X10_readsThing_128 at hf
  refine lv_istore (lv' := [(6, .int s0), (0, .ref (ad 0)), (3, .int x3), (4, .int x4), (5, .int x5)]) hx hb dX10_readsThing_128 hl (by decide) rfl (fun ls hl => ?_)
  refine lv_iload hx hb dX10_readsThing_130 (lv_at hl 0 rfl) ?_
  refine lv_if_ge (tgt := 137) hx hb dX10_readsThing_132 (by decide) (fun c1 => ?_) (fun c1 => ?_)
  · replace hf := zt c1 hf
    refine lv_aload_n hx hb dX10_readsThing_137 rfl (lv_at hl 1 rfl) ?_
    refine gX10_9 C hP k_673 dX10_readsThing_138 ?_
    refine lv_aload_n hx hb dX10_readsThing_141 rfl (lv_at hl 1 rfl) ?_
    refine gX10_8 C hP k_672 dX10_readsThing_142 ?_
    refine lv_iload_n hx hb dX10_readsThing_145 rfl (lv_at hl 2 rfl) ?_
    refine lv_bipush (v := 116) hx hb dX10_readsThing_146 (by decide) ?_
    refine lv_icmp_ne (tgt := 155) hx hb dX10_readsThing_148 (by decide) (fun c2 => ?_) (fun c2 => ?_)
    · replace hf := zf c2 hf
      refine lv_iload_n hx hb dX10_readsThing_155 rfl (lv_at hl 2 rfl) ?_
      refine lv_bipush (v := 115) hx hb dX10_readsThing_156 (by decide) ?_
      refine lv_icmp_ne (tgt := 165) hx hb dX10_readsThing_158 (by decide) (fun c3 => ?_) (fun c3 => ?_)
      · replace hf := zf c3 hf
        refine lv_iconst (v := 2) hx hb dX10_readsThing_165 (by decide) ?_
        exact w_X10_readsThing_166 C hr hlk hR hf hP hS (lv_sub hl [1, 3, 4, 0] rfl)
      · replace hf := zt c3 hf
        refine lv_iconst (v := 1) hx hb dX10_readsThing_161 (by decide) ?_
        refine lv_goto (tgt := 166) hx hb dX10_readsThing_162 (by decide) ?_
        exact w_X10_readsThing_166 C hr hlk hR hf hP hS (lv_sub hl [1, 3, 4, 0] rfl)
    · replace hf := zt c2 hf
      refine lv_iconst (v := 0) hx hb dX10_readsThing_151 (by decide) ?_
      refine lv_goto (tgt := 166) hx hb dX10_readsThing_152 (by decide) ?_
      exact w_X10_readsThing_166 C hr hlk hR hf hP hS (lv_sub hl [1, 3, 4, 0] rfl)
  · replace hf := zf c1 hf
    refine lv_iconst (v := 0) hx hb dX10_readsThing_135 (by decide) ?_
    exact q_zret C hr hlk hP hS (Option.some.inj hf) (by decide) dX10_readsThing_136
set_option maxRecDepth 100000 in
set_option maxHeartbeats 4000000 in
theorem w_X10_readsThing_105 (C : CX p m c cX10_readsThing 7 s args RX10 D (TYM cs) (WM ad cs) (AM ad)) (hr : meth.sig.returnType = (some .boolean)) (hlk : meth.locks = false) (hR : 2 ≤ R.frames ∧ 52 ≤ R.locals) {σ : Sg} {x1 : Int32} {x2 : Int32} {x3 : Int32} {x4 : Int32} {s0 : Int32} {res : Int32 × Sg} (hf : f_X10_readsThing_105 σ x1 x2 x3 x4 s0 = some res) {H : Heap} {locs : List Loc} (hP : va_P D vwCl (WM ad cs σ) H) (hS : va_S (AM ad) s.heap H locs) {ls : Array Slot} (hl : lv_has ls 7 [(0, .ref (ad 0)), (1, .int x1), (2, .int x2), (3, .int x3), (4, .int x4)]) : W p l e R s m args below meth c H locs 0 0 (MQ below (QI D (TYM cs) (WM ad cs) (AM ad) res.1 res.2) args s 0 0 (AM ad)) (F0 m 105 ls [.int s0]) := by
  have hx := C.1.1
  have hb := C.1.2.1
  unfold f_X10_readsThing_105 at hf
  refine lv_istore (lv' := [(5, .int s0), (0, .ref (ad 0)), (1, .int x1), (2, .int x2), (3, .int x3), (4, .int x4)]) hx hb dX10_readsThing_105 hl (by decide) rfl (fun ls hl => ?_)
  refine lv_iload hx hb dX10_readsThing_107 (lv_at hl 0 rfl) ?_
  refine lv_if_ge (tgt := 117) hx hb dX10_readsThing_109 (by decide) (fun c1 => ?_) (fun c1 => ?_)
  · replace hf := zt c1 hf
    refine lv_aload_n hx hb dX10_readsThing_117 rfl (lv_at hl 1 rfl) ?_
    refine lv_iload_n hx hb dX10_readsThing_118 rfl (lv_at hl 2 rfl) ?_
    refine lv_iload_n hx hb dX10_readsThing_119 rfl (lv_at hl 3 rfl) ?_
    refine lv_iconst (v := 1) hx hb dX10_readsThing_120 (by decide) ?_
    refine lv_bipush (v := 9) hx hb dX10_readsThing_121 (by decide) ?_
    refine lv_bipush (v := (-9)) hx hb dX10_readsThing_123 (by decide) ?_
    obtain ⟨⟨r3, σ4⟩, hg2, hf⟩ := zb hf
    try dsimp only at hf
    refine q_calli C hS (q_runV C hP (c_X10_figure (l := l) C.2.2.1 hg2) (ci := 9) (As := [.int x1, .int x2, .int 1, .int 9, .int (-9)]) (rest := []) ⟨gd_V k_791 k_793 k_22 k_53 k_794, ⟨rfl, rfl⟩, kd_X10_figure, ⟨Nat.le_trans (Nat.le_of_ble_eq_true rfl) hR.1, Nat.le_trans (Nat.le_of_ble_eq_true rfl) hR.2⟩⟩ (o := 0) rfl rfl rfl rfl rfl (Nat.le_of_ble_eq_true rfl) hl.1 dX10_readsThing_125) (fun H locs hP hS => ?_)
    exact w_X10_readsThing_128 C hr hlk hR hf hP hS (lv_sub hl [1, 4, 5, 0] rfl)
  · replace hf := zf c1 hf
    refine lv_bipush (v := (-9)) hx hb dX10_readsThing_112 (by decide) ?_
    refine lv_goto (tgt := 128) hx hb dX10_readsThing_114 (by decide) ?_
    exact w_X10_readsThing_128 C hr hlk hR hf hP hS (lv_sub hl [1, 4, 5, 0] rfl)
set_option maxRecDepth 100000 in
set_option maxHeartbeats 4000000 in
theorem w_X10_readsThing_59 (C : CX p m c cX10_readsThing 7 s args RX10 D (TYM cs) (WM ad cs) (AM ad)) (hr : meth.sig.returnType = (some .boolean)) (hlk : meth.locks = false) (hR : 2 ≤ R.frames ∧ 52 ≤ R.locals) {σ : Sg} {x1 : Int32} {x2 : Int32} {x3 : Int32} {res : Int32 × Sg} (hf : f_X10_readsThing_59 σ x1 x2 x3 = some res) {H : Heap} {locs : List Loc} (hP : va_P D vwCl (WM ad cs σ) H) (hS : va_S (AM ad) s.heap H locs) {ls : Array Slot} (hl : lv_has ls 7 [(0, .ref (ad 0)), (1, .int x1), (2, .int x2), (3, .int x3)]) : W p l e R s m args below meth c H locs 0 0 (MQ below (QI D (TYM cs) (WM ad cs) (AM ad) res.1 res.2) args s 0 0 (AM ad)) (F0 m 59 ls []) := by
  have hx := C.1.1
  have hb := C.1.2.1
  unfold f_X10_readsThing_59 at hf
  refine lv_aload_n hx hb dX10_readsThing_59 rfl (lv_at hl 0 rfl) ?_
  refine lv_dup hx hb dX10_readsThing_60 rfl ?_
  refine gX10_7 C hP k_671 dX10_readsThing_61 ?_
  refine lv_iconst (v := 1) hx hb dX10_readsThing_64 (by decide) ?_
  refine lv_iadd hx hb dX10_readsThing_65 ?_
  refine pX10_7 C hP hS k_671 dX10_readsThing_66 (fun H locs hP hS => ?_)
  refine lv_aload_n hx hb dX10_readsThing_69 rfl (lv_at hl 0 rfl) ?_
  refine lv_iload_n hx hb dX10_readsThing_70 rfl (lv_at hl 1 rfl) ?_
  refine lv_iload_n hx hb dX10_readsThing_71 rfl (lv_at hl 2 rfl) ?_
  refine lv_iconst (v := 0) hx hb dX10_readsThing_72 (by decide) ?_
  refine lv_bipush (v := 7) hx hb dX10_readsThing_73 (by decide) ?_
  refine lv_aload_n hx hb dX10_readsThing_75 rfl (lv_at hl 0 rfl) ?_
  refine gX10_8 C hP k_672 dX10_readsThing_76 ?_
  obtain ⟨⟨r2, σ3⟩, hg1, hf⟩ := zb hf
  try dsimp only at hf
  refine q_calli C hS (q_runV C hP (c_X10_figure (l := l) C.2.2.1 hg1) (ci := 9) (As := [.int x1, .int x2, .int 0, .int 7, .int ((st σ 0 7 ((σ 0 7) + 1)) 0 8)]) (rest := []) ⟨gd_V k_791 k_793 k_22 k_53 k_794, ⟨rfl, rfl⟩, kd_X10_figure, ⟨Nat.le_trans (Nat.le_of_ble_eq_true rfl) hR.1, Nat.le_trans (Nat.le_of_ble_eq_true rfl) hR.2⟩⟩ (o := 0) rfl rfl rfl rfl rfl (Nat.le_of_ble_eq_true rfl) hl.1 dX10_readsThing_79) (fun H locs hP hS => ?_)
  refine lv_istore (lv' := [(4, .int r2), (0, .ref (ad 0)), (1, .int x1), (2, .int x2), (3, .int x3)]) hx hb dX10_readsThing_82 hl (by decide) rfl (fun ls hl => ?_)
  refine lv_iload hx hb dX10_readsThing_84 (lv_at hl 0 rfl) ?_
  refine lv_if_ge (tgt := 94) hx hb dX10_readsThing_86 (by decide) (fun c4 => ?_) (fun c4 => ?_)
  · replace hf := zt c4 hf
    refine lv_aload_n hx hb dX10_readsThing_94 rfl (lv_at hl 1 rfl) ?_
    refine lv_iload_n hx hb dX10_readsThing_95 rfl (lv_at hl 2 rfl) ?_
    refine lv_iload_n hx hb dX10_readsThing_96 rfl (lv_at hl 3 rfl) ?_
    refine lv_iconst (v := 1) hx hb dX10_readsThing_97 (by decide) ?_
    refine lv_bipush (v := 9) hx hb dX10_readsThing_98 (by decide) ?_
    refine lv_bipush (v := (-9)) hx hb dX10_readsThing_100 (by decide) ?_
    obtain ⟨⟨r6, σ7⟩, hg5, hf⟩ := zb hf
    try dsimp only at hf
    refine q_calli C hS (q_runV C hP (c_X10_figure (l := l) C.2.2.1 hg5) (ci := 9) (As := [.int x1, .int x2, .int 1, .int 9, .int (-9)]) (rest := []) ⟨gd_V k_791 k_793 k_22 k_53 k_794, ⟨rfl, rfl⟩, kd_X10_figure, ⟨Nat.le_trans (Nat.le_of_ble_eq_true rfl) hR.1, Nat.le_trans (Nat.le_of_ble_eq_true rfl) hR.2⟩⟩ (o := 0) rfl rfl rfl rfl rfl (Nat.le_of_ble_eq_true rfl) hl.1 dX10_readsThing_102) (fun H locs hP hS => ?_)
    exact w_X10_readsThing_105 C hr hlk hR hf hP hS (lv_sub hl [1, 2, 3, 4, 0] rfl)
  · replace hf := zf c4 hf
    refine lv_bipush (v := (-9)) hx hb dX10_readsThing_89 (by decide) ?_
    refine lv_goto (tgt := 105) hx hb dX10_readsThing_91 (by decide) ?_
    exact w_X10_readsThing_105 C hr hlk hR hf hP hS (lv_sub hl [1, 2, 3, 4, 0] rfl)
set_option maxRecDepth 100000 in
set_option maxHeartbeats 4000000 in
theorem w_X10_readsThing (C : CX p m c cX10_readsThing 7 s args RX10 D (TYM cs) (WM ad cs) (AM ad)) (hr : meth.sig.returnType = (some .boolean)) (hlk : meth.locks = false) (hR : 2 ≤ R.frames ∧ 52 ≤ R.locals) {σ : Sg} {x1 : Int32} {x2 : Int32} {res : Int32 × Sg} (hf : f_X10_readsThing σ x1 x2 = some res) {H : Heap} {locs : List Loc} (hP : va_P D vwCl (WM ad cs σ) H) (hS : va_S (AM ad) s.heap H locs) {ls : Array Slot} (hl : lv_has ls 7 [(0, .ref (ad 0)), (1, .int x1), (2, .int x2)]) : W p l e R s m args below meth c H locs 0 0 (MQ below (QI D (TYM cs) (WM ad cs) (AM ad) res.1 res.2) args s 0 0 (AM ad)) (F0 m 0 ls []) := by
  have hx := C.1.1
  have hb := C.1.2.1
  unfold f_X10_readsThing at hf
  refine lv_aload_n hx hb dX10_readsThing_0 rfl (lv_at hl 0 rfl) ?_
  refine gX10_8 C hP k_672 dX10_readsThing_1 ?_
  refine lv_bipush (v := 8) hx hb dX10_readsThing_4 (by decide) ?_
  refine lv_icmp_eq (tgt := 20) hx hb dX10_readsThing_6 (by decide) (fun c1 => ?_) (fun c1 => ?_)
  · replace hf := zt c1 hf
    refine lv_iconst (v := 0) hx hb dX10_readsThing_20 (by decide) ?_
    exact q_zret C hr hlk hP hS (Option.some.inj hf) (by decide) dX10_readsThing_21
  · replace hf := zf c1 hf
    refine lv_aload_n hx hb dX10_readsThing_9 rfl (lv_at hl 0 rfl) ?_
    refine lv_iload_n hx hb dX10_readsThing_10 rfl (lv_at hl 1 rfl) ?_
    refine lv_iload_n hx hb dX10_readsThing_11 rfl (lv_at hl 2 rfl) ?_
    obtain ⟨r3, hg2, hf⟩ := zb hf
    try dsimp only at hf
    refine q_calli C hS (q_runV C hP (c_X10_codeAt (l := l) C.2.2.1 hg2) (ci := 9) (As := [.int x1, .int x2]) (rest := []) ⟨gd_V k_783 k_785 k_20 k_53 k_786, ⟨rfl, rfl⟩, kd_X10_codeAt, ⟨Nat.le_trans (Nat.le_of_ble_eq_true rfl) hR.1, Nat.le_trans (Nat.le_of_ble_eq_true rfl) hR.2⟩⟩ (o := 0) rfl rfl rfl rfl rfl (Nat.le_of_ble_eq_true rfl) hl.1 dX10_readsThing_12) (fun H locs hP hS => ?_)
    refine lv_bipush (v := 59) hx hb dX10_readsThing_15 (by decide) ?_
    refine lv_icmp_eq (tgt := 22) hx hb dX10_readsThing_17 (by decide) (fun c4 => ?_) (fun c4 => ?_)
    · replace hf := zt c4 hf
      refine lv_aload_n hx hb dX10_readsThing_22 rfl (lv_at hl 0 rfl) ?_
      refine lv_dup hx hb dX10_readsThing_23 rfl ?_
      refine gX10_7 C hP k_671 dX10_readsThing_24 ?_
      refine lv_iconst (v := 1) hx hb dX10_readsThing_27 (by decide) ?_
      refine lv_iadd hx hb dX10_readsThing_28 ?_
      refine pX10_7 C hP hS k_671 dX10_readsThing_29 (fun H locs hP hS => ?_)
      refine lv_aload_n hx hb dX10_readsThing_32 rfl (lv_at hl 0 rfl) ?_
      refine lv_iload_n hx hb dX10_readsThing_33 rfl (lv_at hl 1 rfl) ?_
      refine lv_iload_n hx hb dX10_readsThing_34 rfl (lv_at hl 2 rfl) ?_
      obtain ⟨r6, hg5, hf⟩ := zb hf
      try dsimp only at hf
      refine q_calli C hS (q_runV C hP (c_X10_codeAt (l := l) C.2.2.1 hg5) (ci := 9) (As := [.int x1, .int x2]) (rest := []) ⟨gd_V k_783 k_785 k_20 k_53 k_786, ⟨rfl, rfl⟩, kd_X10_codeAt, ⟨Nat.le_trans (Nat.le_of_ble_eq_true rfl) hR.1, Nat.le_trans (Nat.le_of_ble_eq_true rfl) hR.2⟩⟩ (o := 0) rfl rfl rfl rfl rfl (Nat.le_of_ble_eq_true rfl) hl.1 dX10_readsThing_35) (fun H locs hP hS => ?_)
      refine lv_istore_n (lv' := [(3, .int r6), (0, .ref (ad 0)), (1, .int x1), (2, .int x2)]) hx hb dX10_readsThing_38 rfl hl (by decide) rfl (fun ls hl => ?_)
      refine lv_iload_n hx hb dX10_readsThing_39 rfl (lv_at hl 0 rfl) ?_
      refine lv_bipush (v := 116) hx hb dX10_readsThing_40 (by decide) ?_
      refine lv_icmp_eq (tgt := 59) hx hb dX10_readsThing_42 (by decide) (fun c7 => ?_) (fun c7 => ?_)
      · replace hf := zt c7 hf
        exact w_X10_readsThing_59 C hr hlk hR hf hP hS (lv_sub hl [1, 2, 3, 0] rfl)
      · replace hf := zf c7 hf
        refine lv_iload_n hx hb dX10_readsThing_45 rfl (lv_at hl 0 rfl) ?_
        refine lv_bipush (v := 115) hx hb dX10_readsThing_46 (by decide) ?_
        refine lv_icmp_eq (tgt := 59) hx hb dX10_readsThing_48 (by decide) (fun c8 => ?_) (fun c8 => ?_)
        · replace hf := zt c8 hf
          exact w_X10_readsThing_59 C hr hlk hR hf hP hS (lv_sub hl [1, 2, 3, 0] rfl)
        · replace hf := zf c8 hf
          refine lv_iload_n hx hb dX10_readsThing_51 rfl (lv_at hl 0 rfl) ?_
          refine lv_bipush (v := 109) hx hb dX10_readsThing_52 (by decide) ?_
          refine lv_icmp_eq (tgt := 59) hx hb dX10_readsThing_54 (by decide) (fun c9 => ?_) (fun c9 => ?_)
          · replace hf := zt c9 hf
            exact w_X10_readsThing_59 C hr hlk hR hf hP hS (lv_sub hl [1, 2, 3, 0] rfl)
          · replace hf := zf c9 hf
            refine lv_iconst (v := 0) hx hb dX10_readsThing_57 (by decide) ?_
            exact q_zret C hr hlk hP hS (Option.some.inj hf) (by decide) dX10_readsThing_58
    · replace hf := zf c4 hf
      refine lv_iconst (v := 0) hx hb dX10_readsThing_20 (by decide) ?_
      exact q_zret C hr hlk hP hS (Option.some.inj hf) (by decide) dX10_readsThing_21
theorem kd_X10_readsThing : yX10_readsThing.cls = RX10 ∧ yX10_readsThing.cls ≠ "java/lang/invoke/MethodHandle" ∧ yX10_readsThing.cls ≠ "java/lang/invoke/VarHandle" ∧ (parseMethodDescriptor yX10_readsThing.desc).map (fun d => d.parameters.length) = some 2 := by decide +kernel
def r_X10_readsThing : Room := { frames := 2, cells := 0, slots := 0, locals := 52 }
set_option maxRecDepth 100000 in
set_option maxHeartbeats 4000000 in
theorem c_X10_readsThing {l : Launch} {D : va_G} {ad : Nat → Nat} {cs : Nat → ClassId} (hD : ∀ σ, va_D (AM ad) (WM ad cs σ)) {σ : Sg} {x1 : Int32} {x2 : Int32} {res : Int32 × Sg} (hf : f_X10_readsThing σ x1 x2 = some res) : Met l yX10_readsThing (wm yX10_readsThing cX10_readsThing 7 (some .boolean)) r_X10_readsThing (va_Pc [.ref (ad 0), .int x1, .int x2] (BW D (TYM cs) (WM ad cs) σ)) (QI D (TYM cs) (WM ad cs) (AM ad) res.1 res.2) 0 0 (AM ad) := by
  refine q_enter (by decide) hD (Nat.le_of_ble_eq_true rfl) ?_
  intro p e s m below meth c C hr hlk hP hS ls hl
  exact w_X10_readsThing C hr hlk ⟨Nat.le_of_ble_eq_true rfl, Nat.le_of_ble_eq_true rfl⟩ hf hP hS hl

set_option maxRecDepth 100000 in
set_option maxHeartbeats 4000000 in
theorem w_X10_readsTown_65 (C : CX p m c cX10_readsTown 5 s args RX10 D (TYM cs) (WM ad cs) (AM ad)) (hr : meth.sig.returnType = (some .boolean)) (hlk : meth.locks = false) (hR : 3 ≤ R.frames ∧ 78 ≤ R.locals) {σ : Sg} {x1 : Int32} {x2 : Int32} {res : Int32 × Sg} {ag45 : Int32 → Sg → Option (Int32 × Sg)} (hag45 : ∀ (x3 : Int32) (σ : Sg) (H : Heap) (locs : List Loc) (ls : Array Slot), ag45 x3 σ = some res → va_P D vwCl (WM ad cs σ) H → va_S (AM ad) s.heap H locs → lv_has ls 5 [(0, .ref (ad 0)), (1, .int x1), (2, .int x2), (3, .int x3)] → W p l e R s m args below meth c H locs 0 0 (MQ below (QI D (TYM cs) (WM ad cs) (AM ad) res.1 res.2) args s 0 0 (AM ad)) (F0 m 45 ls [])) (hf : f_X10_readsTown_65 ag45 σ x1 x2 = some res) {H : Heap} {locs : List Loc} (hP : va_P D vwCl (WM ad cs σ) H) (hS : va_S (AM ad) s.heap H locs) {ls : Array Slot} (hl : lv_has ls 5 [(0, .ref (ad 0)), (1, .int x1), (2, .int x2)]) : W p l e R s m args below meth c H locs 0 0 (MQ below (QI D (TYM cs) (WM ad cs) (AM ad) res.1 res.2) args s 0 0 (AM ad)) (F0 m 65 ls []) := by
  have hx := C.1.1
  have hb := C.1.2.1
  unfold f_X10_readsTown_65 at hf
  refine lv_aload_n hx hb dX10_readsTown_65 rfl (lv_at hl 0 rfl) ?_
  refine lv_iload_n hx hb dX10_readsTown_66 rfl (lv_at hl 1 rfl) ?_
  refine lv_iload_n hx hb dX10_readsTown_67 rfl (lv_at hl 2 rfl) ?_
  obtain ⟨⟨r2, σ3⟩, hg1, hf⟩ := zb hf
  try dsimp only at hf
  refine q_calli C hS (q_runV C hP (c_X10_readsThing (l := l) C.2.2.1 hg1) (ci := 9) (As := [.int x1, .int x2]) (rest := []) ⟨gd_V k_787 k_789 k_21 k_53 k_790, ⟨rfl, rfl⟩, kd_X10_readsThing, ⟨Nat.le_trans (Nat.le_of_ble_eq_true rfl) hR.1, Nat.le_trans (Nat.le_of_ble_eq_true rfl) hR.2⟩⟩ (o := 0) rfl rfl rfl rfl rfl (Nat.le_of_ble_eq_true rfl) hl.1 dX10_readsTown_68) (fun H locs hP hS => ?_)
  refine lv_istore_n (lv' := [(3, .int r2), (0, .ref (ad 0)), (1, .int x1), (2, .int x2)]) hx hb dX10_readsTown_71 rfl hl (by decide) rfl (fun ls hl => ?_)
  refine lv_goto (tgt := 45) hx hb dX10_readsTown_72 (by decide) ?_
  exact hag45 _ _ _ _ _ hf hP hS (lv_sub hl [1, 2, 3, 0] rfl)
set_option maxRecDepth 100000 in
set_option maxHeartbeats 4000000 in
theorem w_X10_readsTown_129 (C : CX p m c cX10_readsTown 5 s args RX10 D (TYM cs) (WM ad cs) (AM ad)) (hr : meth.sig.returnType = (some .boolean)) (hlk : meth.locks = false) (hR : 3 ≤ R.frames ∧ 78 ≤ R.locals) {σ : Sg} {x3 : Int32} {x4 : Int32} {s0 : Int32} {res : Int32 × Sg} {ag78 : Int32 → Int32 → Sg → Option (Int32 × Sg)} (hag78 : ∀ (x3 : Int32) (x4 : Int32) (σ : Sg) (H : Heap) (locs : List Loc) (ls : Array Slot), ag78 x3 x4 σ = some res → va_P D vwCl (WM ad cs σ) H → va_S (AM ad) s.heap H locs → lv_has ls 5 [(0, .ref (ad 0)), (3, .int x3), (4, .int x4)] → W p l e R s m args below meth c H locs 0 0 (MQ below (QI D (TYM cs) (WM ad cs) (AM ad) res.1 res.2) args s 0 0 (AM ad)) (F0 m 78 ls [])) (hf : f_X10_readsTown_129 ag78 σ x3 x4 s0 = some res) {H : Heap} {locs : List Loc} (hP : va_P D vwCl (WM ad cs σ) H) (hS : va_S (AM ad) s.heap H locs) {ls : Array Slot} (hl : lv_has ls 5 [(0, .ref (ad 0)), (3, .int x3), (4, .int x4)]) : W p l e R s m args below meth c H locs 0 0 (MQ below (QI D (TYM cs) (WM ad cs) (AM ad) res.1 res.2) args s 0 0 (AM ad)) (F0 m 129 ls [.int s0, .ref (ad 0)]) := by
  have hx := C.1.1
  have hb := C.1.2.1
  unfold f_X10_readsTown_129 at hf
  refine pX10_7 C hP hS k_671 dX10_readsTown_129 (fun H locs hP hS => ?_)
  refine lv_iinc (v := x4 + 1) (lv' := [(4, .int (x4 + 1)), (0, .ref (ad 0)), (3, .int x3)]) hx hb dX10_readsTown_132 hl (k := 2) rfl rfl (by decide) rfl (fun ls hl => ?_)
  refine lv_goto (tgt := 78) hx hb dX10_readsTown_135 (by decide) ?_
  exact hag78 _ _ _ _ _ _ hf hP hS (lv_sub hl [1, 2, 0] rfl)
set_option maxRecDepth 100000 in
set_option maxHeartbeats 4000000 in
theorem w_X10_readsTown_110 (C : CX p m c cX10_readsTown 5 s args RX10 D (TYM cs) (WM ad cs) (AM ad)) (hr : meth.sig.returnType = (some .boolean)) (hlk : meth.locks = false) (hR : 3 ≤ R.frames ∧ 78 ≤ R.locals) {σ : Sg} {x4 : Int32} {s0 : Int32} {res : Int32 × Sg} {ag78 : Int32 → Int32 → Sg → Option (Int32 × Sg)} (hag78 : ∀ (x3 : Int32) (x4 : Int32) (σ : Sg) (H : Heap) (locs : List Loc) (ls : Array Slot), ag78 x3 x4 σ = some res → va_P D vwCl (WM ad cs σ) H → va_S (AM ad) s.heap H locs → lv_has ls 5 [(0, .ref (ad 0)), (3, .int x3), (4, .int x4)] → W p l e R s m args below meth c H locs 0 0 (MQ below (QI D (TYM cs) (WM ad cs) (AM ad) res.1 res.2) args s 0 0 (AM ad)) (F0 m 78 ls [])) (hf : f_X10_readsTown_110 ag78 σ x4 s0 = some res) {H : Heap} {locs : List Loc} (hP : va_P D vwCl (WM ad cs σ) H) (hS : va_S (AM ad) s.heap H locs) {ls : Array Slot} (hl : lv_has ls 5 [(0, .ref (ad 0)), (4, .int x4)]) : W p l e R s m args below meth c H locs 0 0 (MQ below (QI D (TYM cs) (WM ad cs) (AM ad) res.1 res.2) args s 0 0 (AM ad)) (F0 m 110 ls [.int s0]) := by
  have hx := C.1.1
  have hb := C.1.2.1
  unfold f_X10_readsTown_110 at hf
  refine lv_istore_n (lv' := [(3, .int s0), (0, .ref (ad 0)), (4, .int x4)]) hx hb dX10_readsTown_110 rfl hl (by decide) rfl (fun ls hl => ?_)
  refine lv_aload_n hx hb dX10_readsTown_111 rfl (lv_at hl 1 rfl) ?_
  refine lv_iload_n hx hb dX10_readsTown_112 rfl (lv_at hl 0 rfl) ?_
  refine lv_if_eq (tgt := 123) hx hb dX10_readsTown_113 (by decide) (fun c1 => ?_) (fun c1 => ?_)
  · replace hf := zt c1 hf
    refine lv_iconst (v := 3) hx hb dX10_readsTown_123 (by decide) ?_
    refine lv_iconst (v := 5) hx hb dX10_readsTown_124 (by decide) ?_
    refine lv_iload hx hb dX10_readsTown_125 (lv_at hl 2 rfl) ?_
    refine lv_imul hx hb dX10_readsTown_127 ?_
    refine lv_iadd hx hb dX10_readsTown_128 ?_
    exact w_X10_readsTown_129 C hr hlk hR hag78 hf hP hS (lv_sub hl [1, 0, 2] rfl)
  · replace hf := zf c1 hf
    refine lv_aload_n hx hb dX10_readsTown_116 rfl (lv_at hl 1 rfl) ?_
    refine gX10_7 C hP k_671 dX10_readsTown_117 ?_
    refine lv_goto (tgt := 129) hx hb dX10_readsTown_120 (by decide) ?_
    exact w_X10_readsTown_129 C hr hlk hR hag78 hf hP hS (lv_sub hl [1, 0, 2] rfl)
set_option maxRecDepth 100000 in
set_option maxHeartbeats 4000000 in
theorem w_X10_readsTown_78 (C : CX p m c cX10_readsTown 5 s args RX10 D (TYM cs) (WM ad cs) (AM ad)) (hr : meth.sig.returnType = (some .boolean)) (hlk : meth.locks = false) (hR : 3 ≤ R.frames ∧ 78 ≤ R.locals) {σ : Sg} {x3 : Int32} {x4 : Int32} {res : Int32 × Sg} {ag78 : Int32 → Int32 → Sg → Option (Int32 × Sg)} (hag78 : ∀ (x3 : Int32) (x4 : Int32) (σ : Sg) (H : Heap) (locs : List Loc) (ls : Array Slot), ag78 x3 x4 σ = some res → va_P D vwCl (WM ad cs σ) H → va_S (AM ad) s.heap H locs → lv_has ls 5 [(0, .ref (ad 0)), (3, .int x3), (4, .int x4)] → W p l e R s m args below meth c H locs 0 0 (MQ below (QI D (TYM cs) (WM ad cs) (AM ad) res.1 res.2) args s 0 0 (AM ad)) (F0 m 78 ls [])) (hf : f_X10_readsTown_78 ag78 σ x3 x4 = some res) {H : Heap} {locs : List Loc} (hP : va_P D vwCl (WM ad cs σ) H) (hS : va_S (AM ad) s.heap H locs) {ls : Array Slot} (hl : lv_has ls 5 [(0, .ref (ad 0)), (3, .int x3), (4, .int x4)]) : W p l e R s m args below meth c H locs 0 0 (MQ below (QI D (TYM cs) (WM ad cs) (AM ad) res.1 res.2) args s 0 0 (AM ad)) (F0 m 78 ls []) := by
  have hx := C.1.1
  have hb := C.1.2.1
  unfold f_X10_readsTown_78 at hf
  refine lv_iload hx hb dX10_readsTown_78 (lv_at hl 2 rfl) ?_
  refine lv_aload_n hx hb dX10_readsTown_80 rfl (lv_at hl 0 rfl) ?_
  refine gX10_8 C hP k_672 dX10_readsTown_81 ?_
  refine lv_icmp_ge (tgt := 138) hx hb dX10_readsTown_84 (by decide) (fun c1 => ?_) (fun c1 => ?_)
  · replace hf := zt c1 hf
    refine lv_iload_n hx hb dX10_readsTown_138 rfl (lv_at hl 1 rfl) ?_
    obtain ⟨h2, hf⟩ := zc hf
    exact q_zret C hr hlk hP hS (Option.some.inj hf) h2 dX10_readsTown_139
  · replace hf := zf c1 hf
    refine lv_iload_n hx hb dX10_readsTown_87 rfl (lv_at hl 1 rfl) ?_
    refine lv_if_eq (tgt := 138) hx hb dX10_readsTown_88 (by decide) (fun c3 => ?_) (fun c3 => ?_)
    · replace hf := zt c3 hf
      refine lv_iload_n hx hb dX10_readsTown_138 rfl (lv_at hl 1 rfl) ?_
      obtain ⟨h4, hf⟩ := zc hf
      exact q_zret C hr hlk hP hS (Option.some.inj hf) h4 dX10_readsTown_139
    · replace hf := zf c3 hf
      refine lv_aload_n hx hb dX10_readsTown_91 rfl (lv_at hl 0 rfl) ?_
      refine gX10_10 C hP k_674 dX10_readsTown_92 ?_
      refine lv_iload hx hb dX10_readsTown_95 (lv_at hl 2 rfl) ?_
      obtain ⟨h5, hf⟩ := zc hf
      refine aldM C hP (n := 8) rfl h5 dX10_readsTown_97 ?_
      refine lv_aload_n hx hb dX10_readsTown_98 rfl (lv_at hl 0 rfl) ?_
      refine gX10_8 C hP k_672 dX10_readsTown_99 ?_
      refine lv_icmp_ge (tgt := 109) hx hb dX10_readsTown_102 (by decide) (fun c6 => ?_) (fun c6 => ?_)
      · replace hf := zt c6 hf
        refine lv_iconst (v := 0) hx hb dX10_readsTown_109 (by decide) ?_
        exact w_X10_readsTown_110 C hr hlk hR hag78 hf hP hS (lv_sub hl [0, 2] rfl)
      · replace hf := zf c6 hf
        refine lv_iconst (v := 1) hx hb dX10_readsTown_105 (by decide) ?_
        refine lv_goto (tgt := 110) hx hb dX10_readsTown_106 (by decide) ?_
        exact w_X10_readsTown_110 C hr hlk hR hag78 hf hP hS (lv_sub hl [0, 2] rfl)
set_option maxRecDepth 100000 in
set_option maxHeartbeats 4000000 in
theorem wl_X10_readsTown_78 (C : CX p m c cX10_readsTown 5 s args RX10 D (TYM cs) (WM ad cs) (AM ad)) (hr : meth.sig.returnType = (some .boolean)) (hlk : meth.locks = false) (hR : 3 ≤ R.frames ∧ 78 ≤ R.locals)  {res : Int32 × Sg} : ∀ n : Nat, ∀ (x3 : Int32) (x4 : Int32) (σ : Sg) (H : Heap) (locs : List Loc) (ls : Array Slot), l_X10_readsTown_78 n x3 x4 σ = some res → va_P D vwCl (WM ad cs σ) H → va_S (AM ad) s.heap H locs → lv_has ls 5 [(0, .ref (ad 0)), (3, .int x3), (4, .int x4)] → W p l e R s m args below meth c H locs 0 0 (MQ below (QI D (TYM cs) (WM ad cs) (AM ad) res.1 res.2) args s 0 0 (AM ad)) (F0 m 78 ls []) := by
  intro n
  induction n with
  | zero => intro x3 x4 σ H locs ls hf; cases hf
  | succ n ih =>
    intro x3 x4 σ H locs ls hf hP hS hl
    exact w_X10_readsTown_78 C hr hlk hR (ag78 := l_X10_readsTown_78 n) ih hf hP hS hl
set_option maxRecDepth 100000 in
set_option maxHeartbeats 4000000 in
theorem w_X10_readsTown_45 (C : CX p m c cX10_readsTown 5 s args RX10 D (TYM cs) (WM ad cs) (AM ad)) (hr : meth.sig.returnType = (some .boolean)) (hlk : meth.locks = false) (hR : 3 ≤ R.frames ∧ 78 ≤ R.locals) {σ : Sg} {x1 : Int32} {x2 : Int32} {x3 : Int32} {res : Int32 × Sg} {ag45 : Int32 → Sg → Option (Int32 × Sg)} (hag45 : ∀ (x3 : Int32) (σ : Sg) (H : Heap) (locs : List Loc) (ls : Array Slot), ag45 x3 σ = some res → va_P D vwCl (WM ad cs σ) H → va_S (AM ad) s.heap H locs → lv_has ls 5 [(0, .ref (ad 0)), (1, .int x1), (2, .int x2), (3, .int x3)] → W p l e R s m args below meth c H locs 0 0 (MQ below (QI D (TYM cs) (WM ad cs) (AM ad) res.1 res.2) args s 0 0 (AM ad)) (F0 m 45 ls [])) (hf : f_X10_readsTown_45 ag45 σ x1 x2 x3 = some res) {H : Heap} {locs : List Loc} (hP : va_P D vwCl (WM ad cs σ) H) (hS : va_S (AM ad) s.heap H locs) {ls : Array Slot} (hl : lv_has ls 5 [(0, .ref (ad 0)), (1, .int x1), (2, .int x2), (3, .int x3)]) : W p l e R s m args below meth c H locs 0 0 (MQ below (QI D (TYM cs) (WM ad cs) (AM ad) res.1 res.2) args s 0 0 (AM ad)) (F0 m 45 ls []) := by
  have hx := C.1.1
  have hb := C.1.2.1
  unfold f_X10_readsTown_45 at hf
  refine lv_iload_n hx hb dX10_readsTown_45 rfl (lv_at hl 3 rfl) ?_
  refine lv_if_eq (tgt := 75) hx hb dX10_readsTown_46 (by decide) (fun c1 => ?_) (fun c1 => ?_)
  · replace hf := zt c1 hf
    refine lv_iconst (v := 0) hx hb dX10_readsTown_75 (by decide) ?_
    refine lv_istore (lv' := [(4, .int 0), (0, .ref (ad 0)), (1, .int x1), (2, .int x2), (3, .int x3)]) hx hb dX10_readsTown_76 hl (by decide) rfl (fun ls hl => ?_)
    exact wl_X10_readsTown_78 C hr hlk hR fu _ _ _ _ _ _ hf hP hS (lv_sub hl [1, 4, 0] rfl)
  · replace hf := zf c1 hf
    refine lv_aload_n hx hb dX10_readsTown_49 rfl (lv_at hl 0 rfl) ?_
    refine gX10_8 C hP k_672 dX10_readsTown_50 ?_
    refine lv_iconst (v := 2) hx hb dX10_readsTown_53 (by decide) ?_
    refine lv_icmp_lt (tgt := 65) hx hb dX10_readsTown_54 (by decide) (fun c2 => ?_) (fun c2 => ?_)
    · replace hf := zt c2 hf
      exact w_X10_readsTown_65 C hr hlk hR hag45 hf hP hS (lv_sub hl [0, 1, 2] rfl)
    · replace hf := zf c2 hf
      refine lv_aload_n hx hb dX10_readsTown_57 rfl (lv_at hl 0 rfl) ?_
      refine gX10_7 C hP k_671 dX10_readsTown_58 ?_
      refine lv_iload_n hx hb dX10_readsTown_61 rfl (lv_at hl 2 rfl) ?_
      refine lv_icmp_ge (tgt := 75) hx hb dX10_readsTown_62 (by decide) (fun c3 => ?_) (fun c3 => ?_)
      · replace hf := zt c3 hf
        refine lv_iconst (v := 0) hx hb dX10_readsTown_75 (by decide) ?_
        refine lv_istore (lv' := [(4, .int 0), (0, .ref (ad 0)), (1, .int x1), (2, .int x2), (3, .int x3)]) hx hb dX10_readsTown_76 hl (by decide) rfl (fun ls hl => ?_)
        exact wl_X10_readsTown_78 C hr hlk hR fu _ _ _ _ _ _ hf hP hS (lv_sub hl [1, 4, 0] rfl)
      · replace hf := zf c3 hf
        exact w_X10_readsTown_65 C hr hlk hR hag45 hf hP hS (lv_sub hl [0, 1, 2] rfl)
set_option maxRecDepth 100000 in
set_option maxHeartbeats 4000000 in
theorem wl_X10_readsTown_45 (C : CX p m c cX10_readsTown 5 s args RX10 D (TYM cs) (WM ad cs) (AM ad)) (hr : meth.sig.returnType = (some .boolean)) (hlk : meth.locks = false) (hR : 3 ≤ R.frames ∧ 78 ≤ R.locals) {x1 : Int32} {x2 : Int32} {res : Int32 × Sg} : ∀ n : Nat, ∀ (x3 : Int32) (σ : Sg) (H : Heap) (locs : List Loc) (ls : Array Slot), l_X10_readsTown_45 x1 x2 n x3 σ = some res → va_P D vwCl (WM ad cs σ) H → va_S (AM ad) s.heap H locs → lv_has ls 5 [(0, .ref (ad 0)), (1, .int x1), (2, .int x2), (3, .int x3)] → W p l e R s m args below meth c H locs 0 0 (MQ below (QI D (TYM cs) (WM ad cs) (AM ad) res.1 res.2) args s 0 0 (AM ad)) (F0 m 45 ls []) := by
  intro n
  induction n with
  | zero => intro x3 σ H locs ls hf; cases hf
  | succ n ih =>
    intro x3 σ H locs ls hf hP hS hl
    exact w_X10_readsTown_45 C hr hlk hR (ag45 := l_X10_readsTown_45 x1 x2 n) ih hf hP hS hl
set_option maxRecDepth 100000 in
set_option maxHeartbeats 4000000 in
theorem w_X10_readsTown_41 (C : CX p m c cX10_readsTown 5 s args RX10 D (TYM cs) (WM ad cs) (AM ad)) (hr : meth.sig.returnType = (some .boolean)) (hlk : meth.locks = false) (hR : 3 ≤ R.frames ∧ 78 ≤ R.locals) {σ : Sg} {x1 : Int32} {x2 : Int32} {x3 : Int32} {s0 : Int32} {s1 : Int32} {res : Int32 × Sg} (hf : f_X10_readsTown_41 σ x1 x2 x3 s0 s1 = some res) {H : Heap} {locs : List Loc} (hP : va_P D vwCl (WM ad cs σ) H) (hS : va_S (AM ad) s.heap H locs) {ls : Array Slot} (hl : lv_has ls 5 [(0, .ref (ad 0)), (1, .int x1), (2, .int x2), (3, .int x3)]) : W p l e R s m args below meth c H locs 0 0 (MQ below (QI D (TYM cs) (WM ad cs) (AM ad) res.1 res.2) args s 0 0 (AM ad)) (F0 m 41 ls [.int s0, .int s1, .ref (ad 0)]) := by
  have hx := C.1.1
  have hb := C.1.2.1
  unfold f_X10_readsTown_41 at hf
  refine lv_iadd hx hb dX10_readsTown_41 ?_
  refine pX10_7 C hP hS k_671 dX10_readsTown_42 (fun H locs hP hS => ?_)
  exact wl_X10_readsTown_45 C hr hlk hR fu _ _ _ _ _ hf hP hS (lv_sub hl [0, 1, 2, 3] rfl)
set_option maxRecDepth 100000 in
set_option maxHeartbeats 4000000 in
theorem w_X10_readsTown_26 (C : CX p m c cX10_readsTown 5 s args RX10 D (TYM cs) (WM ad cs) (AM ad)) (hr : meth.sig.returnType = (some .boolean)) (hlk : meth.locks = false) (hR : 3 ≤ R.frames ∧ 78 ≤ R.locals) {σ : Sg} {x1 : Int32} {x2 : Int32} {s0 : Int32} {res : Int32 × Sg} (hf : f_X10_readsTown_26 σ x1 x2 s0 = some res) {H : Heap} {locs : List Loc} (hP : va_P D vwCl (WM ad cs σ) H) (hS : va_S (AM ad) s.heap H locs) {ls : Array Slot} (hl : lv_has ls 5 [(0, .ref (ad 0)), (1, .int x1), (2, .int x2)]) : W p l e R s m args below meth c H locs 0 0 (MQ below (QI D (TYM cs) (WM ad cs) (AM ad) res.1 res.2) args s 0 0 (AM ad)) (F0 m 26 ls [.int s0]) := by
  have hx := C.1.1
  have hb := C.1.2.1
  unfold f_X10_readsTown_26 at hf
  refine lv_istore_n (lv' := [(3, .int s0), (0, .ref (ad 0)), (1, .int x1), (2, .int x2)]) hx hb dX10_readsTown_26 rfl hl (by decide) rfl (fun ls hl => ?_)
  refine lv_aload_n hx hb dX10_readsTown_27 rfl (lv_at hl 1 rfl) ?_
  refine lv_dup hx hb dX10_readsTown_28 rfl ?_
  refine gX10_7 C hP k_671 dX10_readsTown_29 ?_
  refine lv_iload_n hx hb dX10_readsTown_32 rfl (lv_at hl 0 rfl) ?_
  refine lv_if_eq (tgt := 40) hx hb dX10_readsTown_33 (by decide) (fun c1 => ?_) (fun c1 => ?_)
  · replace hf := zt c1 hf
    refine lv_iconst (v := 0) hx hb dX10_readsTown_40 (by decide) ?_
    exact w_X10_readsTown_41 C hr hlk hR hf hP hS (lv_sub hl [1, 2, 3, 0] rfl)
  · replace hf := zf c1 hf
    refine lv_iconst (v := 1) hx hb dX10_readsTown_36 (by decide) ?_
    refine lv_goto (tgt := 41) hx hb dX10_readsTown_37 (by decide) ?_
    exact w_X10_readsTown_41 C hr hlk hR hf hP hS (lv_sub hl [1, 2, 3, 0] rfl)
set_option maxRecDepth 100000 in
set_option maxHeartbeats 4000000 in
theorem w_X10_readsTown (C : CX p m c cX10_readsTown 5 s args RX10 D (TYM cs) (WM ad cs) (AM ad)) (hr : meth.sig.returnType = (some .boolean)) (hlk : meth.locks = false) (hR : 3 ≤ R.frames ∧ 78 ≤ R.locals) {σ : Sg} {x1 : Int32} {x2 : Int32} {res : Int32 × Sg} (hf : f_X10_readsTown σ x1 x2 = some res) {H : Heap} {locs : List Loc} (hP : va_P D vwCl (WM ad cs σ) H) (hS : va_S (AM ad) s.heap H locs) {ls : Array Slot} (hl : lv_has ls 5 [(0, .ref (ad 0)), (1, .int x1), (2, .int x2)]) : W p l e R s m args below meth c H locs 0 0 (MQ below (QI D (TYM cs) (WM ad cs) (AM ad) res.1 res.2) args s 0 0 (AM ad)) (F0 m 0 ls []) := by
  have hx := C.1.1
  have hb := C.1.2.1
  unfold f_X10_readsTown at hf
  refine lv_aload_n hx hb dX10_readsTown_0 rfl (lv_at hl 0 rfl) ?_
  refine lv_iconst (v := 0) hx hb dX10_readsTown_1 (by decide) ?_
  refine pX10_7 C hP hS k_671 dX10_readsTown_2 (fun H locs hP hS => ?_)
  refine lv_aload_n hx hb dX10_readsTown_5 rfl (lv_at hl 0 rfl) ?_
  refine lv_iconst (v := 0) hx hb dX10_readsTown_6 (by decide) ?_
  refine pX10_8 C hP hS k_672 dX10_readsTown_7 (fun H locs hP hS => ?_)
  refine lv_aload_n hx hb dX10_readsTown_10 rfl (lv_at hl 0 rfl) ?_
  refine lv_iload_n hx hb dX10_readsTown_11 rfl (lv_at hl 1 rfl) ?_
  refine lv_iload_n hx hb dX10_readsTown_12 rfl (lv_at hl 2 rfl) ?_
  obtain ⟨r2, hg1, hf⟩ := zb hf
  try dsimp only at hf
  refine q_calli C hS (q_runV C hP (c_X10_codeAt (l := l) C.2.2.1 hg1) (ci := 9) (As := [.int x1, .int x2]) (rest := []) ⟨gd_V k_783 k_785 k_20 k_53 k_786, ⟨rfl, rfl⟩, kd_X10_codeAt, ⟨Nat.le_trans (Nat.le_of_ble_eq_true rfl) hR.1, Nat.le_trans (Nat.le_of_ble_eq_true rfl) hR.2⟩⟩ (o := 0) rfl rfl rfl rfl rfl (Nat.le_of_ble_eq_true rfl) hl.1 dX10_readsTown_13) (fun H locs hP hS => ?_)
  refine lv_bipush (v := 101) hx hb dX10_readsTown_16 (by decide) ?_
  refine lv_icmp_ne (tgt := 25) hx hb dX10_readsTown_18 (by decide) (fun c3 => ?_) (fun c3 => ?_)
  · replace hf := zf c3 hf
    refine lv_iconst (v := 0) hx hb dX10_readsTown_25 (by decide) ?_
    exact w_X10_readsTown_26 C hr hlk hR hf hP hS (lv_sub hl [0, 1, 2] rfl)
  · replace hf := zt c3 hf
    refine lv_iconst (v := 1) hx hb dX10_readsTown_21 (by decide) ?_
    refine lv_goto (tgt := 26) hx hb dX10_readsTown_22 (by decide) ?_
    exact w_X10_readsTown_26 C hr hlk hR hf hP hS (lv_sub hl [0, 1, 2] rfl)
theorem kd_X10_readsTown : yX10_readsTown.cls = RX10 ∧ yX10_readsTown.cls ≠ "java/lang/invoke/MethodHandle" ∧ yX10_readsTown.cls ≠ "java/lang/invoke/VarHandle" ∧ (parseMethodDescriptor yX10_readsTown.desc).map (fun d => d.parameters.length) = some 2 := by decide +kernel
def r_X10_readsTown : Room := { frames := 3, cells := 0, slots := 0, locals := 78 }
set_option maxRecDepth 100000 in
set_option maxHeartbeats 4000000 in
theorem c_X10_readsTown {l : Launch} {D : va_G} {ad : Nat → Nat} {cs : Nat → ClassId} (hD : ∀ σ, va_D (AM ad) (WM ad cs σ)) {σ : Sg} {x1 : Int32} {x2 : Int32} {res : Int32 × Sg} (hf : f_X10_readsTown σ x1 x2 = some res) : Met l yX10_readsTown (wm yX10_readsTown cX10_readsTown 5 (some .boolean)) r_X10_readsTown (va_Pc [.ref (ad 0), .int x1, .int x2] (BW D (TYM cs) (WM ad cs) σ)) (QI D (TYM cs) (WM ad cs) (AM ad) res.1 res.2) 0 0 (AM ad) := by
  refine q_enter (by decide) hD (Nat.le_of_ble_eq_true rfl) ?_
  intro p e s m below meth c C hr hlk hP hS ls hl
  exact w_X10_readsTown C hr hlk ⟨Nat.le_of_ble_eq_true rfl, Nat.le_of_ble_eq_true rfl⟩ hf hP hS hl

set_option maxRecDepth 100000 in
set_option maxHeartbeats 4000000 in
theorem w_X10_isBeyond (C : CX p m c cX10_isBeyond 4 s args RX10 D (TYM cs) (WM ad cs) (AM ad)) (hr : meth.sig.returnType = (some .boolean)) (hlk : meth.locks = false) (hR : 0 ≤ R.frames ∧ 0 ≤ R.locals) {σ : Sg} {x0 : Int32} {x1 : Int64} {x3 : Int32} {res : Int32} (hf : f_X10_isBeyond σ x0 x1 x3 = some res) {H : Heap} {locs : List Loc} (hP : va_P D vwCl (WM ad cs σ) H) (hS : va_S (AM ad) s.heap H locs) {ls : Array Slot} (hl : lv_has ls 4 [(0, .int x0), (1, .long x1), (3, .int x3)]) : W p l e R s m args below meth c H locs 0 0 (MQ below (QI D (TYM cs) (WM ad cs) (AM ad) res σ) args s 0 0 (AM ad)) (F0 m 0 ls []) := by
  have hx := C.1.1
  have hb := C.1.2.1
  unfold f_X10_isBeyond at hf
  refine lv_iload_n hx hb dX10_isBeyond_0 rfl (lv_at hl 0 rfl) ?_
  refine lv_if_lt (tgt := 20) hx hb dX10_isBeyond_1 (by decide) (fun c1 => ?_) (fun c1 => ?_)
  · replace hf := zt c1 hf
    refine lv_iconst (v := 1) hx hb dX10_isBeyond_20 (by decide) ?_
    refine lv_goto (tgt := 25) hx hb dX10_isBeyond_21 (by decide) ?_
    exact q_zret C hr hlk hP hS (congrArg (fun q => (q, σ)) (Option.some.inj hf)) (by decide) dX10_isBeyond_25
  · replace hf := zf c1 hf
    refine lv_lload_n hx hb dX10_isBeyond_4 rfl (lv_at hl 1 rfl) ?_
    refine lv_lconst (v := 0) hx hb dX10_isBeyond_5 (by decide) ?_
    refine W.lcmp hx hb dX10_isBeyond_6 ?_
    refine lv_if_lt (tgt := 20) hx hb dX10_isBeyond_7 (by decide) (fun c2 => ?_) (fun c2 => ?_)
    · replace hf := zt c2 hf
      refine lv_iconst (v := 1) hx hb dX10_isBeyond_20 (by decide) ?_
      refine lv_goto (tgt := 25) hx hb dX10_isBeyond_21 (by decide) ?_
      exact q_zret C hr hlk hP hS (congrArg (fun q => (q, σ)) (Option.some.inj hf)) (by decide) dX10_isBeyond_25
    · replace hf := zf c2 hf
      refine lv_iload_n hx hb dX10_isBeyond_10 rfl (lv_at hl 0 rfl) ?_
      refine lv_i2l hx hb dX10_isBeyond_11 rfl ?_
      refine lv_lload_n hx hb dX10_isBeyond_12 rfl (lv_at hl 1 rfl) ?_
      refine lv_ladd hx hb dX10_isBeyond_13 ?_
      refine lv_iload_n hx hb dX10_isBeyond_14 rfl (lv_at hl 2 rfl) ?_
      refine lv_i2l hx hb dX10_isBeyond_15 rfl ?_
      refine W.lcmp hx hb dX10_isBeyond_16 ?_
      refine lv_if_le (tgt := 24) hx hb dX10_isBeyond_17 (by decide) (fun c3 => ?_) (fun c3 => ?_)
      · replace hf := zt c3 hf
        refine lv_iconst (v := 0) hx hb dX10_isBeyond_24 (by decide) ?_
        exact q_zret C hr hlk hP hS (congrArg (fun q => (q, σ)) (Option.some.inj hf)) (by decide) dX10_isBeyond_25
      · replace hf := zf c3 hf
        refine lv_iconst (v := 1) hx hb dX10_isBeyond_20 (by decide) ?_
        refine lv_goto (tgt := 25) hx hb dX10_isBeyond_21 (by decide) ?_
        exact q_zret C hr hlk hP hS (congrArg (fun q => (q, σ)) (Option.some.inj hf)) (by decide) dX10_isBeyond_25
theorem kd_X10_isBeyond : yX10_isBeyond.cls ≠ "java/lang/invoke/MethodHandle" ∧ yX10_isBeyond.cls ≠ "java/lang/invoke/VarHandle" ∧ (parseMethodDescriptor yX10_isBeyond.desc).map (fun d => d.parameters.length) = some 3 := by decide +kernel
def r_X10_isBeyond : Room := { frames := 0, cells := 0, slots := 0, locals := 0 }
set_option maxRecDepth 100000 in
set_option maxHeartbeats 4000000 in
theorem c_X10_isBeyond {l : Launch} {D : va_G} {ad : Nat → Nat} {cs : Nat → ClassId} (hD : ∀ σ, va_D (AM ad) (WM ad cs σ)) {σ : Sg} {x0 : Int32} {x1 : Int64} {x3 : Int32} {res : Int32} (hf : f_X10_isBeyond σ x0 x1 x3 = some res) : Met l yX10_isBeyond (wm yX10_isBeyond cX10_isBeyond 4 (some .boolean)) r_X10_isBeyond (va_Pc [.int x0, .long x1, .int x3] (BW D (TYM cs) (WM ad cs) σ)) (QI D (TYM cs) (WM ad cs) (AM ad) res σ) 0 0 (AM ad) := by
  refine q_enter (by decide) hD (Nat.le_of_ble_eq_true rfl) ?_
  intro p e s m below meth c C hr hlk hP hS ls hl
  exact w_X10_isBeyond C hr hlk ⟨Nat.le_of_ble_eq_true rfl, Nat.le_of_ble_eq_true rfl⟩ hf hP hS hl

set_option maxRecDepth 100000 in
set_option maxHeartbeats 4000000 in
theorem w_X10_cellsBarred_25 (C : CX p m c cX10_cellsBarred 6 s args RX10 D (TYM cs) (WM ad cs) (AM ad)) (hr : meth.sig.returnType = (some .int)) (hlk : meth.locks = false) (hR : 1 ≤ R.frames ∧ 23 ≤ R.locals) {σ : Sg} {x1 : Int32} {x3 : Int32} {x4 : Int64} {res : Int32 × Sg} (hf : f_X10_cellsBarred_25 σ x1 x3 x4 = some res) {H : Heap} {locs : List Loc} (hP : va_P D vwCl (WM ad cs σ) H) (hS : va_S (AM ad) s.heap H locs) {ls : Array Slot} (hl : lv_has ls 6 [(0, .ref (ad 0)), (1, .int x1), (3, .int x3), (4, .long x4)]) : W p l e R s m args below meth c H locs 0 0 (MQ below (QI D (TYM cs) (WM ad cs) (AM ad) res.1 res.2) args s 0 0 (AM ad)) (F0 m 25 ls []) := by
  have hx := C.1.1
  have hb := C.1.2.1
  unfold f_X10_cellsBarred_25 at hf
  refine lv_aload_n hx hb dX10_cellsBarred_25 rfl (lv_at hl 0 rfl) ?_
  refine gX10_24 C hP k_688 dX10_cellsBarred_26 ?_
  refine lv_iload_n hx hb dX10_cellsBarred_29 rfl (lv_at hl 1 rfl) ?_
  obtain ⟨h1, hf⟩ := zc hf
  refine aldM C hP (n := 4) rfl h1 dX10_cellsBarred_30 ?_
  refine lv_if_ge (tgt := 40) hx hb dX10_cellsBarred_31 (by decide) (fun c2 => ?_) (fun c2 => ?_)
  · replace hf := zt c2 hf
    refine lv_lload hx hb dX10_cellsBarred_40 (lv_at hl 3 rfl) ?_
    refine lv_lconst (v := 0) hx hb dX10_cellsBarred_42 (by decide) ?_
    refine W.lcmp hx hb dX10_cellsBarred_43 ?_
    refine lv_if_ge (tgt := 53) hx hb dX10_cellsBarred_44 (by decide) (fun c3 => ?_) (fun c3 => ?_)
    · replace hf := zt c3 hf
      refine lv_iload_n hx hb dX10_cellsBarred_53 rfl (lv_at hl 2 rfl) ?_
      refine lv_lload hx hb dX10_cellsBarred_54 (lv_at hl 3 rfl) ?_
      refine lv_aload_n hx hb dX10_cellsBarred_56 rfl (lv_at hl 0 rfl) ?_
      refine gX10_24 C hP k_688 dX10_cellsBarred_57 ?_
      refine lv_iload_n hx hb dX10_cellsBarred_60 rfl (lv_at hl 1 rfl) ?_
      refine aldM C hP (n := 4) rfl h1 dX10_cellsBarred_61 ?_
      obtain ⟨r5, hg4, hf⟩ := zb hf
      try dsimp only at hf
      refine q_calli C hS (q_runS C hP (c_X10_isBeyond (l := l) C.2.2.1 hg4) (As := [.int x3, .long x4, .int (σ 17 x1.toNatClampNeg)]) (rest := []) ⟨gd_S k_776 k_777 k_53 k_778, ⟨rfl, rfl⟩, kd_X10_isBeyond, ⟨Nat.le_trans (Nat.le_of_ble_eq_true rfl) hR.1, Nat.le_trans (Nat.le_of_ble_eq_true rfl) hR.2⟩⟩ rfl rfl (Nat.le_of_ble_eq_true rfl) hl.1 dX10_cellsBarred_62) (fun H locs hP hS => ?_)
      refine lv_if_eq (tgt := 76) hx hb dX10_cellsBarred_65 (by decide) (fun c6 => ?_) (fun c6 => ?_)
      · replace hf := zt c6 hf
        refine lv_iconst (v := 0) hx hb dX10_cellsBarred_76 (by decide) ?_
        exact q_iret C hr hlk hP hS (Option.some.inj hf) dX10_cellsBarred_77
      · replace hf := zf c6 hf
        refine lv_aload_n hx hb dX10_cellsBarred_68 rfl (lv_at hl 0 rfl) ?_
        refine lv_iconst (v := 3) hx hb dX10_cellsBarred_69 (by decide) ?_
        obtain ⟨⟨r8, σ9⟩, hg7, hf⟩ := zb hf
        try dsimp only at hf
        refine q_calli C hS (q_runV C hP (c_X10_faulted (l := l) C.2.2.1 hg7) (ci := 9) (As := [.int 3]) (rest := []) ⟨gd_V k_772 k_774 k_18 k_53 k_775, ⟨rfl, rfl⟩, kd_X10_faulted, ⟨Nat.le_trans (Nat.le_of_ble_eq_true rfl) hR.1, Nat.le_trans (Nat.le_of_ble_eq_true rfl) hR.2⟩⟩ (o := 0) rfl rfl rfl rfl rfl (Nat.le_of_ble_eq_true rfl) hl.1 dX10_cellsBarred_70) (fun H locs hP hS => ?_)
        refine lv_goto (tgt := 77) hx hb dX10_cellsBarred_73 (by decide) ?_
        exact q_iret C hr hlk hP hS (Option.some.inj hf) dX10_cellsBarred_77
    · replace hf := zf c3 hf
      refine lv_aload_n hx hb dX10_cellsBarred_47 rfl (lv_at hl 0 rfl) ?_
      refine lv_iconst (v := 4) hx hb dX10_cellsBarred_48 (by decide) ?_
      obtain ⟨⟨r11, σ12⟩, hg10, hf⟩ := zb hf
      try dsimp only at hf
      refine q_calli C hS (q_runV C hP (c_X10_faulted (l := l) C.2.2.1 hg10) (ci := 9) (As := [.int 4]) (rest := []) ⟨gd_V k_772 k_774 k_18 k_53 k_775, ⟨rfl, rfl⟩, kd_X10_faulted, ⟨Nat.le_trans (Nat.le_of_ble_eq_true rfl) hR.1, Nat.le_trans (Nat.le_of_ble_eq_true rfl) hR.2⟩⟩ (o := 0) rfl rfl rfl rfl rfl (Nat.le_of_ble_eq_true rfl) hl.1 dX10_cellsBarred_49) (fun H locs hP hS => ?_)
      exact q_iret C hr hlk hP hS (Option.some.inj hf) dX10_cellsBarred_52
  · replace hf := zf c2 hf
    refine lv_aload_n hx hb dX10_cellsBarred_34 rfl (lv_at hl 0 rfl) ?_
    refine lv_iconst (v := 1) hx hb dX10_cellsBarred_35 (by decide) ?_
    obtain ⟨⟨r14, σ15⟩, hg13, hf⟩ := zb hf
    try dsimp only at hf
    refine q_calli C hS (q_runV C hP (c_X10_faulted (l := l) C.2.2.1 hg13) (ci := 9) (As := [.int 1]) (rest := []) ⟨gd_V k_772 k_774 k_18 k_53 k_775, ⟨rfl, rfl⟩, kd_X10_faulted, ⟨Nat.le_trans (Nat.le_of_ble_eq_true rfl) hR.1, Nat.le_trans (Nat.le_of_ble_eq_true rfl) hR.2⟩⟩ (o := 0) rfl rfl rfl rfl rfl (Nat.le_of_ble_eq_true rfl) hl.1 dX10_cellsBarred_36) (fun H locs hP hS => ?_)
    exact q_iret C hr hlk hP hS (Option.some.inj hf) dX10_cellsBarred_39
set_option maxRecDepth 100000 in
set_option maxHeartbeats 4000000 in
theorem w_X10_cellsBarred (C : CX p m c cX10_cellsBarred 6 s args RX10 D (TYM cs) (WM ad cs) (AM ad)) (hr : meth.sig.returnType = (some .int)) (hlk : meth.locks = false) (hR : 1 ≤ R.frames ∧ 23 ≤ R.locals) {σ : Sg} {x1 : Int32} {x2 : Int32} {x3 : Int32} {x4 : Int64} {res : Int32 × Sg} (hf : f_X10_cellsBarred σ x1 x2 x3 x4 = some res) {H : Heap} {locs : List Loc} (hP : va_P D vwCl (WM ad cs σ) H) (hS : va_S (AM ad) s.heap H locs) {ls : Array Slot} (hl : lv_has ls 6 [(0, .ref (ad 0)), (1, .int x1), (2, .int x2), (3, .int x3), (4, .long x4)]) : W p l e R s m args below meth c H locs 0 0 (MQ below (QI D (TYM cs) (WM ad cs) (AM ad) res.1 res.2) args s 0 0 (AM ad)) (F0 m 0 ls []) := by
  have hx := C.1.1
  have hb := C.1.2.1
  unfold f_X10_cellsBarred at hf
  refine lv_aload_n hx hb dX10_cellsBarred_0 rfl (lv_at hl 0 rfl) ?_
  refine gX10_24 C hP k_688 dX10_cellsBarred_1 ?_
  refine lv_iload_n hx hb dX10_cellsBarred_4 rfl (lv_at hl 1 rfl) ?_
  obtain ⟨h1, hf⟩ := zc hf
  refine aldM C hP (n := 4) rfl h1 dX10_cellsBarred_5 ?_
  refine lv_if_lt (tgt := 25) hx hb dX10_cellsBarred_6 (by decide) (fun c2 => ?_) (fun c2 => ?_)
  · replace hf := zt c2 hf
    exact w_X10_cellsBarred_25 C hr hlk hR hf hP hS (lv_sub hl [0, 1, 3, 4] rfl)
  · replace hf := zf c2 hf
    refine lv_aload_n hx hb dX10_cellsBarred_9 rfl (lv_at hl 0 rfl) ?_
    refine gX10_25 C hP k_689 dX10_cellsBarred_10 ?_
    refine lv_iload_n hx hb dX10_cellsBarred_13 rfl (lv_at hl 1 rfl) ?_
    refine aldM C hP (n := 4) rfl h1 dX10_cellsBarred_14 ?_
    refine lv_iload_n hx hb dX10_cellsBarred_15 rfl (lv_at hl 2 rfl) ?_
    refine lv_icmp_eq (tgt := 25) hx hb dX10_cellsBarred_16 (by decide) (fun c3 => ?_) (fun c3 => ?_)
    · replace hf := zt c3 hf
      exact w_X10_cellsBarred_25 C hr hlk hR hf hP hS (lv_sub hl [0, 1, 3, 4] rfl)
    · replace hf := zf c3 hf
      refine lv_aload_n hx hb dX10_cellsBarred_19 rfl (lv_at hl 0 rfl) ?_
      refine lv_iconst (v := 2) hx hb dX10_cellsBarred_20 (by decide) ?_
      obtain ⟨⟨r5, σ6⟩, hg4, hf⟩ := zb hf
      try dsimp only at hf
      refine q_calli C hS (q_runV C hP (c_X10_faulted (l := l) C.2.2.1 hg4) (ci := 9) (As := [.int 2]) (rest := []) ⟨gd_V k_772 k_774 k_18 k_53 k_775, ⟨rfl, rfl⟩, kd_X10_faulted, ⟨Nat.le_trans (Nat.le_of_ble_eq_true rfl) hR.1, Nat.le_trans (Nat.le_of_ble_eq_true rfl) hR.2⟩⟩ (o := 0) rfl rfl rfl rfl rfl (Nat.le_of_ble_eq_true rfl) hl.1 dX10_cellsBarred_21) (fun H locs hP hS => ?_)
      exact q_iret C hr hlk hP hS (Option.some.inj hf) dX10_cellsBarred_24
theorem kd_X10_cellsBarred : yX10_cellsBarred.cls = RX10 ∧ yX10_cellsBarred.cls ≠ "java/lang/invoke/MethodHandle" ∧ yX10_cellsBarred.cls ≠ "java/lang/invoke/VarHandle" ∧ (parseMethodDescriptor yX10_cellsBarred.desc).map (fun d => d.parameters.length) = some 4 := by decide +kernel
def r_X10_cellsBarred : Room := { frames := 1, cells := 0, slots := 0, locals := 23 }
set_option maxRecDepth 100000 in
set_option maxHeartbeats 4000000 in
theorem c_X10_cellsBarred {l : Launch} {D : va_G} {ad : Nat → Nat} {cs : Nat → ClassId} (hD : ∀ σ, va_D (AM ad) (WM ad cs σ)) {σ : Sg} {x1 : Int32} {x2 : Int32} {x3 : Int32} {x4 : Int64} {res : Int32 × Sg} (hf : f_X10_cellsBarred σ x1 x2 x3 x4 = some res) : Met l yX10_cellsBarred (wm yX10_cellsBarred cX10_cellsBarred 6 (some .int)) r_X10_cellsBarred (va_Pc [.ref (ad 0), .int x1, .int x2, .int x3, .long x4] (BW D (TYM cs) (WM ad cs) σ)) (QI D (TYM cs) (WM ad cs) (AM ad) res.1 res.2) 0 0 (AM ad) := by
  refine q_enter (by decide) hD (Nat.le_of_ble_eq_true rfl) ?_
  intro p e s m below meth c C hr hlk hP hS ls hl
  exact w_X10_cellsBarred C hr hlk ⟨Nat.le_of_ble_eq_true rfl, Nat.le_of_ble_eq_true rfl⟩ hf hP hS hl

set_option maxRecDepth 100000 in
set_option maxHeartbeats 4000000 in
theorem w_X10_noSheet (C : CX p m c cX10_noSheet 1 s args RX10 D (TYM cs) (WM ad cs) (AM ad)) (hr : meth.sig.returnType = (some .boolean)) (hlk : meth.locks = false) (hR : 1 ≤ R.frames ∧ 25 ≤ R.locals) {σ : Sg} {x0 : Int32} {res : Int32} (hf : f_X10_noSheet σ x0 = some res) {H : Heap} {locs : List Loc} (hP : va_P D vwCl (WM ad cs σ) H) (hS : va_S (AM ad) s.heap H locs) {ls : Array Slot} (hl : lv_has ls 1 [(0, .int x0)]) : W p l e R s m args below meth c H locs 0 0 (MQ below (QI D (TYM cs) (WM ad cs) (AM ad) res σ) args s 0 0 (AM ad)) (F0 m 0 ls []) := by
  have hx := C.1.1
  have hb := C.1.2.1
  unfold f_X10_noSheet at hf
  refine lv_iload_n hx hb dX10_noSheet_0 rfl (lv_at hl 0 rfl) ?_
  refine lv_i2l hx hb dX10_noSheet_1 rfl ?_
  refine lv_lconst (v := 0) hx hb dX10_noSheet_2 (by decide) ?_
  refine lv_ldc2 (v := 3) hx hb C.1.2.2.2.1 (C.1.2.2.2.2 _ k_759) dX10_noSheet_3 ?_
  obtain ⟨r2, hg1, hf⟩ := zb hf
  try dsimp only at hf
  refine q_calli C hS (q_runS C hP (c_X10_in (l := l) C.2.2.1 hg1) (As := [.long x0.toInt64, .long 0, .long 3]) (rest := []) ⟨gd_S k_760 k_761 k_53 k_762, ⟨rfl, rfl⟩, kd_X10_in, ⟨Nat.le_trans (Nat.le_of_ble_eq_true rfl) hR.1, Nat.le_trans (Nat.le_of_ble_eq_true rfl) hR.2⟩⟩ rfl rfl (Nat.le_of_ble_eq_true rfl) hl.1 dX10_noSheet_6) (fun H locs hP hS => ?_)
  refine lv_if_ne (tgt := 16) hx hb dX10_noSheet_9 (by decide) (fun c3 => ?_) (fun c3 => ?_)
  · replace hf := zf c3 hf
    refine lv_iconst (v := 0) hx hb dX10_noSheet_16 (by decide) ?_
    exact q_zret C hr hlk hP hS (congrArg (fun q => (q, σ)) (Option.some.inj hf)) (by decide) dX10_noSheet_17
  · replace hf := zt c3 hf
    refine lv_iconst (v := 1) hx hb dX10_noSheet_12 (by decide) ?_
    refine lv_goto (tgt := 17) hx hb dX10_noSheet_13 (by decide) ?_
    exact q_zret C hr hlk hP hS (congrArg (fun q => (q, σ)) (Option.some.inj hf)) (by decide) dX10_noSheet_17
theorem kd_X10_noSheet : yX10_noSheet.cls ≠ "java/lang/invoke/MethodHandle" ∧ yX10_noSheet.cls ≠ "java/lang/invoke/VarHandle" ∧ (parseMethodDescriptor yX10_noSheet.desc).map (fun d => d.parameters.length) = some 1 := by decide +kernel
def r_X10_noSheet : Room := { frames := 1, cells := 0, slots := 0, locals := 25 }
set_option maxRecDepth 100000 in
set_option maxHeartbeats 4000000 in
theorem c_X10_noSheet {l : Launch} {D : va_G} {ad : Nat → Nat} {cs : Nat → ClassId} (hD : ∀ σ, va_D (AM ad) (WM ad cs σ)) {σ : Sg} {x0 : Int32} {res : Int32} (hf : f_X10_noSheet σ x0 = some res) : Met l yX10_noSheet (wm yX10_noSheet cX10_noSheet 1 (some .boolean)) r_X10_noSheet (va_Pc [.int x0] (BW D (TYM cs) (WM ad cs) σ)) (QI D (TYM cs) (WM ad cs) (AM ad) res σ) 0 0 (AM ad) := by
  refine q_enter (by decide) hD (Nat.le_of_ble_eq_true rfl) ?_
  intro p e s m below meth c C hr hlk hP hS ls hl
  exact w_X10_noSheet C hr hlk ⟨Nat.le_of_ble_eq_true rfl, Nat.le_of_ble_eq_true rfl⟩ hf hP hS hl

end

section
variable {p : Program} {l : Launch} {e : Env} {R : Room} {s : State} {m : MethodId} {args : Array Value} {below : List Frame} {meth : Method} {c : Code} {D : va_G} {ad : Nat → Nat} {cs : Nat → ClassId}
set_option maxRecDepth 100000 in
set_option maxHeartbeats 4000000 in
theorem w_X7_comesToItself_8 (C : CX p m c cX7_comesToItself 4 s args RX7 D (TYX cs) (WX ad cs) (AX ad)) (hr : meth.sig.returnType = (some .boolean)) (hlk : meth.locks = false) (hR : 1 ≤ R.frames ∧ 21 ≤ R.locals) {σ : Sg} {x1 : Int32} {x2 : Option Nat} {x3 : Int32} {res : Int32} {ag8 : Option Nat → Int32 → Option (Int32)} (hag8 : ∀ (x2 : Option Nat) (x3 : Int32) (H : Heap) (locs : List Loc) (ls : Array Slot), ag8 x2 x3 = some res → va_P D vwCl (WX ad cs σ) H → va_S (AX ad) s.heap H locs → lv_has ls 4 [(0, .ref (ad 2)), (1, .int x1), (2, va_rf (Option.map (fun t => ad (4 + t)) x2)), (3, .int x3)] → W p l e R s m args below meth c H locs 0 0 (MQ below (QI D (TYX cs) (WX ad cs) (AX ad) res σ) args s 0 0 (AX ad)) (F0 m 8 ls [])) (hf : f_X7_comesToItself_8 ag8 σ x1 x2 x3 = some res) {H : Heap} {locs : List Loc} (hP : va_P D vwCl (WX ad cs σ) H) (hS : va_S (AX ad) s.heap H locs) {ls : Array Slot} (hl : lv_has ls 4 [(0, .ref (ad 2)), (1, .int x1), (2, va_rf (Option.map (fun t => ad (4 + t)) x2)), (3, .int x3)]) : W p l e R s m args below meth c H locs 0 0 (MQ below (QI D (TYX cs) (WX ad cs) (AX ad) res σ) args s 0 0 (AX ad)) (F0 m 8 ls []) := by
  have hx := C.1.1
  have hb := C.1.2.1
  unfold f_X7_comesToItself_8 at hf
  refine lv_iload_n hx hb dX7_comesToItself_8 rfl (lv_at hl 3 rfl) ?_
  refine lv_aload_n hx hb dX7_comesToItself_9 rfl (lv_at hl 0 rfl) ?_
  refine gX7_1 C hP k_116 dX7_comesToItself_10 ?_
  refine lv_icmp_ge (tgt := 45) hx hb dX7_comesToItself_13 (by decide) (fun c1 => ?_) (fun c1 => ?_)
  · replace hf := zt c1 hf
    refine lv_iconst (v := 0) hx hb dX7_comesToItself_45 (by decide) ?_
    exact q_zret C hr hlk hP hS (congrArg (fun q => (q, σ)) (Option.some.inj hf)) (by decide) dX7_comesToItself_46
  · replace hf := zf c1 hf
    refine q_aloadq_n C dX7_comesToItself_16 rfl (lv_at hl 2 rfl) ?_
    rcases x2 with _ | t2
    · refine lv_ifnullN (tgt := 45) hx hb dX7_comesToItself_17 (by decide) ?_
      try dsimp only at hf
      refine lv_iconst (v := 0) hx hb dX7_comesToItself_45 (by decide) ?_
      exact q_zret C hr hlk hP hS (congrArg (fun q => (q, σ)) (Option.some.inj hf)) (by decide) dX7_comesToItself_46
    · refine lv_ifnull hx hb dX7_comesToItself_17 ?_
      try dsimp only at hf
      refine lv_aload_n hx hb dX7_comesToItself_20 rfl (lv_at hl 2 rfl) ?_
      obtain ⟨h3, hf⟩ := zc hf
      refine gX6_2N C hP h3 k_91 dX7_comesToItself_21 ?_
      refine lv_iload_n hx hb dX7_comesToItself_24 rfl (lv_at hl 1 rfl) ?_
      refine lv_icmp_ne (tgt := 30) hx hb dX7_comesToItself_25 (by decide) (fun c4 => ?_) (fun c4 => ?_)
      · replace hf := zf c4 hf
        refine lv_aload_n hx hb dX7_comesToItself_30 rfl (lv_at hl 0 rfl) ?_
        refine lv_aload_n hx hb dX7_comesToItself_31 rfl (lv_at hl 2 rfl) ?_
        refine gX6_2N C hP h3 k_91 dX7_comesToItself_32 ?_
        obtain ⟨r6, hg5, hf⟩ := zb hf
        try dsimp only at hf
        refine q_callr C hS (q_runV C hP (c_X7_thingAt (l := l) C.2.2.1 hg5) (ci := 6) (As := [.int (σ (4 + t2) 2)]) (rest := []) ⟨gd_V k_339 k_340 k_341 k_45 k_342, ⟨rfl, rfl⟩, kd_X7_thingAt, ⟨Nat.le_trans (Nat.le_of_ble_eq_true rfl) hR.1, Nat.le_trans (Nat.le_of_ble_eq_true rfl) hR.2⟩⟩ (o := 2) rfl rfl rfl rfl rfl (Nat.le_of_ble_eq_true rfl) hl.1 dX7_comesToItself_35) (fun H locs hP hS => ?_)
        refine q_astoreq_n (lv' := [(2, va_rf (Option.map (fun t => ad (4 + t)) r6)), (0, .ref (ad 2)), (1, .int x1), (3, .int x3)]) C dX7_comesToItself_38 rfl hl (by decide) rfl (fun ls hl => ?_)
        refine lv_iinc (v := x3 + 1) (lv' := [(3, .int (x3 + 1)), (2, va_rf (Option.map (fun t => ad (4 + t)) r6)), (0, .ref (ad 2)), (1, .int x1)]) hx hb dX7_comesToItself_39 hl (k := 3) rfl rfl (by decide) (by cases r6 <;> rfl) (fun ls hl => ?_)
        refine lv_goto (tgt := 8) hx hb dX7_comesToItself_42 (by decide) ?_
        exact hag8 _ _ _ _ _ hf hP hS (lv_sub hl [2, 3, 1, 0] rfl)
      · replace hf := zt c4 hf
        refine lv_iconst (v := 1) hx hb dX7_comesToItself_28 (by decide) ?_
        exact q_zret C hr hlk hP hS (congrArg (fun q => (q, σ)) (Option.some.inj hf)) (by decide) dX7_comesToItself_29
set_option maxRecDepth 100000 in
set_option maxHeartbeats 4000000 in
theorem wl_X7_comesToItself_8 (C : CX p m c cX7_comesToItself 4 s args RX7 D (TYX cs) (WX ad cs) (AX ad)) (hr : meth.sig.returnType = (some .boolean)) (hlk : meth.locks = false) (hR : 1 ≤ R.frames ∧ 21 ≤ R.locals) {σ : Sg} {x1 : Int32} {res : Int32} : ∀ n : Nat, ∀ (x2 : Option Nat) (x3 : Int32) (H : Heap) (locs : List Loc) (ls : Array Slot), l_X7_comesToItself_8 σ x1 n x2 x3 = some res → va_P D vwCl (WX ad cs σ) H → va_S (AX ad) s.heap H locs → lv_has ls 4 [(0, .ref (ad 2)), (1, .int x1), (2, va_rf (Option.map (fun t => ad (4 + t)) x2)), (3, .int x3)] → W p l e R s m args below meth c H locs 0 0 (MQ below (QI D (TYX cs) (WX ad cs) (AX ad) res σ) args s 0 0 (AX ad)) (F0 m 8 ls []) := by
  intro n
  induction n with
  | zero => intro x2 x3 H locs ls hf; cases hf
  | succ n ih =>
    intro x2 x3 H locs ls hf hP hS hl
    exact w_X7_comesToItself_8 C hr hlk hR (ag8 := l_X7_comesToItself_8 σ x1 n) ih hf hP hS hl
set_option maxRecDepth 100000 in
set_option maxHeartbeats 4000000 in
theorem w_X7_comesToItself (C : CX p m c cX7_comesToItself 4 s args RX7 D (TYX cs) (WX ad cs) (AX ad)) (hr : meth.sig.returnType = (some .boolean)) (hlk : meth.locks = false) (hR : 1 ≤ R.frames ∧ 21 ≤ R.locals) {σ : Sg} {x1 : Int32} {res : Int32} (hf : f_X7_comesToItself σ x1 = some res) {H : Heap} {locs : List Loc} (hP : va_P D vwCl (WX ad cs σ) H) (hS : va_S (AX ad) s.heap H locs) {ls : Array Slot} (hl : lv_has ls 4 [(0, .ref (ad 2)), (1, .int x1)]) : W p l e R s m args below meth c H locs 0 0 (MQ below (QI D (TYX cs) (WX ad cs) (AX ad) res σ) args s 0 0 (AX ad)) (F0 m 0 ls []) := by
  have hx := C.1.1
  have hb := C.1.2.1
  unfold f_X7_comesToItself at hf
  refine lv_aload_n hx hb dX7_comesToItself_0 rfl (lv_at hl 0 rfl) ?_
  refine lv_iload_n hx hb dX7_comesToItself_1 rfl (lv_at hl 1 rfl) ?_
  obtain ⟨r2, hg1, hf⟩ := zb hf
  try dsimp only at hf
  refine q_callr C hS (q_runV C hP (c_X7_thingAt (l := l) C.2.2.1 hg1) (ci := 6) (As := [.int x1]) (rest := []) ⟨gd_V k_339 k_340 k_341 k_45 k_342, ⟨rfl, rfl⟩, kd_X7_thingAt, ⟨Nat.le_trans (Nat.le_of_ble_eq_true rfl) hR.1, Nat.le_trans (Nat.le_of_ble_eq_true rfl) hR.2⟩⟩ (o := 2) rfl rfl rfl rfl rfl (Nat.le_of_ble_eq_true rfl) hl.1 dX7_comesToItself_2) (fun H locs hP hS => ?_)
  refine q_astoreq_n (lv' := [(2, va_rf (Option.map (fun t => ad (4 + t)) r2)), (0, .ref (ad 2)), (1, .int x1)]) C dX7_comesToItself_5 rfl hl (by decide) rfl (fun ls hl => ?_)
  refine lv_iconst (v := 0) hx hb dX7_comesToItself_6 (by decide) ?_
  refine lv_istore_n (lv' := [(3, .int 0), (2, va_rf (Option.map (fun t => ad (4 + t)) r2)), (0, .ref (ad 2)), (1, .int x1)]) hx hb dX7_comesToItself_7 rfl hl (by decide) (by cases r2 <;> rfl) (fun ls hl => ?_)
  exact wl_X7_comesToItself_8 C hr hlk hR fu _ _ _ _ _ hf hP hS (lv_sub hl [2, 3, 1, 0] rfl)
theorem kd_X7_comesToItself : yX7_comesToItself.cls = RX7 ∧ yX7_comesToItself.cls ≠ "java/lang/invoke/MethodHandle" ∧ yX7_comesToItself.cls ≠ "java/lang/invoke/VarHandle" ∧ (parseMethodDescriptor yX7_comesToItself.desc).map (fun d => d.parameters.length) = some 1 := by decide +kernel
def r_X7_comesToItself : Room := { frames := 1, cells := 0, slots := 0, locals := 21 }
set_option maxRecDepth 100000 in
set_option maxHeartbeats 4000000 in
theorem c_X7_comesToItself {l : Launch} {D : va_G} {ad : Nat → Nat} {cs : Nat → ClassId} (hD : ∀ σ, va_D (AX ad) (WX ad cs σ)) {σ : Sg} {x1 : Int32} {res : Int32} (hf : f_X7_comesToItself σ x1 = some res) : Met l yX7_comesToItself (wm yX7_comesToItself cX7_comesToItself 4 (some .boolean)) r_X7_comesToItself (va_Pc [.ref (ad 2), .int x1] (BW D (TYX cs) (WX ad cs) σ)) (QI D (TYX cs) (WX ad cs) (AX ad) res σ) 0 0 (AX ad) := by
  refine q_enter (by decide) hD (Nat.le_of_ble_eq_true rfl) ?_
  intro p e s m below meth c C hr hlk hP hS ls hl
  exact w_X7_comesToItself C hr hlk ⟨Nat.le_of_ble_eq_true rfl, Nat.le_of_ble_eq_true rfl⟩ hf hP hS hl

set_option maxRecDepth 100000 in
set_option maxHeartbeats 4000000 in
theorem w_J6_bitCount_0f7a4 (C : CX p m c cJ6_bitCount_0f7a4 1 s args RJ6 D (TYX cs) (WX ad cs) (AX ad)) (hr : meth.sig.returnType = (some .int)) (hlk : meth.locks = false) (hR : 0 ≤ R.frames ∧ 0 ≤ R.locals) {σ : Sg} {x0 : Int32} {res : Int32} (hf : f_J6_bitCount_0f7a4 σ x0 = some res) {H : Heap} {locs : List Loc} (hP : va_P D vwCl (WX ad cs σ) H) (hS : va_S (AX ad) s.heap H locs) {ls : Array Slot} (hl : lv_has ls 1 [(0, .int x0)]) : W p l e R s m args below meth c H locs 0 0 (MQ below (QI D (TYX cs) (WX ad cs) (AX ad) res σ) args s 0 0 (AX ad)) (F0 m 0 ls []) := by
  have hx := C.1.1
  have hb := C.1.2.1
  unfold f_J6_bitCount_0f7a4 at hf
  refine lv_iload_n hx hb dJ6_bitCount_0f7a4_0 rfl (lv_at hl 0 rfl) ?_
  refine lv_iload_n hx hb dJ6_bitCount_0f7a4_1 rfl (lv_at hl 0 rfl) ?_
  refine lv_iconst (v := 1) hx hb dJ6_bitCount_0f7a4_2 (by decide) ?_
  refine lv_iushr hx hb dJ6_bitCount_0f7a4_3 rfl ?_
  refine lv_ldcw (v := 1431655765) hx hb C.1.2.2.2.1 (C.1.2.2.2.2 _ k_472) dJ6_bitCount_0f7a4_4 ?_
  refine lv_iand hx hb dJ6_bitCount_0f7a4_7 ?_
  refine lv_isub hx hb dJ6_bitCount_0f7a4_8 ?_
  refine lv_istore_n (lv' := [(0, .int (x0 - (((x0.toUInt32 >>> ((1 : Int32).toUInt32 &&& Int32.toUInt32 31)).toInt32) &&& 1431655765)))]) hx hb dJ6_bitCount_0f7a4_9 rfl hl (by decide) rfl (fun ls hl => ?_)
  refine lv_iload_n hx hb dJ6_bitCount_0f7a4_10 rfl (lv_at hl 0 rfl) ?_
  refine lv_ldcw (v := 858993459) hx hb C.1.2.2.2.1 (C.1.2.2.2.2 _ k_473) dJ6_bitCount_0f7a4_11 ?_
  refine lv_iand hx hb dJ6_bitCount_0f7a4_14 ?_
  refine lv_iload_n hx hb dJ6_bitCount_0f7a4_15 rfl (lv_at hl 0 rfl) ?_
  refine lv_iconst (v := 2) hx hb dJ6_bitCount_0f7a4_16 (by decide) ?_
  refine lv_iushr hx hb dJ6_bitCount_0f7a4_17 rfl ?_
  refine lv_ldcw (v := 858993459) hx hb C.1.2.2.2.1 (C.1.2.2.2.2 _ k_473) dJ6_bitCount_0f7a4_18 ?_
  refine lv_iand hx hb dJ6_bitCount_0f7a4_21 ?_
  refine lv_iadd hx hb dJ6_bitCount_0f7a4_22 ?_
  refine lv_istore_n (lv' := [(0, .int (((x0 - (((x0.toUInt32 >>> ((1 : Int32).toUInt32 &&& Int32.toUInt32 31)).toInt32) &&& 1431655765)) &&& 858993459) + ((((x0 - (((x0.toUInt32 >>> ((1 : Int32).toUInt32 &&& Int32.toUInt32 31)).toInt32) &&& 1431655765)).toUInt32 >>> ((2 : Int32).toUInt32 &&& Int32.toUInt32 31)).toInt32) &&& 858993459)))]) hx hb dJ6_bitCount_0f7a4_23 rfl hl (by decide) rfl (fun ls hl => ?_)
  refine lv_iload_n hx hb dJ6_bitCount_0f7a4_24 rfl (lv_at hl 0 rfl) ?_
  refine lv_iload_n hx hb dJ6_bitCount_0f7a4_25 rfl (lv_at hl 0 rfl) ?_
  refine lv_iconst (v := 4) hx hb dJ6_bitCount_0f7a4_26 (by decide) ?_
  refine lv_iushr hx hb dJ6_bitCount_0f7a4_27 rfl ?_
  refine lv_iadd hx hb dJ6_bitCount_0f7a4_28 ?_
  refine lv_ldcw (v := 252645135) hx hb C.1.2.2.2.1 (C.1.2.2.2.2 _ k_474) dJ6_bitCount_0f7a4_29 ?_
  refine lv_iand hx hb dJ6_bitCount_0f7a4_32 ?_
  refine lv_istore_n (lv' := [(0, .int (((((x0 - (((x0.toUInt32 >>> ((1 : Int32).toUInt32 &&& Int32.toUInt32 31)).toInt32) &&& 1431655765)) &&& 858993459) + ((((x0 - (((x0.toUInt32 >>> ((1 : Int32).toUInt32 &&& Int32.toUInt32 31)).toInt32) &&& 1431655765)).toUInt32 >>> ((2 : Int32).toUInt32 &&& Int32.toUInt32 31)).toInt32) &&& 858993459)) + (((((x0 - (((x0.toUInt32 >>> ((1 : Int32).toUInt32 &&& Int32.toUInt32 31)).toInt32) &&& 1431655765)) &&& 858993459) + ((((x0 - (((x0.toUInt32 >>> ((1 : Int32).toUInt32 &&& Int32.toUInt32 31)).toInt32) &&& 1431655765)).toUInt32 >>> ((2 : Int32).toUInt32 &&& Int32.toUInt32 31)).toInt32) &&& 858993459)).toUInt32 >>> ((4 : Int32).toUInt32 &&& Int32.toUInt32 31)).toInt32)) &&& 252645135))]) hx hb dJ6_bitCount_0f7a4_33 rfl hl (by decide) rfl (fun ls hl => ?_)
  refine lv_iload_n hx hb dJ6_bitCount_0f7a4_34 rfl (lv_at hl 0 rfl) ?_
  refine lv_iload_n hx hb dJ6_bitCount_0f7a4_35 rfl (lv_at hl 0 rfl) ?_
  refine lv_bipush (v := 8) hx hb dJ6_bitCount_0f7a4_36 (by decide) ?_
  refine lv_iushr hx hb dJ6_bitCount_0f7a4_38 rfl ?_
  refine lv_iadd hx hb dJ6_bitCount_0f7a4_39 ?_
  refine lv_istore_n (lv' := [(0, .int ((((((x0 - (((x0.toUInt32 >>> ((1 : Int32).toUInt32 &&& Int32.toUInt32 31)).toInt32) &&& 1431655765)) &&& 858993459) + ((((x0 - (((x0.toUInt32 >>> ((1 : Int32).toUInt32 &&& Int32.toUInt32 31)).toInt32) &&& 1431655765)).toUInt32 >>> ((2 : Int32).toUInt32 &&& Int32.toUInt32 31)).toInt32) &&& 858993459)) + (((((x0 - (((x0.toUInt32 >>> ((1 : Int32).toUInt32 &&& Int32.toUInt32 31)).toInt32) &&& 1431655765)) &&& 858993459) + ((((x0 - (((x0.toUInt32 >>> ((1 : Int32).toUInt32 &&& Int32.toUInt32 31)).toInt32) &&& 1431655765)).toUInt32 >>> ((2 : Int32).toUInt32 &&& Int32.toUInt32 31)).toInt32) &&& 858993459)).toUInt32 >>> ((4 : Int32).toUInt32 &&& Int32.toUInt32 31)).toInt32)) &&& 252645135) + (((((((x0 - (((x0.toUInt32 >>> ((1 : Int32).toUInt32 &&& Int32.toUInt32 31)).toInt32) &&& 1431655765)) &&& 858993459) + ((((x0 - (((x0.toUInt32 >>> ((1 : Int32).toUInt32 &&& Int32.toUInt32 31)).toInt32) &&& 1431655765)).toUInt32 >>> ((2 : Int32).toUInt32 &&& Int32.toUInt32 31)).toInt32) &&& 858993459)) + (((((x0 - (((x0.toUInt32 >>> ((1 : Int32).toUInt32 &&& Int32.toUInt32 31)).toInt32) &&& 1431655765)) &&& 858993459) + ((((x0 - (((x0.toUInt32 >>> ((1 : Int32).toUInt32 &&& Int32.toUInt32 31)).toInt32) &&& 1431655765)).toUInt32 >>> ((2 : Int32).toUInt32 &&& Int32.toUInt32 31)).toInt32) &&& 858993459)).toUInt32 >>> ((4 : Int32).toUInt32 &&& Int32.toUInt32 31)).toInt32)) &&& 252645135).toUInt32 >>> ((8 : Int32).toUInt32 &&& Int32.toUInt32 31)).toInt32)))]) hx hb dJ6_bitCount_0f7a4_40 rfl hl (by decide) rfl (fun ls hl => ?_)
  refine lv_iload_n hx hb dJ6_bitCount_0f7a4_41 rfl (lv_at hl 0 rfl) ?_
  refine lv_iload_n hx hb dJ6_bitCount_0f7a4_42 rfl (lv_at hl 0 rfl) ?_
  refine lv_bipush (v := 16) hx hb dJ6_bitCount_0f7a4_43 (by decide) ?_
  refine lv_iushr hx hb dJ6_bitCount_0f7a4_45 rfl ?_
  refine lv_iadd hx hb dJ6_bitCount_0f7a4_46 ?_
  refine lv_istore_n (lv' := [(0, .int (((((((x0 - (((x0.toUInt32 >>> ((1 : Int32).toUInt32 &&& Int32.toUInt32 31)).toInt32) &&& 1431655765)) &&& 858993459) + ((((x0 - (((x0.toUInt32 >>> ((1 : Int32).toUInt32 &&& Int32.toUInt32 31)).toInt32) &&& 1431655765)).toUInt32 >>> ((2 : Int32).toUInt32 &&& Int32.toUInt32 31)).toInt32) &&& 858993459)) + (((((x0 - (((x0.toUInt32 >>> ((1 : Int32).toUInt32 &&& Int32.toUInt32 31)).toInt32) &&& 1431655765)) &&& 858993459) + ((((x0 - (((x0.toUInt32 >>> ((1 : Int32).toUInt32 &&& Int32.toUInt32 31)).toInt32) &&& 1431655765)).toUInt32 >>> ((2 : Int32).toUInt32 &&& Int32.toUInt32 31)).toInt32) &&& 858993459)).toUInt32 >>> ((4 : Int32).toUInt32 &&& Int32.toUInt32 31)).toInt32)) &&& 252645135) + (((((((x0 - (((x0.toUInt32 >>> ((1 : Int32).toUInt32 &&& Int32.toUInt32 31)).toInt32) &&& 1431655765)) &&& 858993459) + ((((x0 - (((x0.toUInt32 >>> ((1 : Int32).toUInt32 &&& Int32.toUInt32 31)).toInt32) &&& 1431655765)).toUInt32 >>> ((2 : Int32).toUInt32 &&& Int32.toUInt32 31)).toInt32) &&& 858993459)) + (((((x0 - (((x0.toUInt32 >>> ((1 : Int32).toUInt32 &&& Int32.toUInt32 31)).toInt32) &&& 1431655765)) &&& 858993459) + ((((x0 - (((x0.toUInt32 >>> ((1 : Int32).toUInt32 &&& Int32.toUInt32 31)).toInt32) &&& 1431655765)).toUInt32 >>> ((2 : Int32).toUInt32 &&& Int32.toUInt32 31)).toInt32) &&& 858993459)).toUInt32 >>> ((4 : Int32).toUInt32 &&& Int32.toUInt32 31)).toInt32)) &&& 252645135).toUInt32 >>> ((8 : Int32).toUInt32 &&& Int32.toUInt32 31)).toInt32)) + ((((((((x0 - (((x0.toUInt32 >>> ((1 : Int32).toUInt32 &&& Int32.toUInt32 31)).toInt32) &&& 1431655765)) &&& 858993459) + ((((x0 - (((x0.toUInt32 >>> ((1 : Int32).toUInt32 &&& Int32.toUInt32 31)).toInt32) &&& 1431655765)).toUInt32 >>> ((2 : Int32).toUInt32 &&& Int32.toUInt32 31)).toInt32) &&& 858993459)) + (((((x0 - (((x0.toUInt32 >>> ((1 : Int32).toUInt32 &&& Int32.toUInt32 31)).toInt32) &&& 1431655765)) &&& 858993459) + ((((x0 - (((x0.toUInt32 >>> ((1 : Int32).toUInt32 &&& Int32.toUInt32 31)).toInt32) &&& 1431655765)).toUInt32 >>> ((2 : Int32).toUInt32 &&& Int32.toUInt32 31)).toInt32) &&& 858993459)).toUInt32 >>> ((4 : Int32).toUInt32 &&& Int32.toUInt32 31)).toInt32)) &&& 252645135) + (((((((x0 - (((x0.toUInt32 >>> ((1 : Int32).toUInt32 &&& Int32.toUInt32 31)).toInt32) &&& 1431655765)) &&& 858993459) + ((((x0 - (((x0.toUInt32 >>> ((1 : Int32).toUInt32 &&& Int32.toUInt32 31)).toInt32) &&& 1431655765)).toUInt32 >>> ((2 : Int32).toUInt32 &&& Int32.toUInt32 31)).toInt32) &&& 858993459)) + (((((x0 - (((x0.toUInt32 >>> ((1 : Int32).toUInt32 &&& Int32.toUInt32 31)).toInt32) &&& 1431655765)) &&& 858993459) + ((((x0 - (((x0.toUInt32 >>> ((1 : Int32).toUInt32 &&& Int32.toUInt32 31)).toInt32) &&& 1431655765)).toUInt32 >>> ((2 : Int32).toUInt32 &&& Int32.toUInt32 31)).toInt32) &&& 858993459)).toUInt32 >>> ((4 : Int32).toUInt32 &&& Int32.toUInt32 31)).toInt32)) &&& 252645135).toUInt32 >>> ((8 : Int32).toUInt32 &&& Int32.toUInt32 31)).toInt32)).toUInt32 >>> ((16 : Int32).toUInt32 &&& Int32.toUInt32 31)).toInt32)))]) hx hb dJ6_bitCount_0f7a4_47 rfl hl (by decide) rfl (fun ls hl => ?_)
  refine lv_iload_n hx hb dJ6_bitCount_0f7a4_48 rfl (lv_at hl 0 rfl) ?_
  refine lv_bipush (v := 63) hx hb dJ6_bitCount_0f7a4_49 (by decide) ?_
  refine lv_iand hx hb dJ6_bitCount_0f7a4_51 ?_
  exact q_iret C hr hlk hP hS (congrArg (fun q => (q, σ)) (Option.some.inj hf)) dJ6_bitCount_0f7a4_52
theorem kd_J6_bitCount_0f7a4 : yJ6_bitCount_0f7a4.cls ≠ "java/lang/invoke/MethodHandle" ∧ yJ6_bitCount_0f7a4.cls ≠ "java/lang/invoke/VarHandle" ∧ (parseMethodDescriptor yJ6_bitCount_0f7a4.desc).map (fun d => d.parameters.length) = some 1 := by decide +kernel
def r_J6_bitCount_0f7a4 : Room := { frames := 0, cells := 0, slots := 0, locals := 0 }
set_option maxRecDepth 100000 in
set_option maxHeartbeats 4000000 in
theorem c_J6_bitCount_0f7a4 {l : Launch} {D : va_G} {ad : Nat → Nat} {cs : Nat → ClassId} (hD : ∀ σ, va_D (AX ad) (WX ad cs σ)) {σ : Sg} {x0 : Int32} {res : Int32} (hf : f_J6_bitCount_0f7a4 σ x0 = some res) : Met l yJ6_bitCount_0f7a4 (wm yJ6_bitCount_0f7a4 cJ6_bitCount_0f7a4 1 (some .int)) r_J6_bitCount_0f7a4 (va_Pc [.int x0] (BW D (TYX cs) (WX ad cs) σ)) (QI D (TYX cs) (WX ad cs) (AX ad) res σ) 0 0 (AX ad) := by
  refine q_enter (by decide) hD (Nat.le_of_ble_eq_true rfl) ?_
  intro p e s m below meth c C hr hlk hP hS ls hl
  exact w_J6_bitCount_0f7a4 C hr hlk ⟨Nat.le_of_ble_eq_true rfl, Nat.le_of_ble_eq_true rfl⟩ hf hP hS hl

set_option maxRecDepth 100000 in
set_option maxHeartbeats 4000000 in
theorem w_X8_seekFrail_88 (C : CX p m c cX8_seekFrail 4 s args RX8 D (TYX cs) (WX ad cs) (AX ad)) (hr : meth.sig.returnType = none) (hlk : meth.locks = false) (hR : 4 ≤ R.frames ∧ 99 ≤ R.locals) {σ : Sg} {x1 : Int32} {x2 : Int32} {x3 : Int32} {res : Sg} {ag13 : Int32 → Sg → Option (Sg)} (hag13 : ∀ (x2 : Int32) (σ : Sg) (H : Heap) (locs : List Loc) (ls : Array Slot), ag13 x2 σ = some res → va_P D vwCl (WX ad cs σ) H → va_S (AX ad) s.heap H locs → lv_has ls 4 [(0, .ref (ad 22)), (1, .int x1), (2, .int x2)] → W p l e R s m args below meth c H locs 0 0 (MQ below (QV D (TYX cs) (WX ad cs) (AX ad) res) args s 0 0 (AX ad)) (F0 m 13 ls [])) (hf : f_X8_seekFrail_88 ag13 σ x1 x2 x3 = some res) {H : Heap} {locs : List Loc} (hP : va_P D vwCl (WX ad cs σ) H) (hS : va_S (AX ad) s.heap H locs) {ls : Array Slot} (hl : lv_has ls 4 [(0, .ref (ad 22)), (1, .int x1), (2, .int x2), (3, .int x3)]) : W p l e R s m args below meth c H locs 0 0 (MQ below (QV D (TYX cs) (WX ad cs) (AX ad) res) args s 0 0 (AX ad)) (F0 m 88 ls []) := by
  have hx := C.1.1
  have hb := C.1.2.1
  unfold f_X8_seekFrail_88 at hf
  refine lv_iload_n hx hb dX8_seekFrail_88 rfl (lv_at hl 3 rfl) ?_
  refine lv_iload_n hx hb dX8_seekFrail_89 rfl (lv_at hl 1 rfl) ?_
  refine lv_icmp_ne (tgt := 94) hx hb dX8_seekFrail_90 (by decide) (fun c1 => ?_) (fun c1 => ?_)
  · replace hf := zf c1 hf
    refine lv_iinc (v := x2 + 1) (lv' := [(2, .int (x2 + 1)), (0, .ref (ad 22)), (1, .int x1), (3, .int x3)]) hx hb dX8_seekFrail_94 hl (k := 2) rfl rfl (by decide) rfl (fun ls hl => ?_)
    refine lv_goto (tgt := 13) hx hb dX8_seekFrail_97 (by decide) ?_
    exact hag13 _ _ _ _ _ hf hP hS (lv_sub hl [1, 2, 0] rfl)
  · replace hf := zt c1 hf
    exact q_vret C hr hlk hP hS (Option.some.inj hf) dX8_seekFrail_93
set_option maxRecDepth 100000 in
set_option maxHeartbeats 4000000 in
theorem w_X8_seekFrail_78 (C : CX p m c cX8_seekFrail 4 s args RX8 D (TYX cs) (WX ad cs) (AX ad)) (hr : meth.sig.returnType = none) (hlk : meth.locks = false) (hR : 4 ≤ R.frames ∧ 99 ≤ R.locals) {σ : Sg} {x1 : Int32} {x2 : Int32} {x3 : Int32} {res : Sg} {ag13 : Int32 → Sg → Option (Sg)} (hag13 : ∀ (x2 : Int32) (σ : Sg) (H : Heap) (locs : List Loc) (ls : Array Slot), ag13 x2 σ = some res → va_P D vwCl (WX ad cs σ) H → va_S (AX ad) s.heap H locs → lv_has ls 4 [(0, .ref (ad 22)), (1, .int x1), (2, .int x2)] → W p l e R s m args below meth c H locs 0 0 (MQ below (QV D (TYX cs) (WX ad cs) (AX ad) res) args s 0 0 (AX ad)) (F0 m 13 ls [])) (hf : f_X8_seekFrail_78 ag13 σ x1 x2 x3 = some res) {H : Heap} {locs : List Loc} (hP : va_P D vwCl (WX ad cs σ) H) (hS : va_S (AX ad) s.heap H locs) {ls : Array Slot} (hl : lv_has ls 4 [(0, .ref (ad 22)), (1, .int x1), (2, .int x2), (3, .int x3)]) : W p l e R s m args below meth c H locs 0 0 (MQ below (QV D (TYX cs) (WX ad cs) (AX ad) res) args s 0 0 (AX ad)) (F0 m 78 ls []) := by
  have hx := C.1.1
  have hb := C.1.2.1
  unfold f_X8_seekFrail_78 at hf
  refine lv_aload_n hx hb dX8_seekFrail_78 rfl (lv_at hl 0 rfl) ?_
  refine lv_iload_n hx hb dX8_seekFrail_79 rfl (lv_at hl 2 rfl) ?_
  refine pX8_2 C hP hS k_196 dX8_seekFrail_80 (fun H locs hP hS => ?_)
  refine lv_aload_n hx hb dX8_seekFrail_83 rfl (lv_at hl 0 rfl) ?_
  refine lv_iload_n hx hb dX8_seekFrail_84 rfl (lv_at hl 3 rfl) ?_
  refine pX8_3 C hP hS k_198 dX8_seekFrail_85 (fun H locs hP hS => ?_)
  exact w_X8_seekFrail_88 C hr hlk hR hag13 hf hP hS (lv_sub hl [0, 1, 2, 3] rfl)
set_option maxRecDepth 100000 in
set_option maxHeartbeats 4000000 in
theorem w_X8_seekFrail_13 (C : CX p m c cX8_seekFrail 4 s args RX8 D (TYX cs) (WX ad cs) (AX ad)) (hr : meth.sig.returnType = none) (hlk : meth.locks = false) (hR : 4 ≤ R.frames ∧ 99 ≤ R.locals) {σ : Sg} {x1 : Int32} {x2 : Int32} {res : Sg} {ag13 : Int32 → Sg → Option (Sg)} (hag13 : ∀ (x2 : Int32) (σ : Sg) (H : Heap) (locs : List Loc) (ls : Array Slot), ag13 x2 σ = some res → va_P D vwCl (WX ad cs σ) H → va_S (AX ad) s.heap H locs → lv_has ls 4 [(0, .ref (ad 22)), (1, .int x1), (2, .int x2)] → W p l e R s m args below meth c H locs 0 0 (MQ below (QV D (TYX cs) (WX ad cs) (AX ad) res) args s 0 0 (AX ad)) (F0 m 13 ls [])) (hf : f_X8_seekFrail_13 ag13 σ x1 x2 = some res) {H : Heap} {locs : List Loc} (hP : va_P D vwCl (WX ad cs σ) H) (hS : va_S (AX ad) s.heap H locs) {ls : Array Slot} (hl : lv_has ls 4 [(0, .ref (ad 22)), (1, .int x1), (2, .int x2)]) : W p l e R s m args below meth c H locs 0 0 (MQ below (QV D (TYX cs) (WX ad cs) (AX ad) res) args s 0 0 (AX ad)) (F0 m 13 ls []) := by
  have hx := C.1.1
  have hb := C.1.2.1
  unfold f_X8_seekFrail_13 at hf
  refine lv_iload_n hx hb dX8_seekFrail_13 rfl (lv_at hl 2 rfl) ?_
  refine lv_aload_n hx hb dX8_seekFrail_14 rfl (lv_at hl 0 rfl) ?_
  refine gX8_0 C hP k_194 dX8_seekFrail_15 ?_
  obtain ⟨r2, hg1, hf⟩ := zb hf
  try dsimp only at hf
  refine q_calli C hS (q_runV C hP (c_X7_sets (l := l) C.2.2.1 hg1) (ci := 6) (As := []) (rest := [.int x2]) ⟨gd_V k_465 k_466 k_467 k_45 k_468, ⟨rfl, rfl⟩, kd_X7_sets, ⟨Nat.le_trans (Nat.le_of_ble_eq_true rfl) hR.1, Nat.le_trans (Nat.le_of_ble_eq_true rfl) hR.2⟩⟩ (o := 2) rfl rfl rfl rfl rfl (Nat.le_of_ble_eq_true rfl) hl.1 dX8_seekFrail_18) (fun H locs hP hS => ?_)
  refine lv_icmp_ge (tgt := 100) hx hb dX8_seekFrail_21 (by decide) (fun c3 => ?_) (fun c3 => ?_)
  · replace hf := zt c3 hf
    exact q_vret C hr hlk hP hS (Option.some.inj hf) dX8_seekFrail_100
  · replace hf := zf c3 hf
    refine lv_iload_n hx hb dX8_seekFrail_24 rfl (lv_at hl 2 rfl) ?_
    obtain ⟨r5, hg4, hf⟩ := zb hf
    try dsimp only at hf
    refine q_calli C hS (q_runS C hP (c_J6_bitCount_0f7a4 (l := l) C.2.2.1 hg4) (As := [.int x2]) (rest := []) ⟨gd_S k_469 k_470 k_57 k_471, ⟨rfl, rfl⟩, kd_J6_bitCount_0f7a4, ⟨Nat.le_trans (Nat.le_of_ble_eq_true rfl) hR.1, Nat.le_trans (Nat.le_of_ble_eq_true rfl) hR.2⟩⟩ rfl rfl (Nat.le_of_ble_eq_true rfl) hl.1 dX8_seekFrail_25) (fun H locs hP hS => ?_)
    refine lv_iload_n hx hb dX8_seekFrail_28 rfl (lv_at hl 1 rfl) ?_
    refine lv_icmp_eq (tgt := 35) hx hb dX8_seekFrail_29 (by decide) (fun c6 => ?_) (fun c6 => ?_)
    · replace hf := zt c6 hf
      refine lv_aload_n hx hb dX8_seekFrail_35 rfl (lv_at hl 0 rfl) ?_
      refine gX8_1 C hP k_195 dX8_seekFrail_36 ?_
      refine lv_aload_n hx hb dX8_seekFrail_39 rfl (lv_at hl 0 rfl) ?_
      refine gX8_0 C hP k_194 dX8_seekFrail_40 ?_
      refine gX7_2N C hP k_122 dX8_seekFrail_43 ?_
      refine lv_iload_n hx hb dX8_seekFrail_46 rfl (lv_at hl 2 rfl) ?_
      obtain ⟨σ8, hg7, hf⟩ := zb hf
      try dsimp only at hf
      refine q_callv C hS (q_runV C hP (c_X3_workHourZero (l := l) C.2.2.1 hg7) (ci := 3) (As := [.int (σ 2 2), .int x2]) (rest := []) ⟨gd_V k_475 k_476 k_477 k_49 k_478, ⟨rfl, rfl⟩, kd_X3_workHourZero, ⟨Nat.le_trans (Nat.le_of_ble_eq_true rfl) hR.1, Nat.le_trans (Nat.le_of_ble_eq_true rfl) hR.2⟩⟩ (o := 19) rfl rfl rfl rfl rfl (Nat.le_of_ble_eq_true rfl) hl.1 dX8_seekFrail_47) (fun H locs hP hS => ?_)
      refine lv_aload_n hx hb dX8_seekFrail_50 rfl (lv_at hl 0 rfl) ?_
      refine gX8_1 C hP k_195 dX8_seekFrail_51 ?_
      obtain ⟨r10, hg9, hf⟩ := zb hf
      try dsimp only at hf
      refine q_calli C hS (q_runV C hP (c_X3_undoneUses (l := l) C.2.2.1 hg9) (ci := 3) (As := []) (rest := []) ⟨gd_V k_479 k_427 k_428 k_49 k_429, ⟨rfl, rfl⟩, kd_X3_undoneUses, ⟨Nat.le_trans (Nat.le_of_ble_eq_true rfl) hR.1, Nat.le_trans (Nat.le_of_ble_eq_true rfl) hR.2⟩⟩ (o := 19) rfl rfl rfl rfl rfl (Nat.le_of_ble_eq_true rfl) hl.1 dX8_seekFrail_54) (fun H locs hP hS => ?_)
      obtain ⟨r12, hg11, hf⟩ := zb hf
      try dsimp only at hf
      refine q_calli C hS (q_runS C hP (c_J6_bitCount_0f7a4 (l := l) C.2.2.1 hg11) (As := [.int r10]) (rest := []) ⟨gd_S k_469 k_470 k_57 k_471, ⟨rfl, rfl⟩, kd_J6_bitCount_0f7a4, ⟨Nat.le_trans (Nat.le_of_ble_eq_true rfl) hR.1, Nat.le_trans (Nat.le_of_ble_eq_true rfl) hR.2⟩⟩ rfl rfl (Nat.le_of_ble_eq_true rfl) hl.1 dX8_seekFrail_57) (fun H locs hP hS => ?_)
      refine lv_istore_n (lv' := [(3, .int r12), (0, .ref (ad 22)), (1, .int x1), (2, .int x2)]) hx hb dX8_seekFrail_60 rfl hl (by decide) rfl (fun ls hl => ?_)
      refine lv_aload_n hx hb dX8_seekFrail_61 rfl (lv_at hl 1 rfl) ?_
      refine gX8_2 C hP k_196 dX8_seekFrail_62 ?_
      refine lv_bipush (v := (-9)) hx hb dX8_seekFrail_65 (by decide) ?_
      refine lv_icmp_eq (tgt := 78) hx hb dX8_seekFrail_67 (by decide) (fun c13 => ?_) (fun c13 => ?_)
      · replace hf := zt c13 hf
        exact w_X8_seekFrail_78 C hr hlk hR hag13 hf hP hS (lv_sub hl [1, 2, 3, 0] rfl)
      · replace hf := zf c13 hf
        refine lv_iload_n hx hb dX8_seekFrail_70 rfl (lv_at hl 0 rfl) ?_
        refine lv_aload_n hx hb dX8_seekFrail_71 rfl (lv_at hl 1 rfl) ?_
        refine gX8_3 C hP k_198 dX8_seekFrail_72 ?_
        refine lv_icmp_le (tgt := 88) hx hb dX8_seekFrail_75 (by decide) (fun c14 => ?_) (fun c14 => ?_)
        · replace hf := zt c14 hf
          exact w_X8_seekFrail_88 C hr hlk hR hag13 hf hP hS (lv_sub hl [1, 2, 3, 0] rfl)
        · replace hf := zf c14 hf
          exact w_X8_seekFrail_78 C hr hlk hR hag13 hf hP hS (lv_sub hl [1, 2, 3, 0] rfl)
    · replace hf := zf c6 hf
      refine lv_goto (tgt := 94) hx hb dX8_seekFrail_32 (by decide) ?_
      refine lv_iinc (v := x2 + 1) (lv' := [(2, .int (x2 + 1)), (0, .ref (ad 22)), (1, .int x1)]) hx hb dX8_seekFrail_94 hl (k := 2) rfl rfl (by decide) rfl (fun ls hl => ?_)
      refine lv_goto (tgt := 13) hx hb dX8_seekFrail_97 (by decide) ?_
      exact hag13 _ _ _ _ _ hf hP hS (lv_sub hl [1, 2, 0] rfl)
set_option maxRecDepth 100000 in
set_option maxHeartbeats 4000000 in
theorem wl_X8_seekFrail_13 (C : CX p m c cX8_seekFrail 4 s args RX8 D (TYX cs) (WX ad cs) (AX ad)) (hr : meth.sig.returnType = none) (hlk : meth.locks = false) (hR : 4 ≤ R.frames ∧ 99 ≤ R.locals) {x1 : Int32} {res : Sg} : ∀ n : Nat, ∀ (x2 : Int32) (σ : Sg) (H : Heap) (locs : List Loc) (ls : Array Slot), l_X8_seekFrail_13 x1 n x2 σ = some res → va_P D vwCl (WX ad cs σ) H → va_S (AX ad) s.heap H locs → lv_has ls 4 [(0, .ref (ad 22)), (1, .int x1), (2, .int x2)] → W p l e R s m args below meth c H locs 0 0 (MQ below (QV D (TYX cs) (WX ad cs) (AX ad) res) args s 0 0 (AX ad)) (F0 m 13 ls []) := by
  intro n
  induction n with
  | zero => intro x2 σ H locs ls hf; cases hf
  | succ n ih =>
    intro x2 σ H locs ls hf hP hS hl
    exact w_X8_seekFrail_13 C hr hlk hR (ag13 := l_X8_seekFrail_13 x1 n) ih hf hP hS hl
set_option maxRecDepth 100000 in
set_option maxHeartbeats 4000000 in
theorem w_X8_seekFrail (C : CX p m c cX8_seekFrail 4 s args RX8 D (TYX cs) (WX ad cs) (AX ad)) (hr : meth.sig.returnType = none) (hlk : meth.locks = false) (hR : 4 ≤ R.frames ∧ 99 ≤ R.locals) {σ : Sg} {x1 : Int32} {res : Sg} (hf : f_X8_seekFrail σ x1 = some res) {H : Heap} {locs : List Loc} (hP : va_P D vwCl (WX ad cs σ) H) (hS : va_S (AX ad) s.heap H locs) {ls : Array Slot} (hl : lv_has ls 4 [(0, .ref (ad 22)), (1, .int x1)]) : W p l e R s m args below meth c H locs 0 0 (MQ below (QV D (TYX cs) (WX ad cs) (AX ad) res) args s 0 0 (AX ad)) (F0 m 0 ls []) := by
  have hx := C.1.1
  have hb := C.1.2.1
  unfold f_X8_seekFrail at hf
  refine lv_aload_n hx hb dX8_seekFrail_0 rfl (lv_at hl 0 rfl) ?_
  refine lv_bipush (v := (-9)) hx hb dX8_seekFrail_1 (by decide) ?_
  refine pX8_2 C hP hS k_196 dX8_seekFrail_3 (fun H locs hP hS => ?_)
  refine lv_aload_n hx hb dX8_seekFrail_6 rfl (lv_at hl 0 rfl) ?_
  refine lv_iconst (v := 0) hx hb dX8_seekFrail_7 (by decide) ?_
  refine pX8_3 C hP hS k_198 dX8_seekFrail_8 (fun H locs hP hS => ?_)
  refine lv_iconst (v := 0) hx hb dX8_seekFrail_11 (by decide) ?_
  refine lv_istore_n (lv' := [(2, .int 0), (0, .ref (ad 22)), (1, .int x1)]) hx hb dX8_seekFrail_12 rfl hl (by decide) rfl (fun ls hl => ?_)
  exact wl_X8_seekFrail_13 C hr hlk hR fu _ _ _ _ _ hf hP hS (lv_sub hl [1, 2, 0] rfl)
theorem kd_X8_seekFrail : yX8_seekFrail.cls = RX8 ∧ yX8_seekFrail.cls ≠ "java/lang/invoke/MethodHandle" ∧ yX8_seekFrail.cls ≠ "java/lang/invoke/VarHandle" ∧ (parseMethodDescriptor yX8_seekFrail.desc).map (fun d => d.parameters.length) = some 1 := by decide +kernel
def r_X8_seekFrail : Room := { frames := 4, cells := 0, slots := 0, locals := 99 }
set_option maxRecDepth 100000 in
set_option maxHeartbeats 4000000 in
theorem c_X8_seekFrail {l : Launch} {D : va_G} {ad : Nat → Nat} {cs : Nat → ClassId} (hD : ∀ σ, va_D (AX ad) (WX ad cs σ)) {σ : Sg} {x1 : Int32} {res : Sg} (hf : f_X8_seekFrail σ x1 = some res) : Met l yX8_seekFrail (wm yX8_seekFrail cX8_seekFrail 4 none) r_X8_seekFrail (va_Pc [.ref (ad 22), .int x1] (BW D (TYX cs) (WX ad cs) σ)) (QV D (TYX cs) (WX ad cs) (AX ad) res) 0 0 (AX ad) := by
  refine q_enter (by decide) hD (Nat.le_of_ble_eq_true rfl) ?_
  intro p e s m below meth c C hr hlk hP hS ls hl
  exact w_X8_seekFrail C hr hlk ⟨Nat.le_of_ble_eq_true rfl, Nat.le_of_ble_eq_true rfl⟩ hf hP hS hl

set_option maxRecDepth 100000 in
set_option maxHeartbeats 4000000 in
theorem w_X8_isFewer (C : CX p m c cX8_isFewer 2 s args RX8 D (TYX cs) (WX ad cs) (AX ad)) (hr : meth.sig.returnType = (some .boolean)) (hlk : meth.locks = false) (hR : 1 ≤ R.frames ∧ 20 ≤ R.locals) {σ : Sg} {x0 : Int32} {x1 : Int32} {res : Int32} (hf : f_X8_isFewer σ x0 x1 = some res) {H : Heap} {locs : List Loc} (hP : va_P D vwCl (WX ad cs σ) H) (hS : va_S (AX ad) s.heap H locs) {ls : Array Slot} (hl : lv_has ls 2 [(0, .int x0), (1, .int x1)]) : W p l e R s m args below meth c H locs 0 0 (MQ below (QI D (TYX cs) (WX ad cs) (AX ad) res σ) args s 0 0 (AX ad)) (F0 m 0 ls []) := by
  have hx := C.1.1
  have hb := C.1.2.1
  unfold f_X8_isFewer at hf
  refine lv_iload_n hx hb dX8_isFewer_0 rfl (lv_at hl 1 rfl) ?_
  refine lv_bipush (v := (-9)) hx hb dX8_isFewer_1 (by decide) ?_
  refine lv_icmp_eq (tgt := 17) hx hb dX8_isFewer_3 (by decide) (fun c1 => ?_) (fun c1 => ?_)
  · replace hf := zt c1 hf
    refine lv_iconst (v := 1) hx hb dX8_isFewer_17 (by decide) ?_
    refine lv_goto (tgt := 22) hx hb dX8_isFewer_18 (by decide) ?_
    exact q_zret C hr hlk hP hS (congrArg (fun q => (q, σ)) (Option.some.inj hf)) (by decide) dX8_isFewer_22
  · replace hf := zf c1 hf
    refine lv_iload_n hx hb dX8_isFewer_6 rfl (lv_at hl 0 rfl) ?_
    obtain ⟨r3, hg2, hf⟩ := zb hf
    try dsimp only at hf
    refine q_calli C hS (q_runS C hP (c_J6_bitCount_0f7a4 (l := l) C.2.2.1 hg2) (As := [.int x0]) (rest := []) ⟨gd_S k_469 k_470 k_57 k_471, ⟨rfl, rfl⟩, kd_J6_bitCount_0f7a4, ⟨Nat.le_trans (Nat.le_of_ble_eq_true rfl) hR.1, Nat.le_trans (Nat.le_of_ble_eq_true rfl) hR.2⟩⟩ rfl rfl (Nat.le_of_ble_eq_true rfl) hl.1 dX8_isFewer_7) (fun H locs hP hS => ?_)
    refine lv_iload_n hx hb dX8_isFewer_10 rfl (lv_at hl 1 rfl) ?_
    obtain ⟨r5, hg4, hf⟩ := zb hf
    try dsimp only at hf
    refine q_calli C hS (q_runS C hP (c_J6_bitCount_0f7a4 (l := l) C.2.2.1 hg4) (As := [.int x1]) (rest := [.int r3]) ⟨gd_S k_469 k_470 k_57 k_471, ⟨rfl, rfl⟩, kd_J6_bitCount_0f7a4, ⟨Nat.le_trans (Nat.le_of_ble_eq_true rfl) hR.1, Nat.le_trans (Nat.le_of_ble_eq_true rfl) hR.2⟩⟩ rfl rfl (Nat.le_of_ble_eq_true rfl) hl.1 dX8_isFewer_11) (fun H locs hP hS => ?_)
    refine lv_icmp_ge (tgt := 21) hx hb dX8_isFewer_14 (by decide) (fun c6 => ?_) (fun c6 => ?_)
    · replace hf := zt c6 hf
      refine lv_iconst (v := 0) hx hb dX8_isFewer_21 (by decide) ?_
      exact q_zret C hr hlk hP hS (congrArg (fun q => (q, σ)) (Option.some.inj hf)) (by decide) dX8_isFewer_22
    · replace hf := zf c6 hf
      refine lv_iconst (v := 1) hx hb dX8_isFewer_17 (by decide) ?_
      refine lv_goto (tgt := 22) hx hb dX8_isFewer_18 (by decide) ?_
      exact q_zret C hr hlk hP hS (congrArg (fun q => (q, σ)) (Option.some.inj hf)) (by decide) dX8_isFewer_22
theorem kd_X8_isFewer : yX8_isFewer.cls ≠ "java/lang/invoke/MethodHandle" ∧ yX8_isFewer.cls ≠ "java/lang/invoke/VarHandle" ∧ (parseMethodDescriptor yX8_isFewer.desc).map (fun d => d.parameters.length) = some 2 := by decide +kernel
def r_X8_isFewer : Room := { frames := 1, cells := 0, slots := 0, locals := 20 }
set_option maxRecDepth 100000 in
set_option maxHeartbeats 4000000 in
theorem c_X8_isFewer {l : Launch} {D : va_G} {ad : Nat → Nat} {cs : Nat → ClassId} (hD : ∀ σ, va_D (AX ad) (WX ad cs σ)) {σ : Sg} {x0 : Int32} {x1 : Int32} {res : Int32} (hf : f_X8_isFewer σ x0 x1 = some res) : Met l yX8_isFewer (wm yX8_isFewer cX8_isFewer 2 (some .boolean)) r_X8_isFewer (va_Pc [.int x0, .int x1] (BW D (TYX cs) (WX ad cs) σ)) (QI D (TYX cs) (WX ad cs) (AX ad) res σ) 0 0 (AX ad) := by
  refine q_enter (by decide) hD (Nat.le_of_ble_eq_true rfl) ?_
  intro p e s m below meth c C hr hlk hP hS ls hl
  exact w_X8_isFewer C hr hlk ⟨Nat.le_of_ble_eq_true rfl, Nat.le_of_ble_eq_true rfl⟩ hf hP hS hl

set_option maxRecDepth 100000 in
set_option maxHeartbeats 4000000 in
theorem w_X8_plotOn_5 (C : CX p m c cX8_plotOn 4 s args RX8 D (TYX cs) (WX ad cs) (AX ad)) (hr : meth.sig.returnType = (some .int)) (hlk : meth.locks = false) (hR : 4 ≤ R.frames ∧ 99 ≤ R.locals) {σ : Sg} {x1 : Int32} {x2 : Int32} {x3 : Int32} {res : Int32 × Sg} {ag5 : Int32 → Int32 → Sg → Option (Int32 × Sg)} (hag5 : ∀ (x2 : Int32) (x3 : Int32) (σ : Sg) (H : Heap) (locs : List Loc) (ls : Array Slot), ag5 x2 x3 σ = some res → va_P D vwCl (WX ad cs σ) H → va_S (AX ad) s.heap H locs → lv_has ls 4 [(0, .ref (ad 22)), (1, .int x1), (2, .int x2), (3, .int x3)] → W p l e R s m args below meth c H locs 0 0 (MQ below (QI D (TYX cs) (WX ad cs) (AX ad) res.1 res.2) args s 0 0 (AX ad)) (F0 m 5 ls [])) (hf : f_X8_plotOn_5 ag5 σ x1 x2 x3 = some res) {H : Heap} {locs : List Loc} (hP : va_P D vwCl (WX ad cs σ) H) (hS : va_S (AX ad) s.heap H locs) {ls : Array Slot} (hl : lv_has ls 4 [(0, .ref (ad 22)), (1, .int x1), (2, .int x2), (3, .int x3)]) : W p l e R s m args below meth c H locs 0 0 (MQ below (QI D (TYX cs) (WX ad cs) (AX ad) res.1 res.2) args s 0 0 (AX ad)) (F0 m 5 ls []) := by
  have hx := C.1.1
  have hb := C.1.2.1
  unfold f_X8_plotOn_5 at hf
  refine lv_iload_n hx hb dX8_plotOn_5 rfl (lv_at hl 3 rfl) ?_
  refine lv_aload_n hx hb dX8_plotOn_6 rfl (lv_at hl 0 rfl) ?_
  refine gX8_0 C hP k_194 dX8_plotOn_7 ?_
  obtain ⟨r2, hg1, hf⟩ := zb hf
  try dsimp only at hf
  refine q_calli C hS (q_runV C hP (c_X7_sets (l := l) C.2.2.1 hg1) (ci := 6) (As := []) (rest := [.int x3]) ⟨gd_V k_465 k_466 k_467 k_45 k_468, ⟨rfl, rfl⟩, kd_X7_sets, ⟨Nat.le_trans (Nat.le_of_ble_eq_true rfl) hR.1, Nat.le_trans (Nat.le_of_ble_eq_true rfl) hR.2⟩⟩ (o := 2) rfl rfl rfl rfl rfl (Nat.le_of_ble_eq_true rfl) hl.1 dX8_plotOn_10) (fun H locs hP hS => ?_)
  refine lv_icmp_ge (tgt := 60) hx hb dX8_plotOn_13 (by decide) (fun c3 => ?_) (fun c3 => ?_)
  · replace hf := zt c3 hf
    refine lv_iload_n hx hb dX8_plotOn_60 rfl (lv_at hl 2 rfl) ?_
    exact q_iret C hr hlk hP hS (Option.some.inj hf) dX8_plotOn_61
  · replace hf := zf c3 hf
    refine lv_aload_n hx hb dX8_plotOn_16 rfl (lv_at hl 0 rfl) ?_
    refine gX8_1 C hP k_195 dX8_plotOn_17 ?_
    refine lv_aload_n hx hb dX8_plotOn_20 rfl (lv_at hl 0 rfl) ?_
    refine gX8_0 C hP k_194 dX8_plotOn_21 ?_
    refine gX7_2N C hP k_122 dX8_plotOn_24 ?_
    refine lv_iload_n hx hb dX8_plotOn_27 rfl (lv_at hl 3 rfl) ?_
    obtain ⟨σ5, hg4, hf⟩ := zb hf
    try dsimp only at hf
    refine q_callv C hS (q_runV C hP (c_X3_workHourZero (l := l) C.2.2.1 hg4) (ci := 3) (As := [.int (σ 2 2), .int x3]) (rest := []) ⟨gd_V k_475 k_476 k_477 k_49 k_478, ⟨rfl, rfl⟩, kd_X3_workHourZero, ⟨Nat.le_trans (Nat.le_of_ble_eq_true rfl) hR.1, Nat.le_trans (Nat.le_of_ble_eq_true rfl) hR.2⟩⟩ (o := 19) rfl rfl rfl rfl rfl (Nat.le_of_ble_eq_true rfl) hl.1 dX8_plotOn_28) (fun H locs hP hS => ?_)
    refine lv_aload_n hx hb dX8_plotOn_31 rfl (lv_at hl 0 rfl) ?_
    refine gX8_1 C hP k_195 dX8_plotOn_32 ?_
    refine lv_iload_n hx hb dX8_plotOn_35 rfl (lv_at hl 1 rfl) ?_
    obtain ⟨r7, hg6, hf⟩ := zb hf
    try dsimp only at hf
    refine q_calli C hS (q_runV C hP (c_X3_serverOf (l := l) C.2.2.1 hg6) (ci := 3) (As := [.int x1]) (rest := []) ⟨gd_V k_488 k_415 k_416 k_49 k_417, ⟨rfl, rfl⟩, kd_X3_serverOf, ⟨Nat.le_trans (Nat.le_of_ble_eq_true rfl) hR.1, Nat.le_trans (Nat.le_of_ble_eq_true rfl) hR.2⟩⟩ (o := 19) rfl rfl rfl rfl rfl (Nat.le_of_ble_eq_true rfl) hl.1 dX8_plotOn_36) (fun H locs hP hS => ?_)
    refine lv_bipush (v := (-9)) hx hb dX8_plotOn_39 (by decide) ?_
    refine lv_icmp_ne (tgt := 54) hx hb dX8_plotOn_41 (by decide) (fun c8 => ?_) (fun c8 => ?_)
    · replace hf := zf c8 hf
      refine lv_iinc (v := x3 + 1) (lv' := [(3, .int (x3 + 1)), (0, .ref (ad 22)), (1, .int x1), (2, .int x2)]) hx hb dX8_plotOn_54 hl (k := 3) rfl rfl (by decide) rfl (fun ls hl => ?_)
      refine lv_goto (tgt := 5) hx hb dX8_plotOn_57 (by decide) ?_
      exact hag5 _ _ _ _ _ _ hf hP hS (lv_sub hl [1, 2, 3, 0] rfl)
    · replace hf := zt c8 hf
      refine lv_iload_n hx hb dX8_plotOn_44 rfl (lv_at hl 3 rfl) ?_
      refine lv_iload_n hx hb dX8_plotOn_45 rfl (lv_at hl 2 rfl) ?_
      obtain ⟨r10, hg9, hf⟩ := zb hf
      try dsimp only at hf
      refine q_calli C hS (q_runS C hP (c_X8_isFewer (l := l) C.2.2.1 hg9) (As := [.int x3, .int x2]) (rest := []) ⟨gd_S k_489 k_490 k_50 k_491, ⟨rfl, rfl⟩, kd_X8_isFewer, ⟨Nat.le_trans (Nat.le_of_ble_eq_true rfl) hR.1, Nat.le_trans (Nat.le_of_ble_eq_true rfl) hR.2⟩⟩ rfl rfl (Nat.le_of_ble_eq_true rfl) hl.1 dX8_plotOn_46) (fun H locs hP hS => ?_)
      refine lv_if_eq (tgt := 54) hx hb dX8_plotOn_49 (by decide) (fun c11 => ?_) (fun c11 => ?_)
      · replace hf := zt c11 hf
        refine lv_iinc (v := x3 + 1) (lv' := [(3, .int (x3 + 1)), (0, .ref (ad 22)), (1, .int x1), (2, .int x2)]) hx hb dX8_plotOn_54 hl (k := 3) rfl rfl (by decide) rfl (fun ls hl => ?_)
        refine lv_goto (tgt := 5) hx hb dX8_plotOn_57 (by decide) ?_
        exact hag5 _ _ _ _ _ _ hf hP hS (lv_sub hl [1, 2, 3, 0] rfl)
      · replace hf := zf c11 hf
        refine lv_iload_n hx hb dX8_plotOn_52 rfl (lv_at hl 3 rfl) ?_
        refine lv_istore_n (lv' := [(2, .int x3), (0, .ref (ad 22)), (1, .int x1), (3, .int x3)]) hx hb dX8_plotOn_53 rfl hl (by decide) rfl (fun ls hl => ?_)
        refine lv_iinc (v := x3 + 1) (lv' := [(3, .int (x3 + 1)), (2, .int x3), (0, .ref (ad 22)), (1, .int x1)]) hx hb dX8_plotOn_54 hl (k := 3) rfl rfl (by decide) rfl (fun ls hl => ?_)
        refine lv_goto (tgt := 5) hx hb dX8_plotOn_57 (by decide) ?_
        exact hag5 _ _ _ _ _ _ hf hP hS (lv_sub hl [2, 3, 1, 0] rfl)
set_option maxRecDepth 100000 in
set_option maxHeartbeats 4000000 in
theorem wl_X8_plotOn_5 (C : CX p m c cX8_plotOn 4 s args RX8 D (TYX cs) (WX ad cs) (AX ad)) (hr : meth.sig.returnType = (some .int)) (hlk : meth.locks = false) (hR : 4 ≤ R.frames ∧ 99 ≤ R.locals) {x1 : Int32} {res : Int32 × Sg} : ∀ n : Nat, ∀ (x2 : Int32) (x3 : Int32) (σ : Sg) (H : Heap) (locs : List Loc) (ls : Array Slot), l_X8_plotOn_5 x1 n x2 x3 σ = some res → va_P D vwCl (WX ad cs σ) H → va_S (AX ad) s.heap H locs → lv_has ls 4 [(0, .ref (ad 22)), (1, .int x1), (2, .int x2), (3, .int x3)] → W p l e R s m args below meth c H locs 0 0 (MQ below (QI D (TYX cs) (WX ad cs) (AX ad) res.1 res.2) args s 0 0 (AX ad)) (F0 m 5 ls []) := by
  intro n
  induction n with
  | zero => intro x2 x3 σ H locs ls hf; cases hf
  | succ n ih =>
    intro x2 x3 σ H locs ls hf hP hS hl
    exact w_X8_plotOn_5 C hr hlk hR (ag5 := l_X8_plotOn_5 x1 n) ih hf hP hS hl
set_option maxRecDepth 100000 in
set_option maxHeartbeats 4000000 in
theorem w_X8_plotOn (C : CX p m c cX8_plotOn 4 s args RX8 D (TYX cs) (WX ad cs) (AX ad)) (hr : meth.sig.returnType = (some .int)) (hlk : meth.locks = false) (hR : 4 ≤ R.frames ∧ 99 ≤ R.locals) {σ : Sg} {x1 : Int32} {res : Int32 × Sg} (hf : f_X8_plotOn σ x1 = some res) {H : Heap} {locs : List Loc} (hP : va_P D vwCl (WX ad cs σ) H) (hS : va_S (AX ad) s.heap H locs) {ls : Array Slot} (hl : lv_has ls 4 [(0, .ref (ad 22)), (1, .int x1)]) : W p l e R s m args below meth c H locs 0 0 (MQ below (QI D (TYX cs) (WX ad cs) (AX ad) res.1 res.2) args s 0 0 (AX ad)) (F0 m 0 ls []) := by
  have hx := C.1.1
  have hb := C.1.2.1
  unfold f_X8_plotOn at hf
  refine lv_bipush (v := (-9)) hx hb dX8_plotOn_0 (by decide) ?_
  refine lv_istore_n (lv' := [(2, .int (-9)), (0, .ref (ad 22)), (1, .int x1)]) hx hb dX8_plotOn_2 rfl hl (by decide) rfl (fun ls hl => ?_)
  refine lv_iconst (v := 0) hx hb dX8_plotOn_3 (by decide) ?_
  refine lv_istore_n (lv' := [(3, .int 0), (2, .int (-9)), (0, .ref (ad 22)), (1, .int x1)]) hx hb dX8_plotOn_4 rfl hl (by decide) rfl (fun ls hl => ?_)
  exact wl_X8_plotOn_5 C hr hlk hR fu _ _ _ _ _ _ hf hP hS (lv_sub hl [2, 3, 1, 0] rfl)
theorem kd_X8_plotOn : yX8_plotOn.cls = RX8 ∧ yX8_plotOn.cls ≠ "java/lang/invoke/MethodHandle" ∧ yX8_plotOn.cls ≠ "java/lang/invoke/VarHandle" ∧ (parseMethodDescriptor yX8_plotOn.desc).map (fun d => d.parameters.length) = some 1 := by decide +kernel
def r_X8_plotOn : Room := { frames := 4, cells := 0, slots := 0, locals := 99 }
set_option maxRecDepth 100000 in
set_option maxHeartbeats 4000000 in
theorem c_X8_plotOn {l : Launch} {D : va_G} {ad : Nat → Nat} {cs : Nat → ClassId} (hD : ∀ σ, va_D (AX ad) (WX ad cs σ)) {σ : Sg} {x1 : Int32} {res : Int32 × Sg} (hf : f_X8_plotOn σ x1 = some res) : Met l yX8_plotOn (wm yX8_plotOn cX8_plotOn 4 (some .int)) r_X8_plotOn (va_Pc [.ref (ad 22), .int x1] (BW D (TYX cs) (WX ad cs) σ)) (QI D (TYX cs) (WX ad cs) (AX ad) res.1 res.2) 0 0 (AX ad) := by
  refine q_enter (by decide) hD (Nat.le_of_ble_eq_true rfl) ?_
  intro p e s m below meth c C hr hlk hP hS ls hl
  exact w_X8_plotOn C hr hlk ⟨Nat.le_of_ble_eq_true rfl, Nat.le_of_ble_eq_true rfl⟩ hf hP hS hl

set_option maxRecDepth 100000 in
set_option maxHeartbeats 4000000 in
theorem w_X8_keepMend (C : CX p m c cX8_keepMend 2 s args RX8 D (TYX cs) (WX ad cs) (AX ad)) (hr : meth.sig.returnType = none) (hlk : meth.locks = false) (hR : 0 ≤ R.frames ∧ 0 ≤ R.locals) {σ : Sg} {x1 : Int32} {res : Sg} (hf : f_X8_keepMend σ x1 = some res) {H : Heap} {locs : List Loc} (hP : va_P D vwCl (WX ad cs σ) H) (hS : va_S (AX ad) s.heap H locs) {ls : Array Slot} (hl : lv_has ls 2 [(0, .ref (ad 22)), (1, .int x1)]) : W p l e R s m args below meth c H locs 0 0 (MQ below (QV D (TYX cs) (WX ad cs) (AX ad) res) args s 0 0 (AX ad)) (F0 m 0 ls []) := by
  have hx := C.1.1
  have hb := C.1.2.1
  unfold f_X8_keepMend at hf
  refine lv_aload_n hx hb dX8_keepMend_0 rfl (lv_at hl 0 rfl) ?_
  refine gX8_3 C hP k_198 dX8_keepMend_1 ?_
  refine lv_aload_n hx hb dX8_keepMend_4 rfl (lv_at hl 0 rfl) ?_
  refine gX8_5 C hP k_202 dX8_keepMend_5 ?_
  refine lv_icmp_ge (tgt := 24) hx hb dX8_keepMend_8 (by decide) (fun c1 => ?_) (fun c1 => ?_)
  · replace hf := zt c1 hf
    exact q_vret C hr hlk hP hS (Option.some.inj hf) dX8_keepMend_24
  · replace hf := zf c1 hf
    refine lv_aload_n hx hb dX8_keepMend_11 rfl (lv_at hl 0 rfl) ?_
    refine lv_iload_n hx hb dX8_keepMend_12 rfl (lv_at hl 1 rfl) ?_
    refine pX8_4 C hP hS k_200 dX8_keepMend_13 (fun H locs hP hS => ?_)
    refine lv_aload_n hx hb dX8_keepMend_16 rfl (lv_at hl 0 rfl) ?_
    refine lv_aload_n hx hb dX8_keepMend_17 rfl (lv_at hl 0 rfl) ?_
    refine gX8_3 C hP k_198 dX8_keepMend_18 ?_
    refine pX8_5 C hP hS k_202 dX8_keepMend_21 (fun H locs hP hS => ?_)
    exact q_vret C hr hlk hP hS (Option.some.inj hf) dX8_keepMend_24
theorem kd_X8_keepMend : yX8_keepMend.cls = RX8 ∧ yX8_keepMend.cls ≠ "java/lang/invoke/MethodHandle" ∧ yX8_keepMend.cls ≠ "java/lang/invoke/VarHandle" ∧ (parseMethodDescriptor yX8_keepMend.desc).map (fun d => d.parameters.length) = some 1 := by decide +kernel
def r_X8_keepMend : Room := { frames := 0, cells := 0, slots := 0, locals := 0 }
set_option maxRecDepth 100000 in
set_option maxHeartbeats 4000000 in
theorem c_X8_keepMend {l : Launch} {D : va_G} {ad : Nat → Nat} {cs : Nat → ClassId} (hD : ∀ σ, va_D (AX ad) (WX ad cs σ)) {σ : Sg} {x1 : Int32} {res : Sg} (hf : f_X8_keepMend σ x1 = some res) : Met l yX8_keepMend (wm yX8_keepMend cX8_keepMend 2 none) r_X8_keepMend (va_Pc [.ref (ad 22), .int x1] (BW D (TYX cs) (WX ad cs) σ)) (QV D (TYX cs) (WX ad cs) (AX ad) res) 0 0 (AX ad) := by
  refine q_enter (by decide) hD (Nat.le_of_ble_eq_true rfl) ?_
  intro p e s m below meth c C hr hlk hP hS ls hl
  exact w_X8_keepMend C hr hlk ⟨Nat.le_of_ble_eq_true rfl, Nat.le_of_ble_eq_true rfl⟩ hf hP hS hl

set_option maxRecDepth 100000 in
set_option maxHeartbeats 4000000 in
theorem w_X8_seekMend_58 (C : CX p m c cX8_seekMend 5 s args RX8 D (TYX cs) (WX ad cs) (AX ad)) (hr : meth.sig.returnType = none) (hlk : meth.locks = false) (hR : 5 ≤ R.frames ∧ 122 ≤ R.locals) {σ : Sg} {x1 : Int32} {x2 : Option Nat} {x3 : Int32} {x4 : Int32} {res : Sg} {ag21 : Int32 → Sg → Option (Sg)} (hag21 : ∀ (x1 : Int32) (σ : Sg) (H : Heap) (locs : List Loc) (ls : Array Slot), ag21 x1 σ = some res → va_P D vwCl (WX ad cs σ) H → va_S (AX ad) s.heap H locs → lv_has ls 5 [(0, .ref (ad 22)), (1, .int x1)] → W p l e R s m args below meth c H locs 0 0 (MQ below (QV D (TYX cs) (WX ad cs) (AX ad) res) args s 0 0 (AX ad)) (F0 m 21 ls [])) {ag58 : Int32 → Sg → Option (Sg)} (hag58 : ∀ (x4 : Int32) (σ : Sg) (H : Heap) (locs : List Loc) (ls : Array Slot), ag58 x4 σ = some res → va_P D vwCl (WX ad cs σ) H → va_S (AX ad) s.heap H locs → lv_has ls 5 [(0, .ref (ad 22)), (1, .int x1), (2, va_rf (Option.map (fun t => ad (4 + t)) x2)), (3, .int x3), (4, .int x4)] → W p l e R s m args below meth c H locs 0 0 (MQ below (QV D (TYX cs) (WX ad cs) (AX ad) res) args s 0 0 (AX ad)) (F0 m 58 ls [])) (hf : f_X8_seekMend_58 ag21 ag58 σ x1 x2 x3 x4 = some res) {H : Heap} {locs : List Loc} (hP : va_P D vwCl (WX ad cs σ) H) (hS : va_S (AX ad) s.heap H locs) {ls : Array Slot} (hl : lv_has ls 5 [(0, .ref (ad 22)), (1, .int x1), (2, va_rf (Option.map (fun t => ad (4 + t)) x2)), (3, .int x3), (4, .int x4)]) : W p l e R s m args below meth c H locs 0 0 (MQ below (QV D (TYX cs) (WX ad cs) (AX ad) res) args s 0 0 (AX ad)) (F0 m 58 ls []) := by
  have hx := C.1.1
  have hb := C.1.2.1
  unfold f_X8_seekMend_58 at hf
  refine lv_iload hx hb dX8_seekMend_58 (lv_at hl 4 rfl) ?_
  refine lv_aload_n hx hb dX8_seekMend_60 rfl (lv_at hl 0 rfl) ?_
  refine gX8_0 C hP k_194 dX8_seekMend_61 ?_
  refine gX7_1N C hP k_118 dX8_seekMend_64 ?_
  refine lv_icmp_ge (tgt := 126) hx hb dX8_seekMend_67 (by decide) (fun c1 => ?_) (fun c1 => ?_)
  · replace hf := zt c1 hf
    refine lv_iinc (v := x1 + 1) (lv' := [(1, .int (x1 + 1)), (0, .ref (ad 22)), (2, va_rf (Option.map (fun t => ad (4 + t)) x2)), (3, .int x3), (4, .int x4)]) hx hb dX8_seekMend_126 hl (k := 1) rfl rfl (by decide) rfl (fun ls hl => ?_)
    refine lv_goto (tgt := 21) hx hb dX8_seekMend_129 (by decide) ?_
    exact hag21 _ _ _ _ _ hf hP hS (lv_sub hl [1, 0] rfl)
  · replace hf := zf c1 hf
    refine q_aloadq_n C dX8_seekMend_70 rfl (lv_at hl 2 rfl) ?_
    rcases x2 with _ | t2
    · refine lv_ifnullN (tgt := 126) hx hb dX8_seekMend_71 (by decide) ?_
      try dsimp only at hf
      refine lv_iinc (v := x1 + 1) (lv' := [(1, .int (x1 + 1)), (0, .ref (ad 22)), (2, .null), (3, .int x3), (4, .int x4)]) hx hb dX8_seekMend_126 hl (k := 1) rfl rfl (by decide) rfl (fun ls hl => ?_)
      refine lv_goto (tgt := 21) hx hb dX8_seekMend_129 (by decide) ?_
      exact hag21 _ _ _ _ _ hf hP hS (lv_sub hl [1, 0] rfl)
    · refine lv_ifnull hx hb dX8_seekMend_71 ?_
      try dsimp only at hf
      refine lv_aload_n hx hb dX8_seekMend_74 rfl (lv_at hl 0 rfl) ?_
      refine gX8_5 C hP k_202 dX8_seekMend_75 ?_
      refine lv_if_le (tgt := 126) hx hb dX8_seekMend_78 (by decide) (fun c3 => ?_) (fun c3 => ?_)
      · replace hf := zt c3 hf
        refine lv_iinc (v := x1 + 1) (lv' := [(1, .int (x1 + 1)), (0, .ref (ad 22)), (2, .ref (ad (4 + t2))), (3, .int x3), (4, .int x4)]) hx hb dX8_seekMend_126 hl (k := 1) rfl rfl (by decide) rfl (fun ls hl => ?_)
        refine lv_goto (tgt := 21) hx hb dX8_seekMend_129 (by decide) ?_
        exact hag21 _ _ _ _ _ hf hP hS (lv_sub hl [1, 0] rfl)
      · replace hf := zf c3 hf
        refine lv_iload hx hb dX8_seekMend_81 (lv_at hl 4 rfl) ?_
        refine lv_iload_n hx hb dX8_seekMend_83 rfl (lv_at hl 1 rfl) ?_
        refine lv_icmp_eq (tgt := 120) hx hb dX8_seekMend_84 (by decide) (fun c4 => ?_) (fun c4 => ?_)
        · replace hf := zt c4 hf
          refine lv_iinc (v := x4 + 1) (lv' := [(4, .int (x4 + 1)), (0, .ref (ad 22)), (1, .int x1), (2, .ref (ad (4 + t2))), (3, .int x3)]) hx hb dX8_seekMend_120 hl (k := 4) rfl rfl (by decide) rfl (fun ls hl => ?_)
          refine lv_goto (tgt := 58) hx hb dX8_seekMend_123 (by decide) ?_
          exact hag58 _ _ _ _ _ hf hP hS (lv_sub hl [1, 2, 3, 4, 0] rfl)
        · replace hf := zf c4 hf
          refine lv_iload hx hb dX8_seekMend_87 (lv_at hl 4 rfl) ?_
          refine lv_iload_n hx hb dX8_seekMend_89 rfl (lv_at hl 3 rfl) ?_
          refine lv_icmp_eq (tgt := 120) hx hb dX8_seekMend_90 (by decide) (fun c5 => ?_) (fun c5 => ?_)
          · replace hf := zt c5 hf
            refine lv_iinc (v := x4 + 1) (lv' := [(4, .int (x4 + 1)), (0, .ref (ad 22)), (1, .int x1), (2, .ref (ad (4 + t2))), (3, .int x3)]) hx hb dX8_seekMend_120 hl (k := 4) rfl rfl (by decide) rfl (fun ls hl => ?_)
            refine lv_goto (tgt := 58) hx hb dX8_seekMend_123 (by decide) ?_
            exact hag58 _ _ _ _ _ hf hP hS (lv_sub hl [1, 2, 3, 4, 0] rfl)
          · replace hf := zf c5 hf
            refine lv_aload_n hx hb dX8_seekMend_93 rfl (lv_at hl 2 rfl) ?_
            refine lv_iload hx hb dX8_seekMend_94 (lv_at hl 4 rfl) ?_
            obtain ⟨h6, hf⟩ := zc hf
            refine pX6_2N C hP h6 hS k_90 dX8_seekMend_96 (fun H locs hP hS => ?_)
            refine lv_aload_n hx hb dX8_seekMend_99 rfl (lv_at hl 0 rfl) ?_
            refine lv_iconst (v := 2) hx hb dX8_seekMend_100 (by decide) ?_
            obtain ⟨σ8, hg7, hf⟩ := zb hf
            try dsimp only at hf
            refine q_callv C hS (q_runV C hP (c_X8_seekFrail (l := l) C.2.2.1 hg7) (ci := 7) (As := [.int 2]) (rest := []) ⟨gd_V k_500 k_462 k_463 k_50 k_464, ⟨rfl, rfl⟩, kd_X8_seekFrail, ⟨Nat.le_trans (Nat.le_of_ble_eq_true rfl) hR.1, Nat.le_trans (Nat.le_of_ble_eq_true rfl) hR.2⟩⟩ (o := 22) rfl rfl rfl rfl rfl (Nat.le_of_ble_eq_true rfl) hl.1 dX8_seekMend_101) (fun H locs hP hS => ?_)
            refine lv_aload_n hx hb dX8_seekMend_104 rfl (lv_at hl 0 rfl) ?_
            refine lv_bipush (v := 10) hx hb dX8_seekMend_105 (by decide) ?_
            refine lv_iload_n hx hb dX8_seekMend_107 rfl (lv_at hl 1 rfl) ?_
            refine lv_imul hx hb dX8_seekMend_108 ?_
            refine lv_iload hx hb dX8_seekMend_109 (lv_at hl 4 rfl) ?_
            refine lv_iadd hx hb dX8_seekMend_111 ?_
            obtain ⟨σ10, hg9, hf⟩ := zb hf
            try dsimp only at hf
            refine q_callv C hS (q_runV C hP (c_X8_keepMend (l := l) C.2.2.1 hg9) (ci := 7) (As := [.int (((10 : Int32) * x1) + x4)]) (rest := []) ⟨gd_V k_502 k_504 k_6 k_50 k_505, ⟨rfl, rfl⟩, kd_X8_keepMend, ⟨Nat.le_trans (Nat.le_of_ble_eq_true rfl) hR.1, Nat.le_trans (Nat.le_of_ble_eq_true rfl) hR.2⟩⟩ (o := 22) rfl rfl rfl rfl rfl (Nat.le_of_ble_eq_true rfl) hl.1 dX8_seekMend_112) (fun H locs hP hS => ?_)
            refine lv_aload_n hx hb dX8_seekMend_115 rfl (lv_at hl 2 rfl) ?_
            refine lv_iload_n hx hb dX8_seekMend_116 rfl (lv_at hl 3 rfl) ?_
            refine pX6_2N C hP h6 hS k_90 dX8_seekMend_117 (fun H locs hP hS => ?_)
            refine lv_iinc (v := x4 + 1) (lv' := [(4, .int (x4 + 1)), (0, .ref (ad 22)), (1, .int x1), (2, .ref (ad (4 + t2))), (3, .int x3)]) hx hb dX8_seekMend_120 hl (k := 4) rfl rfl (by decide) rfl (fun ls hl => ?_)
            refine lv_goto (tgt := 58) hx hb dX8_seekMend_123 (by decide) ?_
            exact hag58 _ _ _ _ _ hf hP hS (lv_sub hl [1, 2, 3, 4, 0] rfl)
set_option maxRecDepth 100000 in
set_option maxHeartbeats 4000000 in
theorem wl_X8_seekMend_58 (C : CX p m c cX8_seekMend 5 s args RX8 D (TYX cs) (WX ad cs) (AX ad)) (hr : meth.sig.returnType = none) (hlk : meth.locks = false) (hR : 5 ≤ R.frames ∧ 122 ≤ R.locals) {x1 : Int32} {x2 : Option Nat} {x3 : Int32} {res : Sg} {ag21 : Int32 → Sg → Option (Sg)} (hag21 : ∀ (x1 : Int32) (σ : Sg) (H : Heap) (locs : List Loc) (ls : Array Slot), ag21 x1 σ = some res → va_P D vwCl (WX ad cs σ) H → va_S (AX ad) s.heap H locs → lv_has ls 5 [(0, .ref (ad 22)), (1, .int x1)] → W p l e R s m args below meth c H locs 0 0 (MQ below (QV D (TYX cs) (WX ad cs) (AX ad) res) args s 0 0 (AX ad)) (F0 m 21 ls [])) : ∀ n : Nat, ∀ (x4 : Int32) (σ : Sg) (H : Heap) (locs : List Loc) (ls : Array Slot), l_X8_seekMend_58 ag21 x1 x2 x3 n x4 σ = some res → va_P D vwCl (WX ad cs σ) H → va_S (AX ad) s.heap H locs → lv_has ls 5 [(0, .ref (ad 22)), (1, .int x1), (2, va_rf (Option.map (fun t => ad (4 + t)) x2)), (3, .int x3), (4, .int x4)] → W p l e R s m args below meth c H locs 0 0 (MQ below (QV D (TYX cs) (WX ad cs) (AX ad) res) args s 0 0 (AX ad)) (F0 m 58 ls []) := by
  intro n
  induction n with
  | zero => intro x4 σ H locs ls hf; cases hf
  | succ n ih =>
    intro x4 σ H locs ls hf hP hS hl
    exact w_X8_seekMend_58 C hr hlk hR hag21 (ag58 := l_X8_seekMend_58 ag21 x1 x2 x3 n) ih hf hP hS hl
set_option maxRecDepth 100000 in
set_option maxHeartbeats 4000000 in
theorem w_X8_seekMend_21 (C : CX p m c cX8_seekMend 5 s args RX8 D (TYX cs) (WX ad cs) (AX ad)) (hr : meth.sig.returnType = none) (hlk : meth.locks = false) (hR : 5 ≤ R.frames ∧ 122 ≤ R.locals) {σ : Sg} {x1 : Int32} {res : Sg} {ag21 : Int32 → Sg → Option (Sg)} (hag21 : ∀ (x1 : Int32) (σ : Sg) (H : Heap) (locs : List Loc) (ls : Array Slot), ag21 x1 σ = some res → va_P D vwCl (WX ad cs σ) H → va_S (AX ad) s.heap H locs → lv_has ls 5 [(0, .ref (ad 22)), (1, .int x1)] → W p l e R s m args below meth c H locs 0 0 (MQ below (QV D (TYX cs) (WX ad cs) (AX ad) res) args s 0 0 (AX ad)) (F0 m 21 ls [])) (hf : f_X8_seekMend_21 ag21 σ x1 = some res) {H : Heap} {locs : List Loc} (hP : va_P D vwCl (WX ad cs σ) H) (hS : va_S (AX ad) s.heap H locs) {ls : Array Slot} (hl : lv_has ls 5 [(0, .ref (ad 22)), (1, .int x1)]) : W p l e R s m args below meth c H locs 0 0 (MQ below (QV D (TYX cs) (WX ad cs) (AX ad) res) args s 0 0 (AX ad)) (F0 m 21 ls []) := by
  have hx := C.1.1
  have hb := C.1.2.1
  unfold f_X8_seekMend_21 at hf
  refine lv_iload_n hx hb dX8_seekMend_21 rfl (lv_at hl 1 rfl) ?_
  refine lv_aload_n hx hb dX8_seekMend_22 rfl (lv_at hl 0 rfl) ?_
  refine gX8_0 C hP k_194 dX8_seekMend_23 ?_
  refine gX7_1N C hP k_118 dX8_seekMend_26 ?_
  refine lv_icmp_ge (tgt := 132) hx hb dX8_seekMend_29 (by decide) (fun c1 => ?_) (fun c1 => ?_)
  · replace hf := zt c1 hf
    exact q_vret C hr hlk hP hS (Option.some.inj hf) dX8_seekMend_132
  · replace hf := zf c1 hf
    refine lv_aload_n hx hb dX8_seekMend_32 rfl (lv_at hl 0 rfl) ?_
    refine gX8_0 C hP k_194 dX8_seekMend_33 ?_
    refine lv_iload_n hx hb dX8_seekMend_36 rfl (lv_at hl 1 rfl) ?_
    obtain ⟨r3, hg2, hf⟩ := zb hf
    try dsimp only at hf
    refine q_callr C hS (q_runV C hP (c_X7_thingAt (l := l) C.2.2.1 hg2) (ci := 6) (As := [.int x1]) (rest := []) ⟨gd_V k_501 k_340 k_341 k_45 k_342, ⟨rfl, rfl⟩, kd_X7_thingAt, ⟨Nat.le_trans (Nat.le_of_ble_eq_true rfl) hR.1, Nat.le_trans (Nat.le_of_ble_eq_true rfl) hR.2⟩⟩ (o := 2) rfl rfl rfl rfl rfl (Nat.le_of_ble_eq_true rfl) hl.1 dX8_seekMend_37) (fun H locs hP hS => ?_)
    refine q_astoreq_n (lv' := [(2, va_rf (Option.map (fun t => ad (4 + t)) r3)), (0, .ref (ad 22)), (1, .int x1)]) C dX8_seekMend_40 rfl hl (by decide) rfl (fun ls hl => ?_)
    refine q_aloadq_n C dX8_seekMend_41 rfl (lv_at hl 0 rfl) ?_
    rcases r3 with _ | t4
    · refine lv_ifnonnullN hx hb dX8_seekMend_42 ?_
      try dsimp only at hf
      refine lv_bipush (v := (-9)) hx hb dX8_seekMend_45 (by decide) ?_
      refine lv_goto (tgt := 54) hx hb dX8_seekMend_47 (by decide) ?_
      refine lv_istore_n (lv' := [(3, .int (-9)), (2, .null), (0, .ref (ad 22)), (1, .int x1)]) hx hb dX8_seekMend_54 rfl hl (by decide) rfl (fun ls hl => ?_)
      refine lv_iconst (v := 0) hx hb dX8_seekMend_55 (by decide) ?_
      refine lv_istore (lv' := [(4, .int 0), (3, .int (-9)), (2, .null), (0, .ref (ad 22)), (1, .int x1)]) hx hb dX8_seekMend_56 hl (by decide) rfl (fun ls hl => ?_)
      exact wl_X8_seekMend_58 C hr hlk hR hag21 fu _ _ _ _ _ hf hP hS (lv_sub hl [3, 4, 2, 1, 0] rfl)
    · refine lv_ifnonnull (tgt := 50) hx hb dX8_seekMend_42 (by decide) ?_
      try dsimp only at hf
      refine lv_aload_n hx hb dX8_seekMend_50 rfl (lv_at hl 0 rfl) ?_
      obtain ⟨h5, hf⟩ := zc hf
      refine gX6_2N C hP h5 k_90 dX8_seekMend_51 ?_
      refine lv_istore_n (lv' := [(3, .int (σ (4 + t4) 2)), (2, .ref (ad (4 + t4))), (0, .ref (ad 22)), (1, .int x1)]) hx hb dX8_seekMend_54 rfl hl (by decide) rfl (fun ls hl => ?_)
      refine lv_iconst (v := 0) hx hb dX8_seekMend_55 (by decide) ?_
      refine lv_istore (lv' := [(4, .int 0), (3, .int (σ (4 + t4) 2)), (2, .ref (ad (4 + t4))), (0, .ref (ad 22)), (1, .int x1)]) hx hb dX8_seekMend_56 hl (by decide) rfl (fun ls hl => ?_)
      exact wl_X8_seekMend_58 C hr hlk hR hag21 fu _ _ _ _ _ hf hP hS (lv_sub hl [3, 4, 2, 1, 0] rfl)
set_option maxRecDepth 100000 in
set_option maxHeartbeats 4000000 in
theorem wl_X8_seekMend_21 (C : CX p m c cX8_seekMend 5 s args RX8 D (TYX cs) (WX ad cs) (AX ad)) (hr : meth.sig.returnType = none) (hlk : meth.locks = false) (hR : 5 ≤ R.frames ∧ 122 ≤ R.locals)  {res : Sg} : ∀ n : Nat, ∀ (x1 : Int32) (σ : Sg) (H : Heap) (locs : List Loc) (ls : Array Slot), l_X8_seekMend_21 n x1 σ = some res → va_P D vwCl (WX ad cs σ) H → va_S (AX ad) s.heap H locs → lv_has ls 5 [(0, .ref (ad 22)), (1, .int x1)] → W p l e R s m args below meth c H locs 0 0 (MQ below (QV D (TYX cs) (WX ad cs) (AX ad) res) args s 0 0 (AX ad)) (F0 m 21 ls []) := by
  intro n
  induction n with
  | zero => intro x1 σ H locs ls hf; cases hf
  | succ n ih =>
    intro x1 σ H locs ls hf hP hS hl
    exact w_X8_seekMend_21 C hr hlk hR (ag21 := l_X8_seekMend_21 n) ih hf hP hS hl
set_option maxRecDepth 100000 in
set_option maxHeartbeats 4000000 in
theorem w_X8_seekMend (C : CX p m c cX8_seekMend 5 s args RX8 D (TYX cs) (WX ad cs) (AX ad)) (hr : meth.sig.returnType = none) (hlk : meth.locks = false) (hR : 5 ≤ R.frames ∧ 122 ≤ R.locals) {σ : Sg}  {res : Sg} (hf : f_X8_seekMend σ = some res) {H : Heap} {locs : List Loc} (hP : va_P D vwCl (WX ad cs σ) H) (hS : va_S (AX ad) s.heap H locs) {ls : Array Slot} (hl : lv_has ls 5 [(0, .ref (ad 22))]) : W p l e R s m args below meth c H locs 0 0 (MQ below (QV D (TYX cs) (WX ad cs) (AX ad) res) args s 0 0 (AX ad)) (F0 m 0 ls []) := by
  have hx := C.1.1
  have hb := C.1.2.1
  unfold f_X8_seekMend at hf
  refine lv_aload_n hx hb dX8_seekMend_0 rfl (lv_at hl 0 rfl) ?_
  refine lv_iconst (v := 2) hx hb dX8_seekMend_1 (by decide) ?_
  obtain ⟨σ2, hg1, hf⟩ := zb hf
  try dsimp only at hf
  refine q_callv C hS (q_runV C hP (c_X8_seekFrail (l := l) C.2.2.1 hg1) (ci := 7) (As := [.int 2]) (rest := []) ⟨gd_V k_500 k_462 k_463 k_50 k_464, ⟨rfl, rfl⟩, kd_X8_seekFrail, ⟨Nat.le_trans (Nat.le_of_ble_eq_true rfl) hR.1, Nat.le_trans (Nat.le_of_ble_eq_true rfl) hR.2⟩⟩ (o := 22) rfl rfl rfl rfl rfl (Nat.le_of_ble_eq_true rfl) hl.1 dX8_seekMend_2) (fun H locs hP hS => ?_)
  refine lv_aload_n hx hb dX8_seekMend_5 rfl (lv_at hl 0 rfl) ?_
  refine lv_bipush (v := (-9)) hx hb dX8_seekMend_6 (by decide) ?_
  refine pX8_4 C hP hS k_200 dX8_seekMend_8 (fun H locs hP hS => ?_)
  refine lv_aload_n hx hb dX8_seekMend_11 rfl (lv_at hl 0 rfl) ?_
  refine lv_aload_n hx hb dX8_seekMend_12 rfl (lv_at hl 0 rfl) ?_
  refine gX8_3 C hP k_198 dX8_seekMend_13 ?_
  refine pX8_5 C hP hS k_202 dX8_seekMend_16 (fun H locs hP hS => ?_)
  refine lv_iconst (v := 0) hx hb dX8_seekMend_19 (by decide) ?_
  refine lv_istore_n (lv' := [(1, .int 0), (0, .ref (ad 22))]) hx hb dX8_seekMend_20 rfl hl (by decide) rfl (fun ls hl => ?_)
  exact wl_X8_seekMend_21 C hr hlk hR fu _ _ _ _ _ hf hP hS (lv_sub hl [1, 0] rfl)
theorem kd_X8_seekMend : yX8_seekMend.cls = RX8 ∧ yX8_seekMend.cls ≠ "java/lang/invoke/MethodHandle" ∧ yX8_seekMend.cls ≠ "java/lang/invoke/VarHandle" ∧ (parseMethodDescriptor yX8_seekMend.desc).map (fun d => d.parameters.length) = some 0 := by decide +kernel
def r_X8_seekMend : Room := { frames := 5, cells := 0, slots := 0, locals := 122 }
set_option maxRecDepth 100000 in
set_option maxHeartbeats 4000000 in
theorem c_X8_seekMend {l : Launch} {D : va_G} {ad : Nat → Nat} {cs : Nat → ClassId} (hD : ∀ σ, va_D (AX ad) (WX ad cs σ)) {σ : Sg}  {res : Sg} (hf : f_X8_seekMend σ = some res) : Met l yX8_seekMend (wm yX8_seekMend cX8_seekMend 5 none) r_X8_seekMend (va_Pc [.ref (ad 22)] (BW D (TYX cs) (WX ad cs) σ)) (QV D (TYX cs) (WX ad cs) (AX ad) res) 0 0 (AX ad) := by
  refine q_enter (by decide) hD (Nat.le_of_ble_eq_true rfl) ?_
  intro p e s m below meth c C hr hlk hP hS ls hl
  exact w_X8_seekMend C hr hlk ⟨Nat.le_of_ble_eq_true rfl, Nat.le_of_ble_eq_true rfl⟩ hf hP hS hl

set_option maxRecDepth 100000 in
set_option maxHeartbeats 4000000 in
theorem w_X8_seekFailed_107 (C : CX p m c cX8_seekFailed 3 s args RX8 D (TYX cs) (WX ad cs) (AX ad)) (hr : meth.sig.returnType = none) (hlk : meth.locks = false) (hR : 4 ≤ R.frames ∧ 99 ≤ R.locals) {σ : Sg} {x2 : Int32} {s0 : Int32} {res : Sg} {ag19 : Int32 → Sg → Option (Sg)} (hag19 : ∀ (x2 : Int32) (σ : Sg) (H : Heap) (locs : List Loc) (ls : Array Slot), ag19 x2 σ = some res → va_P D vwCl (WX ad cs σ) H → va_S (AX ad) s.heap H locs → lv_has ls 3 [(0, .ref (ad 22)), (1, .ref (ad 16)), (2, .int x2)] → W p l e R s m args below meth c H locs 0 0 (MQ below (QV D (TYX cs) (WX ad cs) (AX ad) res) args s 0 0 (AX ad)) (F0 m 19 ls [])) (hf : f_X8_seekFailed_107 ag19 σ x2 s0 = some res) {H : Heap} {locs : List Loc} (hP : va_P D vwCl (WX ad cs σ) H) (hS : va_S (AX ad) s.heap H locs) {ls : Array Slot} (hl : lv_has ls 3 [(0, .ref (ad 22)), (1, .ref (ad 16)), (2, .int x2)]) : W p l e R s m args below meth c H locs 0 0 (MQ below (QV D (TYX cs) (WX ad cs) (AX ad) res) args s 0 0 (AX ad)) (F0 m 107 ls [.int s0, .ref (ad 22)]) := by
  have hx := C.1.1
  have hb := C.1.2.1
  unfold f_X8_seekFailed_107 at hf
  refine pX8_7 C hP hS k_206 dX8_seekFailed_107 (fun H locs hP hS => ?_)
  refine lv_iinc (v := x2 + 1) (lv' := [(2, .int (x2 + 1)), (0, .ref (ad 22)), (1, .ref (ad 16))]) hx hb dX8_seekFailed_110 hl (k := 2) rfl rfl (by decide) rfl (fun ls hl => ?_)
  refine lv_goto (tgt := 19) hx hb dX8_seekFailed_113 (by decide) ?_
  exact hag19 _ _ _ _ _ hf hP hS (lv_sub hl [1, 2, 0] rfl)
set_option maxRecDepth 100000 in
set_option maxHeartbeats 4000000 in
theorem w_X8_seekFailed_74 (C : CX p m c cX8_seekFailed 3 s args RX8 D (TYX cs) (WX ad cs) (AX ad)) (hr : meth.sig.returnType = none) (hlk : meth.locks = false) (hR : 4 ≤ R.frames ∧ 99 ≤ R.locals) {σ : Sg} {x2 : Int32} {s0 : Int32} {res : Sg} {ag19 : Int32 → Sg → Option (Sg)} (hag19 : ∀ (x2 : Int32) (σ : Sg) (H : Heap) (locs : List Loc) (ls : Array Slot), ag19 x2 σ = some res → va_P D vwCl (WX ad cs σ) H → va_S (AX ad) s.heap H locs → lv_has ls 3 [(0, .ref (ad 22)), (1, .ref (ad 16)), (2, .int x2)] → W p l e R s m args below meth c H locs 0 0 (MQ below (QV D (TYX cs) (WX ad cs) (AX ad) res) args s 0 0 (AX ad)) (F0 m 19 ls [])) (hf : f_X8_seekFailed_74 ag19 σ x2 s0 = some res) {H : Heap} {locs : List Loc} (hP : va_P D vwCl (WX ad cs σ) H) (hS : va_S (AX ad) s.heap H locs) {ls : Array Slot} (hl : lv_has ls 3 [(0, .ref (ad 22)), (1, .ref (ad 16)), (2, .int x2)]) : W p l e R s m args below meth c H locs 0 0 (MQ below (QV D (TYX cs) (WX ad cs) (AX ad) res) args s 0 0 (AX ad)) (F0 m 74 ls [.int s0, .ref (ad 22)]) := by
  have hx := C.1.1
  have hb := C.1.2.1
  unfold f_X8_seekFailed_74 at hf
  refine pX8_8 C hP hS k_208 dX8_seekFailed_74 (fun H locs hP hS => ?_)
  refine lv_aload_n hx hb dX8_seekFailed_77 rfl (lv_at hl 0 rfl) ?_
  refine lv_dup hx hb dX8_seekFailed_78 rfl ?_
  refine gX8_6 C hP k_204 dX8_seekFailed_79 ?_
  refine lv_iconst (v := 1) hx hb dX8_seekFailed_82 (by decide) ?_
  refine lv_iadd hx hb dX8_seekFailed_83 ?_
  refine pX8_6 C hP hS k_204 dX8_seekFailed_84 (fun H locs hP hS => ?_)
  refine lv_aload_n hx hb dX8_seekFailed_87 rfl (lv_at hl 0 rfl) ?_
  refine lv_iload_n hx hb dX8_seekFailed_88 rfl (lv_at hl 2 rfl) ?_
  refine lv_aload_n hx hb dX8_seekFailed_89 rfl (lv_at hl 0 rfl) ?_
  refine gX8_7 C hP k_206 dX8_seekFailed_90 ?_
  obtain ⟨r2, hg1, hf⟩ := zb hf
  try dsimp only at hf
  refine q_calli C hS (q_runS C hP (c_X8_isFewer (l := l) C.2.2.1 hg1) (As := [.int x2, .int ((st (st σ 22 8 s0) 22 6 (((st σ 22 8 s0) 22 6) + 1)) 22 7)]) (rest := [.ref (ad 22)]) ⟨gd_S k_489 k_490 k_50 k_491, ⟨rfl, rfl⟩, kd_X8_isFewer, ⟨Nat.le_trans (Nat.le_of_ble_eq_true rfl) hR.1, Nat.le_trans (Nat.le_of_ble_eq_true rfl) hR.2⟩⟩ rfl rfl (Nat.le_of_ble_eq_true rfl) hl.1 dX8_seekFailed_93) (fun H locs hP hS => ?_)
  refine lv_if_eq (tgt := 103) hx hb dX8_seekFailed_96 (by decide) (fun c3 => ?_) (fun c3 => ?_)
  · replace hf := zt c3 hf
    refine lv_aload_n hx hb dX8_seekFailed_103 rfl (lv_at hl 0 rfl) ?_
    refine gX8_7 C hP k_206 dX8_seekFailed_104 ?_
    exact w_X8_seekFailed_107 C hr hlk hR hag19 hf hP hS (lv_sub hl [0, 1, 2] rfl)
  · replace hf := zf c3 hf
    refine lv_iload_n hx hb dX8_seekFailed_99 rfl (lv_at hl 2 rfl) ?_
    refine lv_goto (tgt := 107) hx hb dX8_seekFailed_100 (by decide) ?_
    exact w_X8_seekFailed_107 C hr hlk hR hag19 hf hP hS (lv_sub hl [0, 1, 2] rfl)
set_option maxRecDepth 100000 in
set_option maxHeartbeats 4000000 in
theorem w_X8_seekFailed_19 (C : CX p m c cX8_seekFailed 3 s args RX8 D (TYX cs) (WX ad cs) (AX ad)) (hr : meth.sig.returnType = none) (hlk : meth.locks = false) (hR : 4 ≤ R.frames ∧ 99 ≤ R.locals) {σ : Sg} {x2 : Int32} {res : Sg} {ag19 : Int32 → Sg → Option (Sg)} (hag19 : ∀ (x2 : Int32) (σ : Sg) (H : Heap) (locs : List Loc) (ls : Array Slot), ag19 x2 σ = some res → va_P D vwCl (WX ad cs σ) H → va_S (AX ad) s.heap H locs → lv_has ls 3 [(0, .ref (ad 22)), (1, .ref (ad 16)), (2, .int x2)] → W p l e R s m args below meth c H locs 0 0 (MQ below (QV D (TYX cs) (WX ad cs) (AX ad) res) args s 0 0 (AX ad)) (F0 m 19 ls [])) (hf : f_X8_seekFailed_19 ag19 σ x2 = some res) {H : Heap} {locs : List Loc} (hP : va_P D vwCl (WX ad cs σ) H) (hS : va_S (AX ad) s.heap H locs) {ls : Array Slot} (hl : lv_has ls 3 [(0, .ref (ad 22)), (1, .ref (ad 16)), (2, .int x2)]) : W p l e R s m args below meth c H locs 0 0 (MQ below (QV D (TYX cs) (WX ad cs) (AX ad) res) args s 0 0 (AX ad)) (F0 m 19 ls []) := by
  have hx := C.1.1
  have hb := C.1.2.1
  unfold f_X8_seekFailed_19 at hf
  refine lv_iload_n hx hb dX8_seekFailed_19 rfl (lv_at hl 2 rfl) ?_
  refine lv_aload_n hx hb dX8_seekFailed_20 rfl (lv_at hl 0 rfl) ?_
  refine gX8_0 C hP k_194 dX8_seekFailed_21 ?_
  obtain ⟨r2, hg1, hf⟩ := zb hf
  try dsimp only at hf
  refine q_calli C hS (q_runV C hP (c_X7_sets (l := l) C.2.2.1 hg1) (ci := 6) (As := []) (rest := [.int x2]) ⟨gd_V k_465 k_466 k_467 k_45 k_468, ⟨rfl, rfl⟩, kd_X7_sets, ⟨Nat.le_trans (Nat.le_of_ble_eq_true rfl) hR.1, Nat.le_trans (Nat.le_of_ble_eq_true rfl) hR.2⟩⟩ (o := 2) rfl rfl rfl rfl rfl (Nat.le_of_ble_eq_true rfl) hl.1 dX8_seekFailed_24) (fun H locs hP hS => ?_)
  refine lv_icmp_ge (tgt := 116) hx hb dX8_seekFailed_27 (by decide) (fun c3 => ?_) (fun c3 => ?_)
  · replace hf := zt c3 hf
    exact q_vret C hr hlk hP hS (Option.some.inj hf) dX8_seekFailed_116
  · replace hf := zf c3 hf
    refine lv_aload_n hx hb dX8_seekFailed_30 rfl (lv_at hl 0 rfl) ?_
    refine gX8_1 C hP k_195 dX8_seekFailed_31 ?_
    refine lv_aload_n hx hb dX8_seekFailed_34 rfl (lv_at hl 0 rfl) ?_
    refine gX8_0 C hP k_194 dX8_seekFailed_35 ?_
    refine gX7_2N C hP k_122 dX8_seekFailed_38 ?_
    refine lv_iload_n hx hb dX8_seekFailed_41 rfl (lv_at hl 2 rfl) ?_
    obtain ⟨σ5, hg4, hf⟩ := zb hf
    try dsimp only at hf
    refine q_callv C hS (q_runV C hP (c_X3_workHourZero (l := l) C.2.2.1 hg4) (ci := 3) (As := [.int (σ 2 2), .int x2]) (rest := []) ⟨gd_V k_475 k_476 k_477 k_49 k_478, ⟨rfl, rfl⟩, kd_X3_workHourZero, ⟨Nat.le_trans (Nat.le_of_ble_eq_true rfl) hR.1, Nat.le_trans (Nat.le_of_ble_eq_true rfl) hR.2⟩⟩ (o := 19) rfl rfl rfl rfl rfl (Nat.le_of_ble_eq_true rfl) hl.1 dX8_seekFailed_42) (fun H locs hP hS => ?_)
    refine lv_aload_n hx hb dX8_seekFailed_45 rfl (lv_at hl 1 rfl) ?_
    refine lv_aload_n hx hb dX8_seekFailed_46 rfl (lv_at hl 0 rfl) ?_
    refine gX8_1 C hP k_195 dX8_seekFailed_47 ?_
    obtain ⟨r7, hg6, hf⟩ := zb hf
    try dsimp only at hf
    refine q_calli C hS (q_runV C hP (c_X2_areSo (l := l) C.2.2.1 hg6) (ci := 2) (As := [.ref (ad 19)]) (rest := []) ⟨gd_V k_544 k_545 k_546 k_48 k_547, ⟨rfl, rfl⟩, kd_X2_areSo, ⟨Nat.le_trans (Nat.le_of_ble_eq_true rfl) hR.1, Nat.le_trans (Nat.le_of_ble_eq_true rfl) hR.2⟩⟩ (o := 16) rfl rfl rfl rfl rfl (Nat.le_of_ble_eq_true rfl) hl.1 dX8_seekFailed_50) (fun H locs hP hS => ?_)
    refine lv_if_eq (tgt := 110) hx hb dX8_seekFailed_53 (by decide) (fun c8 => ?_) (fun c8 => ?_)
    · replace hf := zt c8 hf
      refine lv_iinc (v := x2 + 1) (lv' := [(2, .int (x2 + 1)), (0, .ref (ad 22)), (1, .ref (ad 16))]) hx hb dX8_seekFailed_110 hl (k := 2) rfl rfl (by decide) rfl (fun ls hl => ?_)
      refine lv_goto (tgt := 19) hx hb dX8_seekFailed_113 (by decide) ?_
      exact hag19 _ _ _ _ _ hf hP hS (lv_sub hl [1, 2, 0] rfl)
    · replace hf := zf c8 hf
      refine lv_aload_n hx hb dX8_seekFailed_56 rfl (lv_at hl 0 rfl) ?_
      refine lv_aload_n hx hb dX8_seekFailed_57 rfl (lv_at hl 0 rfl) ?_
      refine gX8_6 C hP k_204 dX8_seekFailed_58 ?_
      refine lv_if_ne (tgt := 68) hx hb dX8_seekFailed_61 (by decide) (fun c9 => ?_) (fun c9 => ?_)
      · replace hf := zf c9 hf
        refine lv_aload_n hx hb dX8_seekFailed_68 rfl (lv_at hl 0 rfl) ?_
        refine gX8_8 C hP k_208 dX8_seekFailed_69 ?_
        refine lv_iload_n hx hb dX8_seekFailed_72 rfl (lv_at hl 2 rfl) ?_
        refine lv_iand hx hb dX8_seekFailed_73 ?_
        exact w_X8_seekFailed_74 C hr hlk hR hag19 hf hP hS (lv_sub hl [0, 1, 2] rfl)
      · replace hf := zt c9 hf
        refine lv_iload_n hx hb dX8_seekFailed_64 rfl (lv_at hl 2 rfl) ?_
        refine lv_goto (tgt := 74) hx hb dX8_seekFailed_65 (by decide) ?_
        exact w_X8_seekFailed_74 C hr hlk hR hag19 hf hP hS (lv_sub hl [0, 1, 2] rfl)
set_option maxRecDepth 100000 in
set_option maxHeartbeats 4000000 in
theorem wl_X8_seekFailed_19 (C : CX p m c cX8_seekFailed 3 s args RX8 D (TYX cs) (WX ad cs) (AX ad)) (hr : meth.sig.returnType = none) (hlk : meth.locks = false) (hR : 4 ≤ R.frames ∧ 99 ≤ R.locals)  {res : Sg} : ∀ n : Nat, ∀ (x2 : Int32) (σ : Sg) (H : Heap) (locs : List Loc) (ls : Array Slot), l_X8_seekFailed_19 n x2 σ = some res → va_P D vwCl (WX ad cs σ) H → va_S (AX ad) s.heap H locs → lv_has ls 3 [(0, .ref (ad 22)), (1, .ref (ad 16)), (2, .int x2)] → W p l e R s m args below meth c H locs 0 0 (MQ below (QV D (TYX cs) (WX ad cs) (AX ad) res) args s 0 0 (AX ad)) (F0 m 19 ls []) := by
  intro n
  induction n with
  | zero => intro x2 σ H locs ls hf; cases hf
  | succ n ih =>
    intro x2 σ H locs ls hf hP hS hl
    exact w_X8_seekFailed_19 C hr hlk hR (ag19 := l_X8_seekFailed_19 n) ih hf hP hS hl
set_option maxRecDepth 100000 in
set_option maxHeartbeats 4000000 in
theorem w_X8_seekFailed (C : CX p m c cX8_seekFailed 3 s args RX8 D (TYX cs) (WX ad cs) (AX ad)) (hr : meth.sig.returnType = none) (hlk : meth.locks = false) (hR : 4 ≤ R.frames ∧ 99 ≤ R.locals) {σ : Sg}  {res : Sg} (hf : f_X8_seekFailed σ = some res) {H : Heap} {locs : List Loc} (hP : va_P D vwCl (WX ad cs σ) H) (hS : va_S (AX ad) s.heap H locs) {ls : Array Slot} (hl : lv_has ls 3 [(0, .ref (ad 22)), (1, .ref (ad 16))]) : W p l e R s m args below meth c H locs 0 0 (MQ below (QV D (TYX cs) (WX ad cs) (AX ad) res) args s 0 0 (AX ad)) (F0 m 0 ls []) := by
  have hx := C.1.1
  have hb := C.1.2.1
  unfold f_X8_seekFailed at hf
  refine lv_aload_n hx hb dX8_seekFailed_0 rfl (lv_at hl 0 rfl) ?_
  refine lv_iconst (v := 0) hx hb dX8_seekFailed_1 (by decide) ?_
  refine pX8_6 C hP hS k_204 dX8_seekFailed_2 (fun H locs hP hS => ?_)
  refine lv_aload_n hx hb dX8_seekFailed_5 rfl (lv_at hl 0 rfl) ?_
  refine lv_bipush (v := (-9)) hx hb dX8_seekFailed_6 (by decide) ?_
  refine pX8_7 C hP hS k_206 dX8_seekFailed_8 (fun H locs hP hS => ?_)
  refine lv_aload_n hx hb dX8_seekFailed_11 rfl (lv_at hl 0 rfl) ?_
  refine lv_bipush (v := (-9)) hx hb dX8_seekFailed_12 (by decide) ?_
  refine pX8_8 C hP hS k_208 dX8_seekFailed_14 (fun H locs hP hS => ?_)
  refine lv_iconst (v := 0) hx hb dX8_seekFailed_17 (by decide) ?_
  refine lv_istore_n (lv' := [(2, .int 0), (0, .ref (ad 22)), (1, .ref (ad 16))]) hx hb dX8_seekFailed_18 rfl hl (by decide) rfl (fun ls hl => ?_)
  exact wl_X8_seekFailed_19 C hr hlk hR fu _ _ _ _ _ hf hP hS (lv_sub hl [1, 2, 0] rfl)
theorem kd_X8_seekFailed : yX8_seekFailed.cls = RX8 ∧ yX8_seekFailed.cls ≠ "java/lang/invoke/MethodHandle" ∧ yX8_seekFailed.cls ≠ "java/lang/invoke/VarHandle" ∧ (parseMethodDescriptor yX8_seekFailed.desc).map (fun d => d.parameters.length) = some 1 := by decide +kernel
def r_X8_seekFailed : Room := { frames := 4, cells := 0, slots := 0, locals := 99 }
set_option maxRecDepth 100000 in
set_option maxHeartbeats 4000000 in
theorem c_X8_seekFailed {l : Launch} {D : va_G} {ad : Nat → Nat} {cs : Nat → ClassId} (hD : ∀ σ, va_D (AX ad) (WX ad cs σ)) {σ : Sg}  {res : Sg} (hf : f_X8_seekFailed σ = some res) : Met l yX8_seekFailed (wm yX8_seekFailed cX8_seekFailed 3 none) r_X8_seekFailed (va_Pc [.ref (ad 22), .ref (ad 16)] (BW D (TYX cs) (WX ad cs) σ)) (QV D (TYX cs) (WX ad cs) (AX ad) res) 0 0 (AX ad) := by
  refine q_enter (by decide) hD (Nat.le_of_ble_eq_true rfl) ?_
  intro p e s m below meth c C hr hlk hP hS ls hl
  exact w_X8_seekFailed C hr hlk ⟨Nat.le_of_ble_eq_true rfl, Nat.le_of_ble_eq_true rfl⟩ hf hP hS hl

set_option maxRecDepth 100000 in
set_option maxHeartbeats 4000000 in
theorem w_X8_setsThatServe_4 (C : CX p m c cX8_setsThatServe 4 s args RX8 D (TYX cs) (WX ad cs) (AX ad)) (hr : meth.sig.returnType = (some .int)) (hlk : meth.locks = false) (hR : 4 ≤ R.frames ∧ 99 ≤ R.locals) {σ : Sg} {x1 : Int32} {x2 : Int32} {x3 : Int32} {res : Int32 × Sg} {ag4 : Int32 → Int32 → Sg → Option (Int32 × Sg)} (hag4 : ∀ (x2 : Int32) (x3 : Int32) (σ : Sg) (H : Heap) (locs : List Loc) (ls : Array Slot), ag4 x2 x3 σ = some res → va_P D vwCl (WX ad cs σ) H → va_S (AX ad) s.heap H locs → lv_has ls 4 [(0, .ref (ad 22)), (1, .int x1), (2, .int x2), (3, .int x3)] → W p l e R s m args below meth c H locs 0 0 (MQ below (QI D (TYX cs) (WX ad cs) (AX ad) res.1 res.2) args s 0 0 (AX ad)) (F0 m 4 ls [])) (hf : f_X8_setsThatServe_4 ag4 σ x1 x2 x3 = some res) {H : Heap} {locs : List Loc} (hP : va_P D vwCl (WX ad cs σ) H) (hS : va_S (AX ad) s.heap H locs) {ls : Array Slot} (hl : lv_has ls 4 [(0, .ref (ad 22)), (1, .int x1), (2, .int x2), (3, .int x3)]) : W p l e R s m args below meth c H locs 0 0 (MQ below (QI D (TYX cs) (WX ad cs) (AX ad) res.1 res.2) args s 0 0 (AX ad)) (F0 m 4 ls []) := by
  have hx := C.1.1
  have hb := C.1.2.1
  unfold f_X8_setsThatServe_4 at hf
  refine lv_iload_n hx hb dX8_setsThatServe_4 rfl (lv_at hl 3 rfl) ?_
  refine lv_aload_n hx hb dX8_setsThatServe_5 rfl (lv_at hl 0 rfl) ?_
  refine gX8_0 C hP k_194 dX8_setsThatServe_6 ?_
  obtain ⟨r2, hg1, hf⟩ := zb hf
  try dsimp only at hf
  refine q_calli C hS (q_runV C hP (c_X7_sets (l := l) C.2.2.1 hg1) (ci := 6) (As := []) (rest := [.int x3]) ⟨gd_V k_465 k_466 k_467 k_45 k_468, ⟨rfl, rfl⟩, kd_X7_sets, ⟨Nat.le_trans (Nat.le_of_ble_eq_true rfl) hR.1, Nat.le_trans (Nat.le_of_ble_eq_true rfl) hR.2⟩⟩ (o := 2) rfl rfl rfl rfl rfl (Nat.le_of_ble_eq_true rfl) hl.1 dX8_setsThatServe_9) (fun H locs hP hS => ?_)
  refine lv_icmp_ge (tgt := 52) hx hb dX8_setsThatServe_12 (by decide) (fun c3 => ?_) (fun c3 => ?_)
  · replace hf := zt c3 hf
    refine lv_iload_n hx hb dX8_setsThatServe_52 rfl (lv_at hl 2 rfl) ?_
    exact q_iret C hr hlk hP hS (Option.some.inj hf) dX8_setsThatServe_53
  · replace hf := zf c3 hf
    refine lv_aload_n hx hb dX8_setsThatServe_15 rfl (lv_at hl 0 rfl) ?_
    refine gX8_1 C hP k_195 dX8_setsThatServe_16 ?_
    refine lv_aload_n hx hb dX8_setsThatServe_19 rfl (lv_at hl 0 rfl) ?_
    refine gX8_0 C hP k_194 dX8_setsThatServe_20 ?_
    refine gX7_2N C hP k_122 dX8_setsThatServe_23 ?_
    refine lv_iload_n hx hb dX8_setsThatServe_26 rfl (lv_at hl 3 rfl) ?_
    obtain ⟨σ5, hg4, hf⟩ := zb hf
    try dsimp only at hf
    refine q_callv C hS (q_runV C hP (c_X3_workHourZero (l := l) C.2.2.1 hg4) (ci := 3) (As := [.int (σ 2 2), .int x3]) (rest := []) ⟨gd_V k_475 k_476 k_477 k_49 k_478, ⟨rfl, rfl⟩, kd_X3_workHourZero, ⟨Nat.le_trans (Nat.le_of_ble_eq_true rfl) hR.1, Nat.le_trans (Nat.le_of_ble_eq_true rfl) hR.2⟩⟩ (o := 19) rfl rfl rfl rfl rfl (Nat.le_of_ble_eq_true rfl) hl.1 dX8_setsThatServe_27) (fun H locs hP hS => ?_)
    refine lv_aload_n hx hb dX8_setsThatServe_30 rfl (lv_at hl 0 rfl) ?_
    refine gX8_1 C hP k_195 dX8_setsThatServe_31 ?_
    refine lv_iload_n hx hb dX8_setsThatServe_34 rfl (lv_at hl 1 rfl) ?_
    obtain ⟨r7, hg6, hf⟩ := zb hf
    try dsimp only at hf
    refine q_calli C hS (q_runV C hP (c_X3_serverOf (l := l) C.2.2.1 hg6) (ci := 3) (As := [.int x1]) (rest := []) ⟨gd_V k_488 k_415 k_416 k_49 k_417, ⟨rfl, rfl⟩, kd_X3_serverOf, ⟨Nat.le_trans (Nat.le_of_ble_eq_true rfl) hR.1, Nat.le_trans (Nat.le_of_ble_eq_true rfl) hR.2⟩⟩ (o := 19) rfl rfl rfl rfl rfl (Nat.le_of_ble_eq_true rfl) hl.1 dX8_setsThatServe_35) (fun H locs hP hS => ?_)
    refine lv_bipush (v := (-9)) hx hb dX8_setsThatServe_38 (by decide) ?_
    refine lv_icmp_eq (tgt := 46) hx hb dX8_setsThatServe_40 (by decide) (fun c8 => ?_) (fun c8 => ?_)
    · replace hf := zt c8 hf
      refine lv_iinc (v := x3 + 1) (lv' := [(3, .int (x3 + 1)), (0, .ref (ad 22)), (1, .int x1), (2, .int x2)]) hx hb dX8_setsThatServe_46 hl (k := 3) rfl rfl (by decide) rfl (fun ls hl => ?_)
      refine lv_goto (tgt := 4) hx hb dX8_setsThatServe_49 (by decide) ?_
      exact hag4 _ _ _ _ _ _ hf hP hS (lv_sub hl [1, 2, 3, 0] rfl)
    · replace hf := zf c8 hf
      refine lv_iinc (v := x2 + 1) (lv' := [(2, .int (x2 + 1)), (0, .ref (ad 22)), (1, .int x1), (3, .int x3)]) hx hb dX8_setsThatServe_43 hl (k := 2) rfl rfl (by decide) rfl (fun ls hl => ?_)
      refine lv_iinc (v := x3 + 1) (lv' := [(3, .int (x3 + 1)), (2, .int (x2 + 1)), (0, .ref (ad 22)), (1, .int x1)]) hx hb dX8_setsThatServe_46 hl (k := 3) rfl rfl (by decide) rfl (fun ls hl => ?_)
      refine lv_goto (tgt := 4) hx hb dX8_setsThatServe_49 (by decide) ?_
      exact hag4 _ _ _ _ _ _ hf hP hS (lv_sub hl [2, 3, 1, 0] rfl)
set_option maxRecDepth 100000 in
set_option maxHeartbeats 4000000 in
theorem wl_X8_setsThatServe_4 (C : CX p m c cX8_setsThatServe 4 s args RX8 D (TYX cs) (WX ad cs) (AX ad)) (hr : meth.sig.returnType = (some .int)) (hlk : meth.locks = false) (hR : 4 ≤ R.frames ∧ 99 ≤ R.locals) {x1 : Int32} {res : Int32 × Sg} : ∀ n : Nat, ∀ (x2 : Int32) (x3 : Int32) (σ : Sg) (H : Heap) (locs : List Loc) (ls : Array Slot), l_X8_setsThatServe_4 x1 n x2 x3 σ = some res → va_P D vwCl (WX ad cs σ) H → va_S (AX ad) s.heap H locs → lv_has ls 4 [(0, .ref (ad 22)), (1, .int x1), (2, .int x2), (3, .int x3)] → W p l e R s m args below meth c H locs 0 0 (MQ below (QI D (TYX cs) (WX ad cs) (AX ad) res.1 res.2) args s 0 0 (AX ad)) (F0 m 4 ls []) := by
  intro n
  induction n with
  | zero => intro x2 x3 σ H locs ls hf; cases hf
  | succ n ih =>
    intro x2 x3 σ H locs ls hf hP hS hl
    exact w_X8_setsThatServe_4 C hr hlk hR (ag4 := l_X8_setsThatServe_4 x1 n) ih hf hP hS hl
set_option maxRecDepth 100000 in
set_option maxHeartbeats 4000000 in
theorem w_X8_setsThatServe (C : CX p m c cX8_setsThatServe 4 s args RX8 D (TYX cs) (WX ad cs) (AX ad)) (hr : meth.sig.returnType = (some .int)) (hlk : meth.locks = false) (hR : 4 ≤ R.frames ∧ 99 ≤ R.locals) {σ : Sg} {x1 : Int32} {res : Int32 × Sg} (hf : f_X8_setsThatServe σ x1 = some res) {H : Heap} {locs : List Loc} (hP : va_P D vwCl (WX ad cs σ) H) (hS : va_S (AX ad) s.heap H locs) {ls : Array Slot} (hl : lv_has ls 4 [(0, .ref (ad 22)), (1, .int x1)]) : W p l e R s m args below meth c H locs 0 0 (MQ below (QI D (TYX cs) (WX ad cs) (AX ad) res.1 res.2) args s 0 0 (AX ad)) (F0 m 0 ls []) := by
  have hx := C.1.1
  have hb := C.1.2.1
  unfold f_X8_setsThatServe at hf
  refine lv_iconst (v := 0) hx hb dX8_setsThatServe_0 (by decide) ?_
  refine lv_istore_n (lv' := [(2, .int 0), (0, .ref (ad 22)), (1, .int x1)]) hx hb dX8_setsThatServe_1 rfl hl (by decide) rfl (fun ls hl => ?_)
  refine lv_iconst (v := 0) hx hb dX8_setsThatServe_2 (by decide) ?_
  refine lv_istore_n (lv' := [(3, .int 0), (2, .int 0), (0, .ref (ad 22)), (1, .int x1)]) hx hb dX8_setsThatServe_3 rfl hl (by decide) rfl (fun ls hl => ?_)
  exact wl_X8_setsThatServe_4 C hr hlk hR fu _ _ _ _ _ _ hf hP hS (lv_sub hl [2, 3, 1, 0] rfl)
theorem kd_X8_setsThatServe : yX8_setsThatServe.cls = RX8 ∧ yX8_setsThatServe.cls ≠ "java/lang/invoke/MethodHandle" ∧ yX8_setsThatServe.cls ≠ "java/lang/invoke/VarHandle" ∧ (parseMethodDescriptor yX8_setsThatServe.desc).map (fun d => d.parameters.length) = some 1 := by decide +kernel
def r_X8_setsThatServe : Room := { frames := 4, cells := 0, slots := 0, locals := 99 }
set_option maxRecDepth 100000 in
set_option maxHeartbeats 4000000 in
theorem c_X8_setsThatServe {l : Launch} {D : va_G} {ad : Nat → Nat} {cs : Nat → ClassId} (hD : ∀ σ, va_D (AX ad) (WX ad cs σ)) {σ : Sg} {x1 : Int32} {res : Int32 × Sg} (hf : f_X8_setsThatServe σ x1 = some res) : Met l yX8_setsThatServe (wm yX8_setsThatServe cX8_setsThatServe 4 (some .int)) r_X8_setsThatServe (va_Pc [.ref (ad 22), .int x1] (BW D (TYX cs) (WX ad cs) σ)) (QI D (TYX cs) (WX ad cs) (AX ad) res.1 res.2) 0 0 (AX ad) := by
  refine q_enter (by decide) hD (Nat.le_of_ble_eq_true rfl) ?_
  intro p e s m below meth c C hr hlk hP hS ls hl
  exact w_X8_setsThatServe C hr hlk ⟨Nat.le_of_ble_eq_true rfl, Nat.le_of_ble_eq_true rfl⟩ hf hP hS hl

set_option maxRecDepth 100000 in
set_option maxHeartbeats 4000000 in
theorem w_X9_sheetAt (C : CX p m c cX9_sheetAt 2 s args RX9 D (TYX cs) (WX ad cs) (AX ad)) (hr : meth.sig.returnType = (some (.object "DeputyTown$Sheet"))) (hlk : meth.locks = false) (hR : 0 ≤ R.frames ∧ 0 ≤ R.locals) {σ : Sg} {x1 : Int32} {res : Option Nat} (hf : f_X9_sheetAt σ x1 = some res) {H : Heap} {locs : List Loc} (hP : va_P D vwCl (WX ad cs σ) H) (hS : va_S (AX ad) s.heap H locs) {ls : Array Slot} (hl : lv_has ls 2 [(0, .ref (ad 0)), (1, .int x1)]) : W p l e R s m args below meth c H locs 0 0 (MQ below (QR D (TYX cs) (WX ad cs) (AX ad) (Option.map (fun t => ad (24 + t)) res) σ) args s 0 0 (AX ad)) (F0 m 0 ls []) := by
  have hx := C.1.1
  have hb := C.1.2.1
  unfold f_X9_sheetAt at hf
  refine lv_iload_n hx hb dX9_sheetAt_0 rfl (lv_at hl 1 rfl) ?_
  refine lv_if_lt (tgt := 18) hx hb dX9_sheetAt_1 (by decide) (fun c1 => ?_) (fun c1 => ?_)
  · replace hf := zt c1 hf
    refine lv_null hx hb dX9_sheetAt_18 ?_
    exact q_aret (v := Option.map (fun t => ad (24 + t)) none) C hr (Or.inl ⟨_, rfl⟩) hlk hP hS (congrArg (fun q => (Option.map (fun t => ad (24 + t)) q, σ)) (Option.some.inj hf)) dX9_sheetAt_19
  · replace hf := zf c1 hf
    refine lv_iload_n hx hb dX9_sheetAt_4 rfl (lv_at hl 1 rfl) ?_
    refine lv_iconst (v := 4) hx hb dX9_sheetAt_5 (by decide) ?_
    refine lv_icmp_ge (tgt := 18) hx hb dX9_sheetAt_6 (by decide) (fun c2 => ?_) (fun c2 => ?_)
    · replace hf := zt c2 hf
      refine lv_null hx hb dX9_sheetAt_18 ?_
      exact q_aret (v := Option.map (fun t => ad (24 + t)) none) C hr (Or.inl ⟨_, rfl⟩) hlk hP hS (congrArg (fun q => (Option.map (fun t => ad (24 + t)) q, σ)) (Option.some.inj hf)) dX9_sheetAt_19
    · replace hf := zf c2 hf
      refine lv_aload_n hx hb dX9_sheetAt_9 rfl (lv_at hl 0 rfl) ?_
      refine gX9_0 C hP k_261 dX9_sheetAt_10 ?_
      refine lv_iload_n hx hb dX9_sheetAt_13 rfl (lv_at hl 1 rfl) ?_
      obtain ⟨h3, hf⟩ := zc hf
      refine aldX_sheets C hP h3 dX9_sheetAt_14 ?_
      refine lv_goto (tgt := 19) hx hb dX9_sheetAt_15 (by decide) ?_
      exact q_aret (v := Option.map (fun t => ad (24 + t)) (some x1.toNatClampNeg)) C hr (Or.inl ⟨_, rfl⟩) hlk hP hS (congrArg (fun q => (Option.map (fun t => ad (24 + t)) q, σ)) (Option.some.inj hf)) dX9_sheetAt_19
theorem kd_X9_sheetAt : yX9_sheetAt.cls = RX9 ∧ yX9_sheetAt.cls ≠ "java/lang/invoke/MethodHandle" ∧ yX9_sheetAt.cls ≠ "java/lang/invoke/VarHandle" ∧ (parseMethodDescriptor yX9_sheetAt.desc).map (fun d => d.parameters.length) = some 1 := by decide +kernel
def r_X9_sheetAt : Room := { frames := 0, cells := 0, slots := 0, locals := 0 }
set_option maxRecDepth 100000 in
set_option maxHeartbeats 4000000 in
theorem c_X9_sheetAt {l : Launch} {D : va_G} {ad : Nat → Nat} {cs : Nat → ClassId} (hD : ∀ σ, va_D (AX ad) (WX ad cs σ)) {σ : Sg} {x1 : Int32} {res : Option Nat} (hf : f_X9_sheetAt σ x1 = some res) : Met l yX9_sheetAt (wm yX9_sheetAt cX9_sheetAt 2 (some (.object "DeputyTown$Sheet"))) r_X9_sheetAt (va_Pc [.ref (ad 0), .int x1] (BW D (TYX cs) (WX ad cs) σ)) (QR D (TYX cs) (WX ad cs) (AX ad) (Option.map (fun t => ad (24 + t)) res) σ) 0 0 (AX ad) := by
  refine q_enter (by decide) hD (Nat.le_of_ble_eq_true rfl) ?_
  intro p e s m below meth c C hr hlk hP hS ls hl
  exact w_X9_sheetAt C hr hlk ⟨Nat.le_of_ble_eq_true rfl, Nat.le_of_ble_eq_true rfl⟩ hf hP hS hl

set_option maxRecDepth 100000 in
set_option maxHeartbeats 4000000 in
theorem w_X9_isBeyond (C : CX p m c cX9_isBeyond 2 s args RX9 D (TYX cs) (WX ad cs) (AX ad)) (hr : meth.sig.returnType = (some .boolean)) (hlk : meth.locks = false) (hR : 0 ≤ R.frames ∧ 0 ≤ R.locals) {σ : Sg} {x0 : Int32} {x1 : Int32} {res : Int32} (hf : f_X9_isBeyond σ x0 x1 = some res) {H : Heap} {locs : List Loc} (hP : va_P D vwCl (WX ad cs σ) H) (hS : va_S (AX ad) s.heap H locs) {ls : Array Slot} (hl : lv_has ls 2 [(0, .int x0), (1, .int x1)]) : W p l e R s m args below meth c H locs 0 0 (MQ below (QI D (TYX cs) (WX ad cs) (AX ad) res σ) args s 0 0 (AX ad)) (F0 m 0 ls []) := by
  have hx := C.1.1
  have hb := C.1.2.1
  unfold f_X9_isBeyond at hf
  refine lv_iload_n hx hb dX9_isBeyond_0 rfl (lv_at hl 0 rfl) ?_
  refine lv_if_lt (tgt := 9) hx hb dX9_isBeyond_1 (by decide) (fun c1 => ?_) (fun c1 => ?_)
  · replace hf := zt c1 hf
    refine lv_iconst (v := 1) hx hb dX9_isBeyond_9 (by decide) ?_
    refine lv_goto (tgt := 14) hx hb dX9_isBeyond_10 (by decide) ?_
    exact q_zret C hr hlk hP hS (congrArg (fun q => (q, σ)) (Option.some.inj hf)) (by decide) dX9_isBeyond_14
  · replace hf := zf c1 hf
    refine lv_iload_n hx hb dX9_isBeyond_4 rfl (lv_at hl 0 rfl) ?_
    refine lv_iload_n hx hb dX9_isBeyond_5 rfl (lv_at hl 1 rfl) ?_
    refine lv_icmp_le (tgt := 13) hx hb dX9_isBeyond_6 (by decide) (fun c2 => ?_) (fun c2 => ?_)
    · replace hf := zt c2 hf
      refine lv_iconst (v := 0) hx hb dX9_isBeyond_13 (by decide) ?_
      exact q_zret C hr hlk hP hS (congrArg (fun q => (q, σ)) (Option.some.inj hf)) (by decide) dX9_isBeyond_14
    · replace hf := zf c2 hf
      refine lv_iconst (v := 1) hx hb dX9_isBeyond_9 (by decide) ?_
      refine lv_goto (tgt := 14) hx hb dX9_isBeyond_10 (by decide) ?_
      exact q_zret C hr hlk hP hS (congrArg (fun q => (q, σ)) (Option.some.inj hf)) (by decide) dX9_isBeyond_14
theorem kd_X9_isBeyond : yX9_isBeyond.cls ≠ "java/lang/invoke/MethodHandle" ∧ yX9_isBeyond.cls ≠ "java/lang/invoke/VarHandle" ∧ (parseMethodDescriptor yX9_isBeyond.desc).map (fun d => d.parameters.length) = some 2 := by decide +kernel
def r_X9_isBeyond : Room := { frames := 0, cells := 0, slots := 0, locals := 0 }
set_option maxRecDepth 100000 in
set_option maxHeartbeats 4000000 in
theorem c_X9_isBeyond {l : Launch} {D : va_G} {ad : Nat → Nat} {cs : Nat → ClassId} (hD : ∀ σ, va_D (AX ad) (WX ad cs σ)) {σ : Sg} {x0 : Int32} {x1 : Int32} {res : Int32} (hf : f_X9_isBeyond σ x0 x1 = some res) : Met l yX9_isBeyond (wm yX9_isBeyond cX9_isBeyond 2 (some .boolean)) r_X9_isBeyond (va_Pc [.int x0, .int x1] (BW D (TYX cs) (WX ad cs) σ)) (QI D (TYX cs) (WX ad cs) (AX ad) res σ) 0 0 (AX ad) := by
  refine q_enter (by decide) hD (Nat.le_of_ble_eq_true rfl) ?_
  intro p e s m below meth c C hr hlk hP hS ls hl
  exact w_X9_isBeyond C hr hlk ⟨Nat.le_of_ble_eq_true rfl, Nat.le_of_ble_eq_true rfl⟩ hf hP hS hl

set_option maxRecDepth 100000 in
set_option maxHeartbeats 4000000 in
theorem w_X9_cameTo (C : CX p m c cX9_cameTo 2 s args RX9 D (TYX cs) (WX ad cs) (AX ad)) (hr : meth.sig.returnType = (some .int)) (hlk : meth.locks = false) (hR : 0 ≤ R.frames ∧ 0 ≤ R.locals) {σ : Sg} {x1 : Int32} {res : Int32 × Sg} (hf : f_X9_cameTo σ x1 = some res) {H : Heap} {locs : List Loc} (hP : va_P D vwCl (WX ad cs σ) H) (hS : va_S (AX ad) s.heap H locs) {ls : Array Slot} (hl : lv_has ls 2 [(0, .ref (ad 0)), (1, .int x1)]) : W p l e R s m args below meth c H locs 0 0 (MQ below (QI D (TYX cs) (WX ad cs) (AX ad) res.1 res.2) args s 0 0 (AX ad)) (F0 m 0 ls []) := by
  have hx := C.1.1
  have hb := C.1.2.1
  unfold f_X9_cameTo at hf
  refine lv_aload_n hx hb dX9_cameTo_0 rfl (lv_at hl 0 rfl) ?_
  refine lv_iload_n hx hb dX9_cameTo_1 rfl (lv_at hl 1 rfl) ?_
  refine pX9_7 C hP hS k_268 dX9_cameTo_2 (fun H locs hP hS => ?_)
  refine lv_bipush (v := (-10)) hx hb dX9_cameTo_5 (by decide) ?_
  refine lv_iload_n hx hb dX9_cameTo_7 rfl (lv_at hl 1 rfl) ?_
  refine lv_isub hx hb dX9_cameTo_8 ?_
  exact q_iret C hr hlk hP hS (Option.some.inj hf) dX9_cameTo_9
theorem kd_X9_cameTo : yX9_cameTo.cls = RX9 ∧ yX9_cameTo.cls ≠ "java/lang/invoke/MethodHandle" ∧ yX9_cameTo.cls ≠ "java/lang/invoke/VarHandle" ∧ (parseMethodDescriptor yX9_cameTo.desc).map (fun d => d.parameters.length) = some 1 := by decide +kernel
def r_X9_cameTo : Room := { frames := 0, cells := 0, slots := 0, locals := 0 }
set_option maxRecDepth 100000 in
set_option maxHeartbeats 4000000 in
theorem c_X9_cameTo {l : Launch} {D : va_G} {ad : Nat → Nat} {cs : Nat → ClassId} (hD : ∀ σ, va_D (AX ad) (WX ad cs σ)) {σ : Sg} {x1 : Int32} {res : Int32 × Sg} (hf : f_X9_cameTo σ x1 = some res) : Met l yX9_cameTo (wm yX9_cameTo cX9_cameTo 2 (some .int)) r_X9_cameTo (va_Pc [.ref (ad 0), .int x1] (BW D (TYX cs) (WX ad cs) σ)) (QI D (TYX cs) (WX ad cs) (AX ad) res.1 res.2) 0 0 (AX ad) := by
  refine q_enter (by decide) hD (Nat.le_of_ble_eq_true rfl) ?_
  intro p e s m below meth c C hr hlk hP hS ls hl
  exact w_X9_cameTo C hr hlk ⟨Nat.le_of_ble_eq_true rfl, Nat.le_of_ble_eq_true rfl⟩ hf hP hS hl

set_option maxRecDepth 100000 in
set_option maxHeartbeats 4000000 in
theorem w_X9_town (C : CX p m c cX9_town 8 s args RX9 D (TYX cs) (WX ad cs) (AX ad)) (hr : meth.sig.returnType = (some .int)) (hlk : meth.locks = false) (hR : 3 ≤ R.frames ∧ 74 ≤ R.locals) {σ : Sg} {x1 : Int32} {x2 : Int32} {x3 : Int32} {x4 : Int32} {res : Int32 × Sg} (hf : f_X9_town σ x1 x2 x3 x4 = some res) {H : Heap} {locs : List Loc} (hP : va_P D vwCl (WX ad cs σ) H) (hS : va_S (AX ad) s.heap H locs) {ls : Array Slot} (hl : lv_has ls 8 [(0, .ref (ad 0)), (1, .int x1), (2, .int x2), (3, .int x3), (4, .int x4)]) : W p l e R s m args below meth c H locs 0 0 (MQ below (QI D (TYX cs) (WX ad cs) (AX ad) res.1 res.2) args s 0 0 (AX ad)) (F0 m 0 ls []) := by
  have hx := C.1.1
  have hb := C.1.2.1
  unfold f_X9_town at hf
  refine lv_aload_n hx hb dX9_town_0 rfl (lv_at hl 0 rfl) ?_
  refine lv_iconst (v := 0) hx hb dX9_town_1 (by decide) ?_
  refine pX9_7 C hP hS k_268 dX9_town_2 (fun H locs hP hS => ?_)
  refine lv_aload_n hx hb dX9_town_5 rfl (lv_at hl 0 rfl) ?_
  refine lv_iload_n hx hb dX9_town_6 rfl (lv_at hl 1 rfl) ?_
  obtain ⟨r2, hg1, hf⟩ := zb hf
  try dsimp only at hf
  refine q_callr C hS (q_runV C hP (c_X9_sheetAt (l := l) C.2.2.1 hg1) (ci := 8) (As := [.int x1]) (rest := []) ⟨gd_V k_290 k_292 k_0 k_44 k_293, ⟨rfl, rfl⟩, kd_X9_sheetAt, ⟨Nat.le_trans (Nat.le_of_ble_eq_true rfl) hR.1, Nat.le_trans (Nat.le_of_ble_eq_true rfl) hR.2⟩⟩ (o := 0) rfl rfl rfl rfl rfl (Nat.le_of_ble_eq_true rfl) hl.1 dX9_town_7) (fun H locs hP hS => ?_)
  refine q_astoreq (lv' := [(5, va_rf (Option.map (fun t => ad (24 + t)) r2)), (0, .ref (ad 0)), (1, .int x1), (2, .int x2), (3, .int x3), (4, .int x4)]) C dX9_town_10 hl (by decide) rfl (fun ls hl => ?_)
  refine q_aloadq C dX9_town_12 (lv_at hl 0 rfl) ?_
  rcases r2 with _ | t3
  · refine lv_ifnonnullN hx hb dX9_town_14 ?_
    try dsimp only at hf
    refine lv_iconst (v := (-1)) hx hb dX9_town_17 (by decide) ?_
    exact q_iret C hr hlk hP hS (Option.some.inj hf) dX9_town_18
  · refine lv_ifnonnull (tgt := 19) hx hb dX9_town_14 (by decide) ?_
    try dsimp only at hf
    refine lv_iload_n hx hb dX9_town_19 rfl (lv_at hl 3 rfl) ?_
    refine lv_iconst (v := 2) hx hb dX9_town_20 (by decide) ?_
    obtain ⟨r5, hg4, hf⟩ := zb hf
    try dsimp only at hf
    refine q_calli C hS (q_runS C hP (c_X9_isBeyond (l := l) C.2.2.1 hg4) (As := [.int x2, .int 2]) (rest := []) ⟨gd_S k_294 k_295 k_44 k_296, ⟨rfl, rfl⟩, kd_X9_isBeyond, ⟨Nat.le_trans (Nat.le_of_ble_eq_true rfl) hR.1, Nat.le_trans (Nat.le_of_ble_eq_true rfl) hR.2⟩⟩ rfl rfl (Nat.le_of_ble_eq_true rfl) hl.1 dX9_town_21) (fun H locs hP hS => ?_)
    refine lv_if_eq (tgt := 30) hx hb dX9_town_24 (by decide) (fun c6 => ?_) (fun c6 => ?_)
    · replace hf := zt c6 hf
      refine lv_aload hx hb dX9_town_30 (lv_at hl 0 rfl) ?_
      refine lv_iload_n hx hb dX9_town_32 rfl (lv_at hl 3 rfl) ?_
      refine lv_iload_n hx hb dX9_town_33 rfl (lv_at hl 4 rfl) ?_
      refine lv_iload hx hb dX9_town_34 (lv_at hl 5 rfl) ?_
      obtain ⟨h8, hf⟩ := zc hf
      obtain ⟨r9, hg7, hf⟩ := zb hf
      try dsimp only at hf
      refine q_calli C hS (q_runV C hP (c_X4_rangeFault (l := l) C.2.2.1 hg7) (ci := 4) (As := [.int x2, .int x3, .int x4]) (rest := []) ⟨gd_V k_297 k_298 k_299 k_52 k_300, ⟨rfl, rfl⟩, kd_X4_rangeFault, ⟨Nat.le_trans (Nat.le_of_ble_eq_true rfl) hR.1, Nat.le_trans (Nat.le_of_ble_eq_true rfl) hR.2⟩⟩ (oX_X4 h8) rfl rfl rfl rfl (Nat.le_of_ble_eq_true rfl) hl.1 dX9_town_36) (fun H locs hP hS => ?_)
      refine lv_istore (lv' := [(6, .int r9), (5, .ref (ad (24 + t3))), (0, .ref (ad 0)), (1, .int x1), (2, .int x2), (3, .int x3), (4, .int x4)]) hx hb dX9_town_39 hl (by decide) rfl (fun ls hl => ?_)
      refine lv_iload hx hb dX9_town_41 (lv_at hl 0 rfl) ?_
      refine lv_if_eq (tgt := 53) hx hb dX9_town_43 (by decide) (fun c10 => ?_) (fun c10 => ?_)
      · replace hf := zt c10 hf
        refine lv_aload hx hb dX9_town_53 (lv_at hl 1 rfl) ?_
        refine lv_iload_n hx hb dX9_town_55 rfl (lv_at hl 5 rfl) ?_
        refine lv_iload hx hb dX9_town_56 (lv_at hl 6 rfl) ?_
        obtain ⟨r12, hg11, hf⟩ := zb hf
        try dsimp only at hf
        refine q_calli C hS (q_runS C hP (c_X5_firstFault (l := l) C.2.2.1 hg11) (As := [.ref (ad (24 + t3)), .int x3, .int x4]) (rest := []) ⟨gd_S k_309 k_310 k_54 k_311, ⟨rfl, rfl⟩, kd_X5_firstFault, ⟨Nat.le_trans (Nat.le_of_ble_eq_true rfl) hR.1, Nat.le_trans (Nat.le_of_ble_eq_true rfl) hR.2⟩⟩ rfl rfl (Nat.le_of_ble_eq_true rfl) hl.1 dX9_town_58) (fun H locs hP hS => ?_)
        refine lv_istore (lv' := [(7, .int r12), (6, .int r9), (5, .ref (ad (24 + t3))), (0, .ref (ad 0)), (1, .int x1), (2, .int x2), (3, .int x3), (4, .int x4)]) hx hb dX9_town_61 hl (by decide) rfl (fun ls hl => ?_)
        refine lv_iload hx hb dX9_town_63 (lv_at hl 0 rfl) ?_
        refine lv_bipush (v := (-9)) hx hb dX9_town_65 (by decide) ?_
        refine lv_icmp_eq (tgt := 76) hx hb dX9_town_67 (by decide) (fun c13 => ?_) (fun c13 => ?_)
        · replace hf := zt c13 hf
          refine lv_aload_n hx hb dX9_town_76 rfl (lv_at hl 3 rfl) ?_
          refine gX9_1 C hP k_262 dX9_town_77 ?_
          refine lv_aload hx hb dX9_town_80 (lv_at hl 2 rfl) ?_
          refine lv_iload_n hx hb dX9_town_82 rfl (lv_at hl 6 rfl) ?_
          refine lv_iload hx hb dX9_town_83 (lv_at hl 7 rfl) ?_
          obtain ⟨r15, hg14, hf⟩ := zb hf
          try dsimp only at hf
          refine q_calli C hS (q_runS C hP (c_X5_thingsIn (l := l) C.2.2.1 hg14) (As := [.int x4]) (rest := [.int x3, .ref (ad (24 + t3)), .ref (ad 2)]) ⟨gd_S k_331 k_323 k_54 k_324, ⟨rfl, rfl⟩, kd_X5_thingsIn, ⟨Nat.le_trans (Nat.le_of_ble_eq_true rfl) hR.1, Nat.le_trans (Nat.le_of_ble_eq_true rfl) hR.2⟩⟩ rfl rfl (Nat.le_of_ble_eq_true rfl) hl.1 dX9_town_85) (fun H locs hP hS => ?_)
          obtain ⟨σ17, hg16, hf⟩ := zb hf
          try dsimp only at hf
          refine q_callv C hS (q_runV C hP (c_X7_settle (l := l) C.2.2.1 hg16) (ci := 6) (As := [.ref (ad (24 + t3)), .int x3, .int r15]) (rest := []) ⟨gd_V k_332 k_333 k_334 k_45 k_335, ⟨rfl, rfl⟩, kd_X7_settle, ⟨Nat.le_trans (Nat.le_of_ble_eq_true rfl) hR.1, Nat.le_trans (Nat.le_of_ble_eq_true rfl) hR.2⟩⟩ (o := 2) rfl rfl rfl rfl rfl (Nat.le_of_ble_eq_true rfl) hl.1 dX9_town_88) (fun H locs hP hS => ?_)
          refine lv_aload_n hx hb dX9_town_91 rfl (lv_at hl 3 rfl) ?_
          refine gX9_2 C hP k_263 dX9_town_92 ?_
          refine lv_iconst (v := 0) hx hb dX9_town_95 (by decide) ?_
          refine pX1_3N C hP hS k_141 dX9_town_96 (fun H locs hP hS => ?_)
          refine lv_aload_n hx hb dX9_town_99 rfl (lv_at hl 3 rfl) ?_
          refine gX9_3 C hP k_264 dX9_town_100 ?_
          refine lv_iconst (v := 0) hx hb dX9_town_103 (by decide) ?_
          refine pX2_2N C hP hS k_161 dX9_town_104 (fun H locs hP hS => ?_)
          refine lv_aload_n hx hb dX9_town_107 rfl (lv_at hl 3 rfl) ?_
          refine gX9_1 C hP k_262 dX9_town_108 ?_
          refine gX7_1N C hP k_117 dX9_town_111 ?_
          exact q_iret C hr hlk hP hS (Option.some.inj hf) dX9_town_114
        · replace hf := zf c13 hf
          refine lv_bipush (v := (-100)) hx hb dX9_town_70 (by decide) ?_
          refine lv_iload hx hb dX9_town_72 (lv_at hl 0 rfl) ?_
          refine lv_isub hx hb dX9_town_74 ?_
          exact q_iret C hr hlk hP hS (Option.some.inj hf) dX9_town_75
      · replace hf := zf c10 hf
        refine lv_aload_n hx hb dX9_town_46 rfl (lv_at hl 2 rfl) ?_
        refine lv_iload hx hb dX9_town_47 (lv_at hl 0 rfl) ?_
        obtain ⟨⟨r19, σ20⟩, hg18, hf⟩ := zb hf
        try dsimp only at hf
        refine q_calli C hS (q_runV C hP (c_X9_cameTo (l := l) C.2.2.1 hg18) (ci := 8) (As := [.int r9]) (rest := []) ⟨gd_V k_305 k_307 k_1 k_44 k_308, ⟨rfl, rfl⟩, kd_X9_cameTo, ⟨Nat.le_trans (Nat.le_of_ble_eq_true rfl) hR.1, Nat.le_trans (Nat.le_of_ble_eq_true rfl) hR.2⟩⟩ (o := 0) rfl rfl rfl rfl rfl (Nat.le_of_ble_eq_true rfl) hl.1 dX9_town_49) (fun H locs hP hS => ?_)
        exact q_iret C hr hlk hP hS (Option.some.inj hf) dX9_town_52
    · replace hf := zf c6 hf
      refine lv_bipush (v := (-2)) hx hb dX9_town_27 (by decide) ?_
      exact q_iret C hr hlk hP hS (Option.some.inj hf) dX9_town_29
theorem kd_X9_town : yX9_town.cls = RX9 ∧ yX9_town.cls ≠ "java/lang/invoke/MethodHandle" ∧ yX9_town.cls ≠ "java/lang/invoke/VarHandle" ∧ (parseMethodDescriptor yX9_town.desc).map (fun d => d.parameters.length) = some 4 := by decide +kernel
def r_X9_town : Room := { frames := 3, cells := 0, slots := 0, locals := 74 }
set_option maxRecDepth 100000 in
set_option maxHeartbeats 4000000 in
theorem c_X9_town {l : Launch} {D : va_G} {ad : Nat → Nat} {cs : Nat → ClassId} (hD : ∀ σ, va_D (AX ad) (WX ad cs σ)) {σ : Sg} {x1 : Int32} {x2 : Int32} {x3 : Int32} {x4 : Int32} {res : Int32 × Sg} (hf : f_X9_town σ x1 x2 x3 x4 = some res) : Met l yX9_town (wm yX9_town cX9_town 8 (some .int)) r_X9_town (va_Pc [.ref (ad 0), .int x1, .int x2, .int x3, .int x4] (BW D (TYX cs) (WX ad cs) σ)) (QI D (TYX cs) (WX ad cs) (AX ad) res.1 res.2) 0 0 (AX ad) := by
  refine q_enter (by decide) hD (Nat.le_of_ble_eq_true rfl) ?_
  intro p e s m below meth c C hr hlk hP hS ls hl
  exact w_X9_town C hr hlk ⟨Nat.le_of_ble_eq_true rfl, Nat.le_of_ble_eq_true rfl⟩ hf hP hS hl

set_option maxRecDepth 100000 in
set_option maxHeartbeats 4000000 in
theorem w_X9_ofThing (C : CX p m c cX9_ofThing 4 s args RX9 D (TYX cs) (WX ad cs) (AX ad)) (hr : meth.sig.returnType = (some .int)) (hlk : meth.locks = false) (hR : 1 ≤ R.frames ∧ 21 ≤ R.locals) {σ : Sg} {x1 : Int32} {x2 : Int32} {res : Int32} (hf : f_X9_ofThing σ x1 x2 = some res) {H : Heap} {locs : List Loc} (hP : va_P D vwCl (WX ad cs σ) H) (hS : va_S (AX ad) s.heap H locs) {ls : Array Slot} (hl : lv_has ls 4 [(0, .ref (ad 0)), (1, .int x1), (2, .int x2)]) : W p l e R s m args below meth c H locs 0 0 (MQ below (QI D (TYX cs) (WX ad cs) (AX ad) res σ) args s 0 0 (AX ad)) (F0 m 0 ls []) := by
  have hx := C.1.1
  have hb := C.1.2.1
  unfold f_X9_ofThing at hf
  refine lv_aload_n hx hb dX9_ofThing_0 rfl (lv_at hl 0 rfl) ?_
  refine gX9_1 C hP k_262 dX9_ofThing_1 ?_
  refine lv_iload_n hx hb dX9_ofThing_4 rfl (lv_at hl 1 rfl) ?_
  obtain ⟨r2, hg1, hf⟩ := zb hf
  try dsimp only at hf
  refine q_callr C hS (q_runV C hP (c_X7_thingAt (l := l) C.2.2.1 hg1) (ci := 6) (As := [.int x1]) (rest := []) ⟨gd_V k_357 k_340 k_341 k_45 k_342, ⟨rfl, rfl⟩, kd_X7_thingAt, ⟨Nat.le_trans (Nat.le_of_ble_eq_true rfl) hR.1, Nat.le_trans (Nat.le_of_ble_eq_true rfl) hR.2⟩⟩ (o := 2) rfl rfl rfl rfl rfl (Nat.le_of_ble_eq_true rfl) hl.1 dX9_ofThing_5) (fun H locs hP hS => ?_)
  refine q_astoreq_n (lv' := [(3, va_rf (Option.map (fun t => ad (4 + t)) r2)), (0, .ref (ad 0)), (1, .int x1), (2, .int x2)]) C dX9_ofThing_8 rfl hl (by decide) rfl (fun ls hl => ?_)
  refine q_aloadq_n C dX9_ofThing_9 rfl (lv_at hl 0 rfl) ?_
  rcases r2 with _ | t3
  · refine lv_ifnonnullN hx hb dX9_ofThing_10 ?_
    try dsimp only at hf
    refine lv_iconst (v := (-1)) hx hb dX9_ofThing_13 (by decide) ?_
    exact q_iret C hr hlk hP hS (congrArg (fun q => (q, σ)) (Option.some.inj hf)) dX9_ofThing_14
  · refine lv_ifnonnull (tgt := 15) hx hb dX9_ofThing_10 (by decide) ?_
    try dsimp only at hf
    refine lv_iload_n hx hb dX9_ofThing_15 rfl (lv_at hl 3 rfl) ?_
    by_cases c4 : x2 = 0
    · replace hf := zt c4 hf
      refine lv_tableIn (off := 36) (tgt := 52) hx hb dX9_ofThing_16 (by rw [c4]; decide) (by rw [c4]; decide) (by rw [c4]; rfl) (by decide) ?_
      refine lv_aload_n hx hb dX9_ofThing_52 rfl (lv_at hl 0 rfl) ?_
      obtain ⟨h5, hf⟩ := zc hf
      refine gX6_1N C hP h5 k_87 dX9_ofThing_53 ?_
      exact q_iret C hr hlk hP hS (congrArg (fun q => (q, σ)) (Option.some.inj hf)) dX9_ofThing_56
    · replace hf := zf c4 hf
      by_cases c6 : x2 = 1
      · replace hf := zt c6 hf
        refine lv_tableIn (off := 41) (tgt := 57) hx hb dX9_ofThing_16 (by rw [c6]; decide) (by rw [c6]; decide) (by rw [c6]; rfl) (by decide) ?_
        refine lv_aload_n hx hb dX9_ofThing_57 rfl (lv_at hl 0 rfl) ?_
        obtain ⟨h7, hf⟩ := zc hf
        refine gX6_2N C hP h7 k_89 dX9_ofThing_58 ?_
        exact q_iret C hr hlk hP hS (congrArg (fun q => (q, σ)) (Option.some.inj hf)) dX9_ofThing_61
      · replace hf := zf c6 hf
        by_cases c8 : x2 = 2
        · replace hf := zt c8 hf
          refine lv_tableIn (off := 46) (tgt := 62) hx hb dX9_ofThing_16 (by rw [c8]; decide) (by rw [c8]; decide) (by rw [c8]; rfl) (by decide) ?_
          refine lv_aload_n hx hb dX9_ofThing_62 rfl (lv_at hl 0 rfl) ?_
          obtain ⟨h9, hf⟩ := zc hf
          refine gX6_3N C hP h9 k_94 dX9_ofThing_63 ?_
          exact q_iret C hr hlk hP hS (congrArg (fun q => (q, σ)) (Option.some.inj hf)) dX9_ofThing_66
        · replace hf := zf c8 hf
          by_cases c10 : x2 = 3
          · replace hf := zt c10 hf
            refine lv_tableIn (off := 51) (tgt := 67) hx hb dX9_ofThing_16 (by rw [c10]; decide) (by rw [c10]; decide) (by rw [c10]; rfl) (by decide) ?_
            refine lv_aload_n hx hb dX9_ofThing_67 rfl (lv_at hl 0 rfl) ?_
            obtain ⟨h11, hf⟩ := zc hf
            refine gX6_4N C hP h11 k_97 dX9_ofThing_68 ?_
            exact q_iret C hr hlk hP hS (congrArg (fun q => (q, σ)) (Option.some.inj hf)) dX9_ofThing_71
          · replace hf := zf c10 hf
            by_cases c12 : x2 = 4
            · replace hf := zt c12 hf
              refine lv_tableIn (off := 56) (tgt := 72) hx hb dX9_ofThing_16 (by rw [c12]; decide) (by rw [c12]; decide) (by rw [c12]; rfl) (by decide) ?_
              refine lv_aload_n hx hb dX9_ofThing_72 rfl (lv_at hl 0 rfl) ?_
              obtain ⟨h13, hf⟩ := zc hf
              refine gX6_5N C hP h13 k_100 dX9_ofThing_73 ?_
              exact q_iret C hr hlk hP hS (congrArg (fun q => (q, σ)) (Option.some.inj hf)) dX9_ofThing_76
            · replace hf := zf c12 hf
              have qc4 := lv_neT c4 (a := 0) rfl
              have qc6 := lv_neT c6 (a := 1) rfl
              have qc8 := lv_neT c8 (a := 2) rfl
              have qc10 := lv_neT c10 (a := 3) rfl
              have qc12 := lv_neT c12 (a := 4) rfl
              refine lv_tableOut (tgt := 77) hx hb dX9_ofThing_16 (by omega) (by decide) ?_
              refine lv_bipush (v := (-2)) hx hb dX9_ofThing_77 (by decide) ?_
              exact q_iret C hr hlk hP hS (congrArg (fun q => (q, σ)) (Option.some.inj hf)) dX9_ofThing_79
theorem kd_X9_ofThing : yX9_ofThing.cls = RX9 ∧ yX9_ofThing.cls ≠ "java/lang/invoke/MethodHandle" ∧ yX9_ofThing.cls ≠ "java/lang/invoke/VarHandle" ∧ (parseMethodDescriptor yX9_ofThing.desc).map (fun d => d.parameters.length) = some 2 := by decide +kernel
def r_X9_ofThing : Room := { frames := 1, cells := 0, slots := 0, locals := 21 }
set_option maxRecDepth 100000 in
set_option maxHeartbeats 4000000 in
theorem c_X9_ofThing {l : Launch} {D : va_G} {ad : Nat → Nat} {cs : Nat → ClassId} (hD : ∀ σ, va_D (AX ad) (WX ad cs σ)) {σ : Sg} {x1 : Int32} {x2 : Int32} {res : Int32} (hf : f_X9_ofThing σ x1 x2 = some res) : Met l yX9_ofThing (wm yX9_ofThing cX9_ofThing 4 (some .int)) r_X9_ofThing (va_Pc [.ref (ad 0), .int x1, .int x2] (BW D (TYX cs) (WX ad cs) σ)) (QI D (TYX cs) (WX ad cs) (AX ad) res σ) 0 0 (AX ad) := by
  refine q_enter (by decide) hD (Nat.le_of_ble_eq_true rfl) ?_
  intro p e s m below meth c C hr hlk hP hS ls hl
  exact w_X9_ofThing C hr hlk ⟨Nat.le_of_ble_eq_true rfl, Nat.le_of_ble_eq_true rfl⟩ hf hP hS hl

end

section
variable {p : Program} {l : Launch} {e : Env} {R : Room} {s : State} {m : MethodId} {args : Array Value} {below : List Frame} {meth : Method} {c : Code} {D : va_G} {ad : Nat → Nat} {cs : Nat → ClassId}
set_option maxRecDepth 100000 in
set_option maxHeartbeats 4000000 in
theorem w_X3_workUpTo_6 (C : CX p m c cX3_workUpTo 4 s args RX3 D (TYX cs) (WX ad cs) (AX ad)) (hr : meth.sig.returnType = none) (hlk : meth.locks = false) (hR : 3 ≤ R.frames ∧ 77 ≤ R.locals) {σ : Sg} {x1 : Int32} {x3 : Int32} {res : Sg} {ag6 : Int32 → Sg → Option (Sg)} (hag6 : ∀ (x3 : Int32) (σ : Sg) (H : Heap) (locs : List Loc) (ls : Array Slot), ag6 x3 σ = some res → va_P D vwCl (WX ad cs σ) H → va_S (AX ad) s.heap H locs → lv_has ls 4 [(0, .ref (ad 19)), (1, .int x1), (2, .ref (ad 12)), (3, .int x3)] → W p l e R s m args below meth c H locs 0 0 (MQ below (QV D (TYX cs) (WX ad cs) (AX ad) res) args s 0 0 (AX ad)) (F0 m 6 ls [])) (hf : f_X3_workUpTo_6 ag6 σ x1 x3 = some res) {H : Heap} {locs : List Loc} (hP : va_P D vwCl (WX ad cs σ) H) (hS : va_S (AX ad) s.heap H locs) {ls : Array Slot} (hl : lv_has ls 4 [(0, .ref (ad 19)), (1, .int x1), (2, .ref (ad 12)), (3, .int x3)]) : W p l e R s m args below meth c H locs 0 0 (MQ below (QV D (TYX cs) (WX ad cs) (AX ad) res) args s 0 0 (AX ad)) (F0 m 6 ls []) := by
  have hx := C.1.1
  have hb := C.1.2.1
  unfold f_X3_workUpTo_6 at hf
  refine lv_iload_n hx hb dX3_workUpTo_6 rfl (lv_at hl 3 rfl) ?_
  refine lv_iload_n hx hb dX3_workUpTo_7 rfl (lv_at hl 1 rfl) ?_
  refine lv_icmp_gt (tgt := 39) hx hb dX3_workUpTo_8 (by decide) (fun c1 => ?_) (fun c1 => ?_)
  · replace hf := zt c1 hf
    exact q_vret C hr hlk hP hS (Option.some.inj hf) dX3_workUpTo_39
  · replace hf := zf c1 hf
    refine lv_iload_n hx hb dX3_workUpTo_11 rfl (lv_at hl 3 rfl) ?_
    refine lv_bipush (v := 30) hx hb dX3_workUpTo_12 (by decide) ?_
    refine lv_icmp_ge (tgt := 39) hx hb dX3_workUpTo_14 (by decide) (fun c2 => ?_) (fun c2 => ?_)
    · replace hf := zt c2 hf
      exact q_vret C hr hlk hP hS (Option.some.inj hf) dX3_workUpTo_39
    · replace hf := zf c2 hf
      refine lv_aload_n hx hb dX3_workUpTo_17 rfl (lv_at hl 0 rfl) ?_
      refine lv_aload_n hx hb dX3_workUpTo_18 rfl (lv_at hl 0 rfl) ?_
      refine gX3_0 C hP k_175 dX3_workUpTo_19 ?_
      refine gX7_2N C hP k_121 dX3_workUpTo_22 ?_
      refine lv_aload_n hx hb dX3_workUpTo_25 rfl (lv_at hl 2 rfl) ?_
      refine lv_iload_n hx hb dX3_workUpTo_26 rfl (lv_at hl 3 rfl) ?_
      obtain ⟨r4, hg3, hf⟩ := zb hf
      try dsimp only at hf
      refine q_calli C hS (q_runV C hP (c_X1_brokenIn (l := l) C.2.2.1 hg3) (ci := 1) (As := [.int x3]) (rest := [.int (σ 2 2), .ref (ad 19)]) ⟨gd_V k_393 k_394 k_395 k_47 k_396, ⟨rfl, rfl⟩, kd_X1_brokenIn, ⟨Nat.le_trans (Nat.le_of_ble_eq_true rfl) hR.1, Nat.le_trans (Nat.le_of_ble_eq_true rfl) hR.2⟩⟩ (o := 12) rfl rfl rfl rfl rfl (Nat.le_of_ble_eq_true rfl) hl.1 dX3_workUpTo_27) (fun H locs hP hS => ?_)
      obtain ⟨σ6, hg5, hf⟩ := zb hf
      try dsimp only at hf
      refine q_callv C hS (q_runV C hP (c_X3_workHour (l := l) C.2.2.1 hg5) (ci := 3) (As := [.int (σ 2 2), .int r4]) (rest := []) ⟨gd_V k_397 k_398 k_399 k_49 k_400, ⟨rfl, rfl⟩, kd_X3_workHour, ⟨Nat.le_trans (Nat.le_of_ble_eq_true rfl) hR.1, Nat.le_trans (Nat.le_of_ble_eq_true rfl) hR.2⟩⟩ (o := 19) rfl rfl rfl rfl rfl (Nat.le_of_ble_eq_true rfl) hl.1 dX3_workUpTo_30) (fun H locs hP hS => ?_)
      refine lv_iinc (v := x3 + 1) (lv' := [(3, .int (x3 + 1)), (0, .ref (ad 19)), (1, .int x1), (2, .ref (ad 12))]) hx hb dX3_workUpTo_33 hl (k := 3) rfl rfl (by decide) rfl (fun ls hl => ?_)
      refine lv_goto (tgt := 6) hx hb dX3_workUpTo_36 (by decide) ?_
      exact hag6 _ _ _ _ _ hf hP hS (lv_sub hl [1, 2, 3, 0] rfl)
set_option maxRecDepth 100000 in
set_option maxHeartbeats 4000000 in
theorem wl_X3_workUpTo_6 (C : CX p m c cX3_workUpTo 4 s args RX3 D (TYX cs) (WX ad cs) (AX ad)) (hr : meth.sig.returnType = none) (hlk : meth.locks = false) (hR : 3 ≤ R.frames ∧ 77 ≤ R.locals) {x1 : Int32} {res : Sg} : ∀ n : Nat, ∀ (x3 : Int32) (σ : Sg) (H : Heap) (locs : List Loc) (ls : Array Slot), l_X3_workUpTo_6 x1 n x3 σ = some res → va_P D vwCl (WX ad cs σ) H → va_S (AX ad) s.heap H locs → lv_has ls 4 [(0, .ref (ad 19)), (1, .int x1), (2, .ref (ad 12)), (3, .int x3)] → W p l e R s m args below meth c H locs 0 0 (MQ below (QV D (TYX cs) (WX ad cs) (AX ad) res) args s 0 0 (AX ad)) (F0 m 6 ls []) := by
  intro n
  induction n with
  | zero => intro x3 σ H locs ls hf; cases hf
  | succ n ih =>
    intro x3 σ H locs ls hf hP hS hl
    exact w_X3_workUpTo_6 C hr hlk hR (ag6 := l_X3_workUpTo_6 x1 n) ih hf hP hS hl
set_option maxRecDepth 100000 in
set_option maxHeartbeats 4000000 in
theorem w_X3_workUpTo (C : CX p m c cX3_workUpTo 4 s args RX3 D (TYX cs) (WX ad cs) (AX ad)) (hr : meth.sig.returnType = none) (hlk : meth.locks = false) (hR : 3 ≤ R.frames ∧ 77 ≤ R.locals) {σ : Sg} {x1 : Int32} {res : Sg} (hf : f_X3_workUpTo σ x1 = some res) {H : Heap} {locs : List Loc} (hP : va_P D vwCl (WX ad cs σ) H) (hS : va_S (AX ad) s.heap H locs) {ls : Array Slot} (hl : lv_has ls 4 [(0, .ref (ad 19)), (1, .int x1), (2, .ref (ad 12))]) : W p l e R s m args below meth c H locs 0 0 (MQ below (QV D (TYX cs) (WX ad cs) (AX ad) res) args s 0 0 (AX ad)) (F0 m 0 ls []) := by
  have hx := C.1.1
  have hb := C.1.2.1
  unfold f_X3_workUpTo at hf
  refine lv_aload_n hx hb dX3_workUpTo_0 rfl (lv_at hl 0 rfl) ?_
  obtain ⟨σ2, hg1, hf⟩ := zb hf
  try dsimp only at hf
  refine q_callv C hS (q_runV C hP (c_X3_forget (l := l) C.2.2.1 hg1) (ci := 3) (As := []) (rest := []) ⟨gd_V k_386 k_387 k_388 k_49 k_389, ⟨rfl, rfl⟩, kd_X3_forget, ⟨Nat.le_trans (Nat.le_of_ble_eq_true rfl) hR.1, Nat.le_trans (Nat.le_of_ble_eq_true rfl) hR.2⟩⟩ (o := 19) rfl rfl rfl rfl rfl (Nat.le_of_ble_eq_true rfl) hl.1 dX3_workUpTo_1) (fun H locs hP hS => ?_)
  refine lv_iconst (v := 0) hx hb dX3_workUpTo_4 (by decide) ?_
  refine lv_istore_n (lv' := [(3, .int 0), (0, .ref (ad 19)), (1, .int x1), (2, .ref (ad 12))]) hx hb dX3_workUpTo_5 rfl hl (by decide) rfl (fun ls hl => ?_)
  exact wl_X3_workUpTo_6 C hr hlk hR fu _ _ _ _ _ hf hP hS (lv_sub hl [1, 2, 3, 0] rfl)
theorem kd_X3_workUpTo : yX3_workUpTo.cls = RX3 ∧ yX3_workUpTo.cls ≠ "java/lang/invoke/MethodHandle" ∧ yX3_workUpTo.cls ≠ "java/lang/invoke/VarHandle" ∧ (parseMethodDescriptor yX3_workUpTo.desc).map (fun d => d.parameters.length) = some 2 := by decide +kernel
def r_X3_workUpTo : Room := { frames := 3, cells := 0, slots := 0, locals := 77 }
set_option maxRecDepth 100000 in
set_option maxHeartbeats 4000000 in
theorem c_X3_workUpTo {l : Launch} {D : va_G} {ad : Nat → Nat} {cs : Nat → ClassId} (hD : ∀ σ, va_D (AX ad) (WX ad cs σ)) {σ : Sg} {x1 : Int32} {res : Sg} (hf : f_X3_workUpTo σ x1 = some res) : Met l yX3_workUpTo (wm yX3_workUpTo cX3_workUpTo 4 none) r_X3_workUpTo (va_Pc [.ref (ad 19), .int x1, .ref (ad 12)] (BW D (TYX cs) (WX ad cs) σ)) (QV D (TYX cs) (WX ad cs) (AX ad) res) 0 0 (AX ad) := by
  refine q_enter (by decide) hD (Nat.le_of_ble_eq_true rfl) ?_
  intro p e s m below meth c C hr hlk hP hS ls hl
  exact w_X3_workUpTo C hr hlk ⟨Nat.le_of_ble_eq_true rfl, Nat.le_of_ble_eq_true rfl⟩ hf hP hS hl

set_option maxRecDepth 100000 in
set_option maxHeartbeats 4000000 in
theorem w_X3_workHourZero (C : CX p m c cX3_workHourZero 3 s args RX3 D (TYX cs) (WX ad cs) (AX ad)) (hr : meth.sig.returnType = none) (hlk : meth.locks = false) (hR : 3 ≤ R.frames ∧ 77 ≤ R.locals) {σ : Sg} {x1 : Int32} {x2 : Int32} {res : Sg} (hf : f_X3_workHourZero σ x1 x2 = some res) {H : Heap} {locs : List Loc} (hP : va_P D vwCl (WX ad cs σ) H) (hS : va_S (AX ad) s.heap H locs) {ls : Array Slot} (hl : lv_has ls 3 [(0, .ref (ad 19)), (1, .int x1), (2, .int x2)]) : W p l e R s m args below meth c H locs 0 0 (MQ below (QV D (TYX cs) (WX ad cs) (AX ad) res) args s 0 0 (AX ad)) (F0 m 0 ls []) := by
  have hx := C.1.1
  have hb := C.1.2.1
  unfold f_X3_workHourZero at hf
  refine lv_aload_n hx hb dX3_workHourZero_0 rfl (lv_at hl 0 rfl) ?_
  obtain ⟨σ2, hg1, hf⟩ := zb hf
  try dsimp only at hf
  refine q_callv C hS (q_runV C hP (c_X3_forget (l := l) C.2.2.1 hg1) (ci := 3) (As := []) (rest := []) ⟨gd_V k_386 k_387 k_388 k_49 k_389, ⟨rfl, rfl⟩, kd_X3_forget, ⟨Nat.le_trans (Nat.le_of_ble_eq_true rfl) hR.1, Nat.le_trans (Nat.le_of_ble_eq_true rfl) hR.2⟩⟩ (o := 19) rfl rfl rfl rfl rfl (Nat.le_of_ble_eq_true rfl) hl.1 dX3_workHourZero_1) (fun H locs hP hS => ?_)
  refine lv_aload_n hx hb dX3_workHourZero_4 rfl (lv_at hl 0 rfl) ?_
  refine lv_iload_n hx hb dX3_workHourZero_5 rfl (lv_at hl 1 rfl) ?_
  refine lv_iload_n hx hb dX3_workHourZero_6 rfl (lv_at hl 2 rfl) ?_
  obtain ⟨σ4, hg3, hf⟩ := zb hf
  try dsimp only at hf
  refine q_callv C hS (q_runV C hP (c_X3_workHour (l := l) C.2.2.1 hg3) (ci := 3) (As := [.int x1, .int x2]) (rest := []) ⟨gd_V k_397 k_398 k_399 k_49 k_400, ⟨rfl, rfl⟩, kd_X3_workHour, ⟨Nat.le_trans (Nat.le_of_ble_eq_true rfl) hR.1, Nat.le_trans (Nat.le_of_ble_eq_true rfl) hR.2⟩⟩ (o := 19) rfl rfl rfl rfl rfl (Nat.le_of_ble_eq_true rfl) hl.1 dX3_workHourZero_7) (fun H locs hP hS => ?_)
  exact q_vret C hr hlk hP hS (Option.some.inj hf) dX3_workHourZero_10
theorem kd_X3_workHourZero : yX3_workHourZero.cls = RX3 ∧ yX3_workHourZero.cls ≠ "java/lang/invoke/MethodHandle" ∧ yX3_workHourZero.cls ≠ "java/lang/invoke/VarHandle" ∧ (parseMethodDescriptor yX3_workHourZero.desc).map (fun d => d.parameters.length) = some 2 := by decide +kernel
def r_X3_workHourZero : Room := { frames := 3, cells := 0, slots := 0, locals := 77 }
set_option maxRecDepth 100000 in
set_option maxHeartbeats 4000000 in
theorem c_X3_workHourZero {l : Launch} {D : va_G} {ad : Nat → Nat} {cs : Nat → ClassId} (hD : ∀ σ, va_D (AX ad) (WX ad cs σ)) {σ : Sg} {x1 : Int32} {x2 : Int32} {res : Sg} (hf : f_X3_workHourZero σ x1 x2 = some res) : Met l yX3_workHourZero (wm yX3_workHourZero cX3_workHourZero 3 none) r_X3_workHourZero (va_Pc [.ref (ad 19), .int x1, .int x2] (BW D (TYX cs) (WX ad cs) σ)) (QV D (TYX cs) (WX ad cs) (AX ad) res) 0 0 (AX ad) := by
  refine q_enter (by decide) hD (Nat.le_of_ble_eq_true rfl) ?_
  intro p e s m below meth c C hr hlk hP hS ls hl
  exact w_X3_workHourZero C hr hlk ⟨Nat.le_of_ble_eq_true rfl, Nat.le_of_ble_eq_true rfl⟩ hf hP hS hl

set_option maxRecDepth 100000 in
set_option maxHeartbeats 4000000 in
theorem w_X3_undoneUses_4 (C : CX p m c cX3_undoneUses 3 s args RX3 D (TYX cs) (WX ad cs) (AX ad)) (hr : meth.sig.returnType = (some .int)) (hlk : meth.locks = false) (hR : 0 ≤ R.frames ∧ 0 ≤ R.locals) {σ : Sg} {x1 : Int32} {x2 : Int32} {res : Int32} {ag4 : Int32 → Int32 → Option (Int32)} (hag4 : ∀ (x1 : Int32) (x2 : Int32) (H : Heap) (locs : List Loc) (ls : Array Slot), ag4 x1 x2 = some res → va_P D vwCl (WX ad cs σ) H → va_S (AX ad) s.heap H locs → lv_has ls 3 [(0, .ref (ad 19)), (1, .int x1), (2, .int x2)] → W p l e R s m args below meth c H locs 0 0 (MQ below (QI D (TYX cs) (WX ad cs) (AX ad) res σ) args s 0 0 (AX ad)) (F0 m 4 ls [])) (hf : f_X3_undoneUses_4 ag4 σ x1 x2 = some res) {H : Heap} {locs : List Loc} (hP : va_P D vwCl (WX ad cs σ) H) (hS : va_S (AX ad) s.heap H locs) {ls : Array Slot} (hl : lv_has ls 3 [(0, .ref (ad 19)), (1, .int x1), (2, .int x2)]) : W p l e R s m args below meth c H locs 0 0 (MQ below (QI D (TYX cs) (WX ad cs) (AX ad) res σ) args s 0 0 (AX ad)) (F0 m 4 ls []) := by
  have hx := C.1.1
  have hb := C.1.2.1
  unfold f_X3_undoneUses_4 at hf
  refine lv_iload_n hx hb dX3_undoneUses_4 rfl (lv_at hl 2 rfl) ?_
  refine lv_aload_n hx hb dX3_undoneUses_5 rfl (lv_at hl 0 rfl) ?_
  refine gX3_0 C hP k_175 dX3_undoneUses_6 ?_
  refine gX7_1N C hP k_119 dX3_undoneUses_9 ?_
  refine lv_icmp_ge (tgt := 44) hx hb dX3_undoneUses_12 (by decide) (fun c1 => ?_) (fun c1 => ?_)
  · replace hf := zt c1 hf
    refine lv_iload_n hx hb dX3_undoneUses_44 rfl (lv_at hl 1 rfl) ?_
    exact q_iret C hr hlk hP hS (congrArg (fun q => (q, σ)) (Option.some.inj hf)) dX3_undoneUses_45
  · replace hf := zf c1 hf
    refine lv_iload_n hx hb dX3_undoneUses_15 rfl (lv_at hl 2 rfl) ?_
    refine lv_bipush (v := 8) hx hb dX3_undoneUses_16 (by decide) ?_
    refine lv_icmp_ge (tgt := 44) hx hb dX3_undoneUses_18 (by decide) (fun c2 => ?_) (fun c2 => ?_)
    · replace hf := zt c2 hf
      refine lv_iload_n hx hb dX3_undoneUses_44 rfl (lv_at hl 1 rfl) ?_
      exact q_iret C hr hlk hP hS (congrArg (fun q => (q, σ)) (Option.some.inj hf)) dX3_undoneUses_45
    · replace hf := zf c2 hf
      refine lv_aload_n hx hb dX3_undoneUses_21 rfl (lv_at hl 0 rfl) ?_
      refine gX3_1 C hP k_176 dX3_undoneUses_22 ?_
      refine lv_iload_n hx hb dX3_undoneUses_25 rfl (lv_at hl 2 rfl) ?_
      obtain ⟨h3, hf⟩ := zc hf
      refine aldX C hP (n := 8) rfl h3 dX3_undoneUses_26 ?_
      refine lv_bipush (v := (-9)) hx hb dX3_undoneUses_27 (by decide) ?_
      refine lv_icmp_ne (tgt := 38) hx hb dX3_undoneUses_29 (by decide) (fun c4 => ?_) (fun c4 => ?_)
      · replace hf := zf c4 hf
        refine lv_iinc (v := x2 + 1) (lv' := [(2, .int (x2 + 1)), (0, .ref (ad 19)), (1, .int x1)]) hx hb dX3_undoneUses_38 hl (k := 2) rfl rfl (by decide) rfl (fun ls hl => ?_)
        refine lv_goto (tgt := 4) hx hb dX3_undoneUses_41 (by decide) ?_
        exact hag4 _ _ _ _ _ hf hP hS (lv_sub hl [1, 2, 0] rfl)
      · replace hf := zt c4 hf
        refine lv_iload_n hx hb dX3_undoneUses_32 rfl (lv_at hl 1 rfl) ?_
        refine lv_iconst (v := 1) hx hb dX3_undoneUses_33 (by decide) ?_
        refine lv_iload_n hx hb dX3_undoneUses_34 rfl (lv_at hl 2 rfl) ?_
        refine lv_ishl hx hb dX3_undoneUses_35 ?_
        refine lv_ior hx hb dX3_undoneUses_36 ?_
        refine lv_istore_n (lv' := [(1, .int (x1 ||| ((1 : Int32) <<< (x2 &&& 31)))), (0, .ref (ad 19)), (2, .int x2)]) hx hb dX3_undoneUses_37 rfl hl (by decide) rfl (fun ls hl => ?_)
        refine lv_iinc (v := x2 + 1) (lv' := [(2, .int (x2 + 1)), (1, .int (x1 ||| ((1 : Int32) <<< (x2 &&& 31)))), (0, .ref (ad 19))]) hx hb dX3_undoneUses_38 hl (k := 2) rfl rfl (by decide) rfl (fun ls hl => ?_)
        refine lv_goto (tgt := 4) hx hb dX3_undoneUses_41 (by decide) ?_
        exact hag4 _ _ _ _ _ hf hP hS (lv_sub hl [2, 1, 0] rfl)
set_option maxRecDepth 100000 in
set_option maxHeartbeats 4000000 in
theorem wl_X3_undoneUses_4 (C : CX p m c cX3_undoneUses 3 s args RX3 D (TYX cs) (WX ad cs) (AX ad)) (hr : meth.sig.returnType = (some .int)) (hlk : meth.locks = false) (hR : 0 ≤ R.frames ∧ 0 ≤ R.locals) {σ : Sg}  {res : Int32} : ∀ n : Nat, ∀ (x1 : Int32) (x2 : Int32) (H : Heap) (locs : List Loc) (ls : Array Slot), l_X3_undoneUses_4 σ n x1 x2 = some res → va_P D vwCl (WX ad cs σ) H → va_S (AX ad) s.heap H locs → lv_has ls 3 [(0, .ref (ad 19)), (1, .int x1), (2, .int x2)] → W p l e R s m args below meth c H locs 0 0 (MQ below (QI D (TYX cs) (WX ad cs) (AX ad) res σ) args s 0 0 (AX ad)) (F0 m 4 ls []) := by
  intro n
  induction n with
  | zero => intro x1 x2 H locs ls hf; cases hf
  | succ n ih =>
    intro x1 x2 H locs ls hf hP hS hl
    exact w_X3_undoneUses_4 C hr hlk hR (ag4 := l_X3_undoneUses_4 σ n) ih hf hP hS hl
set_option maxRecDepth 100000 in
set_option maxHeartbeats 4000000 in
theorem w_X3_undoneUses (C : CX p m c cX3_undoneUses 3 s args RX3 D (TYX cs) (WX ad cs) (AX ad)) (hr : meth.sig.returnType = (some .int)) (hlk : meth.locks = false) (hR : 0 ≤ R.frames ∧ 0 ≤ R.locals) {σ : Sg}  {res : Int32} (hf : f_X3_undoneUses σ = some res) {H : Heap} {locs : List Loc} (hP : va_P D vwCl (WX ad cs σ) H) (hS : va_S (AX ad) s.heap H locs) {ls : Array Slot} (hl : lv_has ls 3 [(0, .ref (ad 19))]) : W p l e R s m args below meth c H locs 0 0 (MQ below (QI D (TYX cs) (WX ad cs) (AX ad) res σ) args s 0 0 (AX ad)) (F0 m 0 ls []) := by
  have hx := C.1.1
  have hb := C.1.2.1
  unfold f_X3_undoneUses at hf
  refine lv_iconst (v := 0) hx hb dX3_undoneUses_0 (by decide) ?_
  refine lv_istore_n (lv' := [(1, .int 0), (0, .ref (ad 19))]) hx hb dX3_undoneUses_1 rfl hl (by decide) rfl (fun ls hl => ?_)
  refine lv_iconst (v := 0) hx hb dX3_undoneUses_2 (by decide) ?_
  refine lv_istore_n (lv' := [(2, .int 0), (1, .int 0), (0, .ref (ad 19))]) hx hb dX3_undoneUses_3 rfl hl (by decide) rfl (fun ls hl => ?_)
  exact wl_X3_undoneUses_4 C hr hlk hR fu _ _ _ _ _ hf hP hS (lv_sub hl [2, 1, 0] rfl)
theorem kd_X3_undoneUses : yX3_undoneUses.cls = RX3 ∧ yX3_undoneUses.cls ≠ "java/lang/invoke/MethodHandle" ∧ yX3_undoneUses.cls ≠ "java/lang/invoke/VarHandle" ∧ (parseMethodDescriptor yX3_undoneUses.desc).map (fun d => d.parameters.length) = some 0 := by decide +kernel
def r_X3_undoneUses : Room := { frames := 0, cells := 0, slots := 0, locals := 0 }
set_option maxRecDepth 100000 in
set_option maxHeartbeats 4000000 in
theorem c_X3_undoneUses {l : Launch} {D : va_G} {ad : Nat → Nat} {cs : Nat → ClassId} (hD : ∀ σ, va_D (AX ad) (WX ad cs σ)) {σ : Sg}  {res : Int32} (hf : f_X3_undoneUses σ = some res) : Met l yX3_undoneUses (wm yX3_undoneUses cX3_undoneUses 3 (some .int)) r_X3_undoneUses (va_Pc [.ref (ad 19)] (BW D (TYX cs) (WX ad cs) σ)) (QI D (TYX cs) (WX ad cs) (AX ad) res σ) 0 0 (AX ad) := by
  refine q_enter (by decide) hD (Nat.le_of_ble_eq_true rfl) ?_
  intro p e s m below meth c C hr hlk hP hS ls hl
  exact w_X3_undoneUses C hr hlk ⟨Nat.le_of_ble_eq_true rfl, Nat.le_of_ble_eq_true rfl⟩ hf hP hS hl

set_option maxRecDepth 100000 in
set_option maxHeartbeats 4000000 in
theorem w_X3_points_4 (C : CX p m c cX3_points 4 s args RX3 D (TYX cs) (WX ad cs) (AX ad)) (hr : meth.sig.returnType = (some .int)) (hlk : meth.locks = false) (hR : 1 ≤ R.frames ∧ 21 ≤ R.locals) {σ : Sg} {x1 : Int32} {x2 : Int32} {res : Int32} {ag4 : Int32 → Int32 → Option (Int32)} (hag4 : ∀ (x1 : Int32) (x2 : Int32) (H : Heap) (locs : List Loc) (ls : Array Slot), ag4 x1 x2 = some res → va_P D vwCl (WX ad cs σ) H → va_S (AX ad) s.heap H locs → lv_has ls 4 [(0, .ref (ad 19)), (1, .int x1), (2, .int x2)] → W p l e R s m args below meth c H locs 0 0 (MQ below (QI D (TYX cs) (WX ad cs) (AX ad) res σ) args s 0 0 (AX ad)) (F0 m 4 ls [])) (hf : f_X3_points_4 ag4 σ x1 x2 = some res) {H : Heap} {locs : List Loc} (hP : va_P D vwCl (WX ad cs σ) H) (hS : va_S (AX ad) s.heap H locs) {ls : Array Slot} (hl : lv_has ls 4 [(0, .ref (ad 19)), (1, .int x1), (2, .int x2)]) : W p l e R s m args below meth c H locs 0 0 (MQ below (QI D (TYX cs) (WX ad cs) (AX ad) res σ) args s 0 0 (AX ad)) (F0 m 4 ls []) := by
  have hx := C.1.1
  have hb := C.1.2.1
  unfold f_X3_points_4 at hf
  refine lv_iload_n hx hb dX3_points_4 rfl (lv_at hl 2 rfl) ?_
  refine lv_aload_n hx hb dX3_points_5 rfl (lv_at hl 0 rfl) ?_
  refine gX3_0 C hP k_175 dX3_points_6 ?_
  refine gX7_1N C hP k_119 dX3_points_9 ?_
  refine lv_icmp_ge (tgt := 73) hx hb dX3_points_12 (by decide) (fun c1 => ?_) (fun c1 => ?_)
  · replace hf := zt c1 hf
    refine lv_iload_n hx hb dX3_points_73 rfl (lv_at hl 1 rfl) ?_
    exact q_iret C hr hlk hP hS (congrArg (fun q => (q, σ)) (Option.some.inj hf)) dX3_points_74
  · replace hf := zf c1 hf
    refine lv_iload_n hx hb dX3_points_15 rfl (lv_at hl 2 rfl) ?_
    refine lv_bipush (v := 8) hx hb dX3_points_16 (by decide) ?_
    refine lv_icmp_ge (tgt := 73) hx hb dX3_points_18 (by decide) (fun c2 => ?_) (fun c2 => ?_)
    · replace hf := zt c2 hf
      refine lv_iload_n hx hb dX3_points_73 rfl (lv_at hl 1 rfl) ?_
      exact q_iret C hr hlk hP hS (congrArg (fun q => (q, σ)) (Option.some.inj hf)) dX3_points_74
    · replace hf := zf c2 hf
      refine lv_aload_n hx hb dX3_points_21 rfl (lv_at hl 0 rfl) ?_
      refine gX3_0 C hP k_175 dX3_points_22 ?_
      refine lv_aload_n hx hb dX3_points_25 rfl (lv_at hl 0 rfl) ?_
      refine gX3_1 C hP k_176 dX3_points_26 ?_
      refine lv_iload_n hx hb dX3_points_29 rfl (lv_at hl 2 rfl) ?_
      obtain ⟨h3, hf⟩ := zc hf
      refine aldX C hP (n := 8) rfl h3 dX3_points_30 ?_
      obtain ⟨r5, hg4, hf⟩ := zb hf
      try dsimp only at hf
      refine q_callr C hS (q_runV C hP (c_X7_thingAt (l := l) C.2.2.1 hg4) (ci := 6) (As := [.int (σ 20 x2.toNatClampNeg)]) (rest := []) ⟨gd_V k_405 k_340 k_341 k_45 k_342, ⟨rfl, rfl⟩, kd_X7_thingAt, ⟨Nat.le_trans (Nat.le_of_ble_eq_true rfl) hR.1, Nat.le_trans (Nat.le_of_ble_eq_true rfl) hR.2⟩⟩ (o := 2) rfl rfl rfl rfl rfl (Nat.le_of_ble_eq_true rfl) hl.1 dX3_points_31) (fun H locs hP hS => ?_)
      refine q_astoreq_n (lv' := [(3, va_rf (Option.map (fun t => ad (4 + t)) r5)), (0, .ref (ad 19)), (1, .int x1), (2, .int x2)]) C dX3_points_34 rfl hl (by decide) rfl (fun ls hl => ?_)
      refine q_aloadq_n C dX3_points_35 rfl (lv_at hl 0 rfl) ?_
      rcases r5 with _ | t6
      · refine lv_ifnullN (tgt := 67) hx hb dX3_points_36 (by decide) ?_
        try dsimp only at hf
        refine lv_iinc (v := x2 + 1) (lv' := [(2, .int (x2 + 1)), (3, .null), (0, .ref (ad 19)), (1, .int x1)]) hx hb dX3_points_67 hl (k := 3) rfl rfl (by decide) rfl (fun ls hl => ?_)
        refine lv_goto (tgt := 4) hx hb dX3_points_70 (by decide) ?_
        exact hag4 _ _ _ _ _ hf hP hS (lv_sub hl [2, 3, 0] rfl)
      · refine lv_ifnull hx hb dX3_points_36 ?_
        try dsimp only at hf
        refine lv_iload_n hx hb dX3_points_39 rfl (lv_at hl 2 rfl) ?_
        refine lv_aload_n hx hb dX3_points_40 rfl (lv_at hl 0 rfl) ?_
        obtain ⟨h7, hf⟩ := zc hf
        refine gX6_0N C hP h7 k_83 dX3_points_41 ?_
        refine lv_iload_n hx hb dX3_points_44 rfl (lv_at hl 3 rfl) ?_
        refine lv_icmp_ne (tgt := 53) hx hb dX3_points_45 (by decide) (fun c8 => ?_) (fun c8 => ?_)
        · replace hf := zf c8 hf
          refine lv_bipush (v := 10) hx hb dX3_points_53 (by decide) ?_
          refine lv_aload_n hx hb dX3_points_55 rfl (lv_at hl 0 rfl) ?_
          refine gX6_5N C hP h7 k_101 dX3_points_56 ?_
          refine lv_imul hx hb dX3_points_59 ?_
          refine lv_bipush (v := 99) hx hb dX3_points_60 (by decide) ?_
          refine q_min C hl.1 k_438 k_337 k_55 k_338 (Nat.le_of_ble_eq_true rfl) ⟨Nat.le_trans (Nat.le_of_ble_eq_true rfl) hR.1, Nat.le_trans (Nat.le_of_ble_eq_true rfl) hR.2⟩ dX3_points_62 ?_
          refine lv_iadd hx hb dX3_points_65 ?_
          refine lv_istore_n (lv' := [(1, .int (x1 + (if 99 < ((10 : Int32) * (σ (4 + t6) 5)) then 99 else ((10 : Int32) * (σ (4 + t6) 5))))), (3, .ref (ad (4 + t6))), (0, .ref (ad 19)), (2, .int x2)]) hx hb dX3_points_66 rfl hl (by decide) rfl (fun ls hl => ?_)
          refine lv_iinc (v := x2 + 1) (lv' := [(2, .int (x2 + 1)), (1, .int (x1 + (if 99 < ((10 : Int32) * (σ (4 + t6) 5)) then 99 else ((10 : Int32) * (σ (4 + t6) 5))))), (3, .ref (ad (4 + t6))), (0, .ref (ad 19))]) hx hb dX3_points_67 hl (k := 3) rfl rfl (by decide) rfl (fun ls hl => ?_)
          refine lv_goto (tgt := 4) hx hb dX3_points_70 (by decide) ?_
          exact hag4 _ _ _ _ _ hf hP hS (lv_sub hl [3, 1, 0] rfl)
        · replace hf := zt c8 hf
          refine lv_bipush (v := 100) hx hb dX3_points_48 (by decide) ?_
          refine lv_goto (tgt := 65) hx hb dX3_points_50 (by decide) ?_
          refine lv_iadd hx hb dX3_points_65 ?_
          refine lv_istore_n (lv' := [(1, .int (x1 + 100)), (3, .ref (ad (4 + t6))), (0, .ref (ad 19)), (2, .int x2)]) hx hb dX3_points_66 rfl hl (by decide) rfl (fun ls hl => ?_)
          refine lv_iinc (v := x2 + 1) (lv' := [(2, .int (x2 + 1)), (1, .int (x1 + 100)), (3, .ref (ad (4 + t6))), (0, .ref (ad 19))]) hx hb dX3_points_67 hl (k := 3) rfl rfl (by decide) rfl (fun ls hl => ?_)
          refine lv_goto (tgt := 4) hx hb dX3_points_70 (by decide) ?_
          exact hag4 _ _ _ _ _ hf hP hS (lv_sub hl [3, 1, 0] rfl)
set_option maxRecDepth 100000 in
set_option maxHeartbeats 4000000 in
theorem wl_X3_points_4 (C : CX p m c cX3_points 4 s args RX3 D (TYX cs) (WX ad cs) (AX ad)) (hr : meth.sig.returnType = (some .int)) (hlk : meth.locks = false) (hR : 1 ≤ R.frames ∧ 21 ≤ R.locals) {σ : Sg}  {res : Int32} : ∀ n : Nat, ∀ (x1 : Int32) (x2 : Int32) (H : Heap) (locs : List Loc) (ls : Array Slot), l_X3_points_4 σ n x1 x2 = some res → va_P D vwCl (WX ad cs σ) H → va_S (AX ad) s.heap H locs → lv_has ls 4 [(0, .ref (ad 19)), (1, .int x1), (2, .int x2)] → W p l e R s m args below meth c H locs 0 0 (MQ below (QI D (TYX cs) (WX ad cs) (AX ad) res σ) args s 0 0 (AX ad)) (F0 m 4 ls []) := by
  intro n
  induction n with
  | zero => intro x1 x2 H locs ls hf; cases hf
  | succ n ih =>
    intro x1 x2 H locs ls hf hP hS hl
    exact w_X3_points_4 C hr hlk hR (ag4 := l_X3_points_4 σ n) ih hf hP hS hl
set_option maxRecDepth 100000 in
set_option maxHeartbeats 4000000 in
theorem w_X3_points (C : CX p m c cX3_points 4 s args RX3 D (TYX cs) (WX ad cs) (AX ad)) (hr : meth.sig.returnType = (some .int)) (hlk : meth.locks = false) (hR : 1 ≤ R.frames ∧ 21 ≤ R.locals) {σ : Sg}  {res : Int32} (hf : f_X3_points σ = some res) {H : Heap} {locs : List Loc} (hP : va_P D vwCl (WX ad cs σ) H) (hS : va_S (AX ad) s.heap H locs) {ls : Array Slot} (hl : lv_has ls 4 [(0, .ref (ad 19))]) : W p l e R s m args below meth c H locs 0 0 (MQ below (QI D (TYX cs) (WX ad cs) (AX ad) res σ) args s 0 0 (AX ad)) (F0 m 0 ls []) := by
  have hx := C.1.1
  have hb := C.1.2.1
  unfold f_X3_points at hf
  refine lv_iconst (v := 0) hx hb dX3_points_0 (by decide) ?_
  refine lv_istore_n (lv' := [(1, .int 0), (0, .ref (ad 19))]) hx hb dX3_points_1 rfl hl (by decide) rfl (fun ls hl => ?_)
  refine lv_iconst (v := 0) hx hb dX3_points_2 (by decide) ?_
  refine lv_istore_n (lv' := [(2, .int 0), (1, .int 0), (0, .ref (ad 19))]) hx hb dX3_points_3 rfl hl (by decide) rfl (fun ls hl => ?_)
  exact wl_X3_points_4 C hr hlk hR fu _ _ _ _ _ hf hP hS (lv_sub hl [2, 1, 0] rfl)
theorem kd_X3_points : yX3_points.cls = RX3 ∧ yX3_points.cls ≠ "java/lang/invoke/MethodHandle" ∧ yX3_points.cls ≠ "java/lang/invoke/VarHandle" ∧ (parseMethodDescriptor yX3_points.desc).map (fun d => d.parameters.length) = some 0 := by decide +kernel
def r_X3_points : Room := { frames := 1, cells := 0, slots := 0, locals := 21 }
set_option maxRecDepth 100000 in
set_option maxHeartbeats 4000000 in
theorem c_X3_points {l : Launch} {D : va_G} {ad : Nat → Nat} {cs : Nat → ClassId} (hD : ∀ σ, va_D (AX ad) (WX ad cs σ)) {σ : Sg}  {res : Int32} (hf : f_X3_points σ = some res) : Met l yX3_points (wm yX3_points cX3_points 4 (some .int)) r_X3_points (va_Pc [.ref (ad 19)] (BW D (TYX cs) (WX ad cs) σ)) (QI D (TYX cs) (WX ad cs) (AX ad) res σ) 0 0 (AX ad) := by
  refine q_enter (by decide) hD (Nat.le_of_ble_eq_true rfl) ?_
  intro p e s m below meth c C hr hlk hP hS ls hl
  exact w_X3_points C hr hlk ⟨Nat.le_of_ble_eq_true rfl, Nat.le_of_ble_eq_true rfl⟩ hf hP hS hl

set_option maxRecDepth 100000 in
set_option maxHeartbeats 4000000 in
theorem w_X4_renew (C : CX p m c cX4_renew 3 s args RX4 D (TYX cs) (WX ad cs) (AX ad)) (hr : meth.sig.returnType = none) (hlk : meth.locks = false) (hR : 1 ≤ R.frames ∧ 23 ≤ R.locals) {σ : Sg} {x0 : Nat} {x1 : Int32} {x2 : Int32} {res : Sg} (hf : f_X4_renew σ x0 x1 x2 = some res) {H : Heap} {locs : List Loc} (hP : va_P D vwCl (WX ad cs σ) H) (hS : va_S (AX ad) s.heap H locs) {ls : Array Slot} (hl : lv_has ls 3 [(0, .ref (ad (24 + x0))), (1, .int x1), (2, .int x2)]) : W p l e R s m args below meth c H locs 0 0 (MQ below (QV D (TYX cs) (WX ad cs) (AX ad) res) args s 0 0 (AX ad)) (F0 m 0 ls []) := by
  have hx := C.1.1
  have hb := C.1.2.1
  unfold f_X4_renew at hf
  refine lv_aload_n hx hb dX4_renew_0 rfl (lv_at hl 0 rfl) ?_
  refine lv_iconst (v := 1) hx hb dX4_renew_1 (by decide) ?_
  obtain ⟨h1, hf⟩ := zc hf
  refine pX4_1 C hP h1 hS (by decide) k_247 dX4_renew_2 (fun H locs hP hS => ?_)
  refine lv_aload_n hx hb dX4_renew_5 rfl (lv_at hl 0 rfl) ?_
  refine lv_iload_n hx hb dX4_renew_6 rfl (lv_at hl 1 rfl) ?_
  refine pX4_2 C hP h1 hS k_249 dX4_renew_7 (fun H locs hP hS => ?_)
  refine lv_aload_n hx hb dX4_renew_10 rfl (lv_at hl 0 rfl) ?_
  refine lv_iload_n hx hb dX4_renew_11 rfl (lv_at hl 2 rfl) ?_
  refine lv_bipush (v := 60) hx hb dX4_renew_12 (by decide) ?_
  refine q_min C hl.1 k_572 k_337 k_55 k_338 (Nat.le_of_ble_eq_true rfl) ⟨Nat.le_trans (Nat.le_of_ble_eq_true rfl) hR.1, Nat.le_trans (Nat.le_of_ble_eq_true rfl) hR.2⟩ dX4_renew_14 ?_
  refine pX4_3 C hP h1 hS k_251 dX4_renew_17 (fun H locs hP hS => ?_)
  refine lv_aload_n hx hb dX4_renew_20 rfl (lv_at hl 0 rfl) ?_
  refine gX4_0 C hP h1 k_245 dX4_renew_21 ?_
  refine lv_iconst (v := 0) hx hb dX4_renew_24 (by decide) ?_
  refine q_callv C hS (q_runS C hP (c_fillX (l := l) C.2.2.1 (alX_c h1)) (As := [.ref (ad (28 + x0)), .int 0]) (rest := []) ⟨gd_S k_573 k_391 k_56 k_392, ⟨rfl, rfl⟩, kd_fill, ⟨Nat.le_trans (Nat.le_of_ble_eq_true rfl) hR.1, Nat.le_trans (Nat.le_of_ble_eq_true rfl) hR.2⟩⟩ rfl rfl (Nat.le_of_ble_eq_true rfl) hl.1 dX4_renew_25) (fun H locs hP hS => ?_)
  exact q_vret C hr hlk hP hS (Option.some.inj hf) dX4_renew_28
theorem kd_X4_renew : yX4_renew.cls = RX4 ∧ yX4_renew.cls ≠ "java/lang/invoke/MethodHandle" ∧ yX4_renew.cls ≠ "java/lang/invoke/VarHandle" ∧ (parseMethodDescriptor yX4_renew.desc).map (fun d => d.parameters.length) = some 2 := by decide +kernel
def r_X4_renew : Room := { frames := 1, cells := 0, slots := 0, locals := 23 }
set_option maxRecDepth 100000 in
set_option maxHeartbeats 4000000 in
theorem c_X4_renew {l : Launch} {D : va_G} {ad : Nat → Nat} {cs : Nat → ClassId} (hD : ∀ σ, va_D (AX ad) (WX ad cs σ)) {σ : Sg} {x0 : Nat} {x1 : Int32} {x2 : Int32} {res : Sg} (hf : f_X4_renew σ x0 x1 x2 = some res) : Met l yX4_renew (wm yX4_renew cX4_renew 3 none) r_X4_renew (va_Pc [.ref (ad (24 + x0)), .int x1, .int x2] (BW D (TYX cs) (WX ad cs) σ)) (QV D (TYX cs) (WX ad cs) (AX ad) res) 0 0 (AX ad) := by
  refine q_enter (by decide) hD (Nat.le_of_ble_eq_true rfl) ?_
  intro p e s m below meth c C hr hlk hP hS ls hl
  exact w_X4_renew C hr hlk ⟨Nat.le_of_ble_eq_true rfl, Nat.le_of_ble_eq_true rfl⟩ hf hP hS hl

set_option maxRecDepth 100000 in
set_option maxHeartbeats 4000000 in
theorem w_X4_isOver (C : CX p m c cX4_isOver 3 s args RX4 D (TYX cs) (WX ad cs) (AX ad)) (hr : meth.sig.returnType = (some .boolean)) (hlk : meth.locks = false) (hR : 0 ≤ R.frames ∧ 0 ≤ R.locals) {σ : Sg} {x0 : Nat} {x1 : Int32} {x2 : Int32} {res : Int32} (hf : f_X4_isOver σ x0 x1 x2 = some res) {H : Heap} {locs : List Loc} (hP : va_P D vwCl (WX ad cs σ) H) (hS : va_S (AX ad) s.heap H locs) {ls : Array Slot} (hl : lv_has ls 3 [(0, .ref (ad (24 + x0))), (1, .int x1), (2, .int x2)]) : W p l e R s m args below meth c H locs 0 0 (MQ below (QI D (TYX cs) (WX ad cs) (AX ad) res σ) args s 0 0 (AX ad)) (F0 m 0 ls []) := by
  have hx := C.1.1
  have hb := C.1.2.1
  unfold f_X4_isOver at hf
  refine lv_iload_n hx hb dX4_isOver_0 rfl (lv_at hl 1 rfl) ?_
  refine lv_if_lt (tgt := 22) hx hb dX4_isOver_1 (by decide) (fun c1 => ?_) (fun c1 => ?_)
  · replace hf := zt c1 hf
    refine lv_iconst (v := 1) hx hb dX4_isOver_22 (by decide) ?_
    refine lv_goto (tgt := 27) hx hb dX4_isOver_23 (by decide) ?_
    exact q_zret C hr hlk hP hS (congrArg (fun q => (q, σ)) (Option.some.inj hf)) (by decide) dX4_isOver_27
  · replace hf := zf c1 hf
    refine lv_iload_n hx hb dX4_isOver_4 rfl (lv_at hl 1 rfl) ?_
    refine lv_aload_n hx hb dX4_isOver_5 rfl (lv_at hl 0 rfl) ?_
    obtain ⟨h2, hf⟩ := zc hf
    refine gX4_3 C hP h2 k_251 dX4_isOver_6 ?_
    refine lv_icmp_gt (tgt := 22) hx hb dX4_isOver_9 (by decide) (fun c3 => ?_) (fun c3 => ?_)
    · replace hf := zt c3 hf
      refine lv_iconst (v := 1) hx hb dX4_isOver_22 (by decide) ?_
      refine lv_goto (tgt := 27) hx hb dX4_isOver_23 (by decide) ?_
      exact q_zret C hr hlk hP hS (congrArg (fun q => (q, σ)) (Option.some.inj hf)) (by decide) dX4_isOver_27
    · replace hf := zf c3 hf
      refine lv_iload_n hx hb dX4_isOver_12 rfl (lv_at hl 2 rfl) ?_
      refine lv_aload_n hx hb dX4_isOver_13 rfl (lv_at hl 0 rfl) ?_
      refine gX4_3 C hP h2 k_251 dX4_isOver_14 ?_
      refine lv_iload_n hx hb dX4_isOver_17 rfl (lv_at hl 1 rfl) ?_
      refine lv_isub hx hb dX4_isOver_18 ?_
      refine lv_icmp_le (tgt := 26) hx hb dX4_isOver_19 (by decide) (fun c4 => ?_) (fun c4 => ?_)
      · replace hf := zt c4 hf
        refine lv_iconst (v := 0) hx hb dX4_isOver_26 (by decide) ?_
        exact q_zret C hr hlk hP hS (congrArg (fun q => (q, σ)) (Option.some.inj hf)) (by decide) dX4_isOver_27
      · replace hf := zf c4 hf
        refine lv_iconst (v := 1) hx hb dX4_isOver_22 (by decide) ?_
        refine lv_goto (tgt := 27) hx hb dX4_isOver_23 (by decide) ?_
        exact q_zret C hr hlk hP hS (congrArg (fun q => (q, σ)) (Option.some.inj hf)) (by decide) dX4_isOver_27
theorem kd_X4_isOver : yX4_isOver.cls = RX4 ∧ yX4_isOver.cls ≠ "java/lang/invoke/MethodHandle" ∧ yX4_isOver.cls ≠ "java/lang/invoke/VarHandle" ∧ (parseMethodDescriptor yX4_isOver.desc).map (fun d => d.parameters.length) = some 2 := by decide +kernel
def r_X4_isOver : Room := { frames := 0, cells := 0, slots := 0, locals := 0 }
set_option maxRecDepth 100000 in
set_option maxHeartbeats 4000000 in
theorem c_X4_isOver {l : Launch} {D : va_G} {ad : Nat → Nat} {cs : Nat → ClassId} (hD : ∀ σ, va_D (AX ad) (WX ad cs σ)) {σ : Sg} {x0 : Nat} {x1 : Int32} {x2 : Int32} {res : Int32} (hf : f_X4_isOver σ x0 x1 x2 = some res) : Met l yX4_isOver (wm yX4_isOver cX4_isOver 3 (some .boolean)) r_X4_isOver (va_Pc [.ref (ad (24 + x0)), .int x1, .int x2] (BW D (TYX cs) (WX ad cs) σ)) (QI D (TYX cs) (WX ad cs) (AX ad) res σ) 0 0 (AX ad) := by
  refine q_enter (by decide) hD (Nat.le_of_ble_eq_true rfl) ?_
  intro p e s m below meth c C hr hlk hP hS ls hl
  exact w_X4_isOver C hr hlk ⟨Nat.le_of_ble_eq_true rfl, Nat.le_of_ble_eq_true rfl⟩ hf hP hS hl

set_option maxRecDepth 100000 in
set_option maxHeartbeats 4000000 in
theorem w_X4_rangeFault (C : CX p m c cX4_rangeFault 4 s args RX4 D (TYX cs) (WX ad cs) (AX ad)) (hr : meth.sig.returnType = (some .int)) (hlk : meth.locks = false) (hR : 1 ≤ R.frames ∧ 22 ≤ R.locals) {σ : Sg} {x0 : Nat} {x1 : Int32} {x2 : Int32} {x3 : Int32} {res : Int32} (hf : f_X4_rangeFault σ x0 x1 x2 x3 = some res) {H : Heap} {locs : List Loc} (hP : va_P D vwCl (WX ad cs σ) H) (hS : va_S (AX ad) s.heap H locs) {ls : Array Slot} (hl : lv_has ls 4 [(0, .ref (ad (24 + x0))), (1, .int x1), (2, .int x2), (3, .int x3)]) : W p l e R s m args below meth c H locs 0 0 (MQ below (QI D (TYX cs) (WX ad cs) (AX ad) res σ) args s 0 0 (AX ad)) (F0 m 0 ls []) := by
  have hx := C.1.1
  have hb := C.1.2.1
  unfold f_X4_rangeFault at hf
  refine lv_aload_n hx hb dX4_rangeFault_0 rfl (lv_at hl 0 rfl) ?_
  obtain ⟨h1, hf⟩ := zc hf
  refine gX4_1 C hP h1 k_247 dX4_rangeFault_1 ?_
  refine lv_if_ne (tgt := 9) hx hb dX4_rangeFault_4 (by decide) (fun c2 => ?_) (fun c2 => ?_)
  · replace hf := zf c2 hf
    refine lv_aload_n hx hb dX4_rangeFault_9 rfl (lv_at hl 0 rfl) ?_
    refine gX4_2 C hP h1 k_249 dX4_rangeFault_10 ?_
    refine lv_iload_n hx hb dX4_rangeFault_13 rfl (lv_at hl 1 rfl) ?_
    refine lv_icmp_eq (tgt := 19) hx hb dX4_rangeFault_14 (by decide) (fun c3 => ?_) (fun c3 => ?_)
    · replace hf := zt c3 hf
      refine lv_iload_n hx hb dX4_rangeFault_19 rfl (lv_at hl 3 rfl) ?_
      refine lv_if_ge (tgt := 25) hx hb dX4_rangeFault_20 (by decide) (fun c4 => ?_) (fun c4 => ?_)
      · replace hf := zt c4 hf
        refine lv_aload_n hx hb dX4_rangeFault_25 rfl (lv_at hl 0 rfl) ?_
        refine lv_iload_n hx hb dX4_rangeFault_26 rfl (lv_at hl 2 rfl) ?_
        refine lv_iload_n hx hb dX4_rangeFault_27 rfl (lv_at hl 3 rfl) ?_
        obtain ⟨r6, hg5, hf⟩ := zb hf
        try dsimp only at hf
        refine q_calli C hS (q_runV C hP (c_X4_isOver (l := l) C.2.2.1 hg5) (ci := 4) (As := [.int x2, .int x3]) (rest := []) ⟨gd_V k_301 k_302 k_303 k_52 k_304, ⟨rfl, rfl⟩, kd_X4_isOver, ⟨Nat.le_trans (Nat.le_of_ble_eq_true rfl) hR.1, Nat.le_trans (Nat.le_of_ble_eq_true rfl) hR.2⟩⟩ (oX_X4 h1) rfl rfl rfl rfl (Nat.le_of_ble_eq_true rfl) hl.1 dX4_rangeFault_28) (fun H locs hP hS => ?_)
        refine lv_if_eq (tgt := 38) hx hb dX4_rangeFault_31 (by decide) (fun c7 => ?_) (fun c7 => ?_)
        · replace hf := zt c7 hf
          refine lv_iconst (v := 0) hx hb dX4_rangeFault_38 (by decide) ?_
          exact q_iret C hr hlk hP hS (congrArg (fun q => (q, σ)) (Option.some.inj hf)) dX4_rangeFault_39
        · replace hf := zf c7 hf
          refine lv_iconst (v := 3) hx hb dX4_rangeFault_34 (by decide) ?_
          refine lv_goto (tgt := 39) hx hb dX4_rangeFault_35 (by decide) ?_
          exact q_iret C hr hlk hP hS (congrArg (fun q => (q, σ)) (Option.some.inj hf)) dX4_rangeFault_39
      · replace hf := zf c4 hf
        refine lv_iconst (v := 4) hx hb dX4_rangeFault_23 (by decide) ?_
        exact q_iret C hr hlk hP hS (congrArg (fun q => (q, σ)) (Option.some.inj hf)) dX4_rangeFault_24
    · replace hf := zf c3 hf
      refine lv_iconst (v := 2) hx hb dX4_rangeFault_17 (by decide) ?_
      exact q_iret C hr hlk hP hS (congrArg (fun q => (q, σ)) (Option.some.inj hf)) dX4_rangeFault_18
  · replace hf := zt c2 hf
    refine lv_iconst (v := 1) hx hb dX4_rangeFault_7 (by decide) ?_
    exact q_iret C hr hlk hP hS (congrArg (fun q => (q, σ)) (Option.some.inj hf)) dX4_rangeFault_8
theorem kd_X4_rangeFault : yX4_rangeFault.cls = RX4 ∧ yX4_rangeFault.cls ≠ "java/lang/invoke/MethodHandle" ∧ yX4_rangeFault.cls ≠ "java/lang/invoke/VarHandle" ∧ (parseMethodDescriptor yX4_rangeFault.desc).map (fun d => d.parameters.length) = some 3 := by decide +kernel
def r_X4_rangeFault : Room := { frames := 1, cells := 0, slots := 0, locals := 22 }
set_option maxRecDepth 100000 in
set_option maxHeartbeats 4000000 in
theorem c_X4_rangeFault {l : Launch} {D : va_G} {ad : Nat → Nat} {cs : Nat → ClassId} (hD : ∀ σ, va_D (AX ad) (WX ad cs σ)) {σ : Sg} {x0 : Nat} {x1 : Int32} {x2 : Int32} {x3 : Int32} {res : Int32} (hf : f_X4_rangeFault σ x0 x1 x2 x3 = some res) : Met l yX4_rangeFault (wm yX4_rangeFault cX4_rangeFault 4 (some .int)) r_X4_rangeFault (va_Pc [.ref (ad (24 + x0)), .int x1, .int x2, .int x3] (BW D (TYX cs) (WX ad cs) σ)) (QI D (TYX cs) (WX ad cs) (AX ad) res σ) 0 0 (AX ad) := by
  refine q_enter (by decide) hD (Nat.le_of_ble_eq_true rfl) ?_
  intro p e s m below meth c C hr hlk hP hS ls hl
  exact w_X4_rangeFault C hr hlk ⟨Nat.le_of_ble_eq_true rfl, Nat.le_of_ble_eq_true rfl⟩ hf hP hS hl

set_option maxRecDepth 100000 in
set_option maxHeartbeats 4000000 in
theorem w_X4_cellAt (C : CX p m c cX4_cellAt 2 s args RX4 D (TYX cs) (WX ad cs) (AX ad)) (hr : meth.sig.returnType = (some .int)) (hlk : meth.locks = false) (hR : 0 ≤ R.frames ∧ 0 ≤ R.locals) {σ : Sg} {x0 : Nat} {x1 : Int32} {res : Int32} (hf : f_X4_cellAt σ x0 x1 = some res) {H : Heap} {locs : List Loc} (hP : va_P D vwCl (WX ad cs σ) H) (hS : va_S (AX ad) s.heap H locs) {ls : Array Slot} (hl : lv_has ls 2 [(0, .ref (ad (24 + x0))), (1, .int x1)]) : W p l e R s m args below meth c H locs 0 0 (MQ below (QI D (TYX cs) (WX ad cs) (AX ad) res σ) args s 0 0 (AX ad)) (F0 m 0 ls []) := by
  have hx := C.1.1
  have hb := C.1.2.1
  unfold f_X4_cellAt at hf
  refine lv_iload_n hx hb dX4_cellAt_0 rfl (lv_at hl 1 rfl) ?_
  refine lv_if_lt (tgt := 21) hx hb dX4_cellAt_1 (by decide) (fun c1 => ?_) (fun c1 => ?_)
  · replace hf := zt c1 hf
    refine lv_iconst (v := 0) hx hb dX4_cellAt_21 (by decide) ?_
    exact q_iret C hr hlk hP hS (congrArg (fun q => (q, σ)) (Option.some.inj hf)) dX4_cellAt_22
  · replace hf := zf c1 hf
    refine lv_iload_n hx hb dX4_cellAt_4 rfl (lv_at hl 1 rfl) ?_
    refine lv_aload_n hx hb dX4_cellAt_5 rfl (lv_at hl 0 rfl) ?_
    obtain ⟨h2, hf⟩ := zc hf
    refine gX4_3 C hP h2 k_251 dX4_cellAt_6 ?_
    refine lv_icmp_ge (tgt := 21) hx hb dX4_cellAt_9 (by decide) (fun c3 => ?_) (fun c3 => ?_)
    · replace hf := zt c3 hf
      refine lv_iconst (v := 0) hx hb dX4_cellAt_21 (by decide) ?_
      exact q_iret C hr hlk hP hS (congrArg (fun q => (q, σ)) (Option.some.inj hf)) dX4_cellAt_22
    · replace hf := zf c3 hf
      refine lv_aload_n hx hb dX4_cellAt_12 rfl (lv_at hl 0 rfl) ?_
      refine gX4_0 C hP h2 k_245 dX4_cellAt_13 ?_
      refine lv_iload_n hx hb dX4_cellAt_16 rfl (lv_at hl 1 rfl) ?_
      obtain ⟨h4, hf⟩ := zc hf
      refine aldX C hP (alX_c h2) h4 dX4_cellAt_17 ?_
      refine lv_goto (tgt := 22) hx hb dX4_cellAt_18 (by decide) ?_
      exact q_iret C hr hlk hP hS (congrArg (fun q => (q, σ)) (Option.some.inj hf)) dX4_cellAt_22
theorem kd_X4_cellAt : yX4_cellAt.cls = RX4 ∧ yX4_cellAt.cls ≠ "java/lang/invoke/MethodHandle" ∧ yX4_cellAt.cls ≠ "java/lang/invoke/VarHandle" ∧ (parseMethodDescriptor yX4_cellAt.desc).map (fun d => d.parameters.length) = some 1 := by decide +kernel
def r_X4_cellAt : Room := { frames := 0, cells := 0, slots := 0, locals := 0 }
set_option maxRecDepth 100000 in
set_option maxHeartbeats 4000000 in
theorem c_X4_cellAt {l : Launch} {D : va_G} {ad : Nat → Nat} {cs : Nat → ClassId} (hD : ∀ σ, va_D (AX ad) (WX ad cs σ)) {σ : Sg} {x0 : Nat} {x1 : Int32} {res : Int32} (hf : f_X4_cellAt σ x0 x1 = some res) : Met l yX4_cellAt (wm yX4_cellAt cX4_cellAt 2 (some .int)) r_X4_cellAt (va_Pc [.ref (ad (24 + x0)), .int x1] (BW D (TYX cs) (WX ad cs) σ)) (QI D (TYX cs) (WX ad cs) (AX ad) res σ) 0 0 (AX ad) := by
  refine q_enter (by decide) hD (Nat.le_of_ble_eq_true rfl) ?_
  intro p e s m below meth c C hr hlk hP hS ls hl
  exact w_X4_cellAt C hr hlk ⟨Nat.le_of_ble_eq_true rfl, Nat.le_of_ble_eq_true rfl⟩ hf hP hS hl

set_option maxRecDepth 100000 in
set_option maxHeartbeats 4000000 in
theorem w_X4_cutToLane (C : CX p m c cX4_cutToLane 2 s args RX4 D (TYX cs) (WX ad cs) (AX ad)) (hr : meth.sig.returnType = (some .int)) (hlk : meth.locks = false) (hR : 0 ≤ R.frames ∧ 0 ≤ R.locals) {σ : Sg} {x0 : Nat} {x1 : Int32} {res : Int32} (hf : f_X4_cutToLane σ x0 x1 = some res) {H : Heap} {locs : List Loc} (hP : va_P D vwCl (WX ad cs σ) H) (hS : va_S (AX ad) s.heap H locs) {ls : Array Slot} (hl : lv_has ls 2 [(0, .ref (ad (24 + x0))), (1, .int x1)]) : W p l e R s m args below meth c H locs 0 0 (MQ below (QI D (TYX cs) (WX ad cs) (AX ad) res σ) args s 0 0 (AX ad)) (F0 m 0 ls []) := by
  have hx := C.1.1
  have hb := C.1.2.1
  unfold f_X4_cutToLane at hf
  refine lv_aload_n hx hb dX4_cutToLane_0 rfl (lv_at hl 0 rfl) ?_
  obtain ⟨h1, hf⟩ := zc hf
  refine gX4_2 C hP h1 k_249 dX4_cutToLane_1 ?_
  by_cases c2 : (σ (24 + x0) 2) = 0
  · replace hf := zt c2 hf
    refine lv_lookup (off := 28) (tgt := 32) hx hb dX4_cutToLane_4 (by decide) (by rw [c2]; rfl) (by decide) ?_
    refine lv_iload_n hx hb dX4_cutToLane_32 rfl (lv_at hl 1 rfl) ?_
    refine lv_i2b hx hb dX4_cutToLane_33 rfl ?_
    exact q_iret C hr hlk hP hS (congrArg (fun q => (q, σ)) (Option.some.inj hf)) dX4_cutToLane_34
  · replace hf := zf c2 hf
    by_cases c3 : (σ (24 + x0) 2) = 1
    · replace hf := zt c3 hf
      refine lv_lookup (off := 31) (tgt := 35) hx hb dX4_cutToLane_4 (by decide) (by rw [c3]; rfl) (by decide) ?_
      refine lv_iload_n hx hb dX4_cutToLane_35 rfl (lv_at hl 1 rfl) ?_
      refine lv_i2s hx hb dX4_cutToLane_36 rfl ?_
      exact q_iret C hr hlk hP hS (congrArg (fun q => (q, σ)) (Option.some.inj hf)) dX4_cutToLane_37
    · replace hf := zf c3 hf
      refine lv_lookup (off := 34) (tgt := 38) hx hb dX4_cutToLane_4 (by decide) ((lv_osw c2 rfl).trans ((lv_osw c3 rfl).trans rfl)) (by decide) ?_
      refine lv_iload_n hx hb dX4_cutToLane_38 rfl (lv_at hl 1 rfl) ?_
      exact q_iret C hr hlk hP hS (congrArg (fun q => (q, σ)) (Option.some.inj hf)) dX4_cutToLane_39
theorem kd_X4_cutToLane : yX4_cutToLane.cls = RX4 ∧ yX4_cutToLane.cls ≠ "java/lang/invoke/MethodHandle" ∧ yX4_cutToLane.cls ≠ "java/lang/invoke/VarHandle" ∧ (parseMethodDescriptor yX4_cutToLane.desc).map (fun d => d.parameters.length) = some 1 := by decide +kernel
def r_X4_cutToLane : Room := { frames := 0, cells := 0, slots := 0, locals := 0 }
set_option maxRecDepth 100000 in
set_option maxHeartbeats 4000000 in
theorem c_X4_cutToLane {l : Launch} {D : va_G} {ad : Nat → Nat} {cs : Nat → ClassId} (hD : ∀ σ, va_D (AX ad) (WX ad cs σ)) {σ : Sg} {x0 : Nat} {x1 : Int32} {res : Int32} (hf : f_X4_cutToLane σ x0 x1 = some res) : Met l yX4_cutToLane (wm yX4_cutToLane cX4_cutToLane 2 (some .int)) r_X4_cutToLane (va_Pc [.ref (ad (24 + x0)), .int x1] (BW D (TYX cs) (WX ad cs) σ)) (QI D (TYX cs) (WX ad cs) (AX ad) res σ) 0 0 (AX ad) := by
  refine q_enter (by decide) hD (Nat.le_of_ble_eq_true rfl) ?_
  intro p e s m below meth c C hr hlk hP hS ls hl
  exact w_X4_cutToLane C hr hlk ⟨Nat.le_of_ble_eq_true rfl, Nat.le_of_ble_eq_true rfl⟩ hf hP hS hl

set_option maxRecDepth 100000 in
set_option maxHeartbeats 4000000 in
theorem w_X4_setCell (C : CX p m c cX4_setCell 3 s args RX4 D (TYX cs) (WX ad cs) (AX ad)) (hr : meth.sig.returnType = none) (hlk : meth.locks = false) (hR : 1 ≤ R.frames ∧ 21 ≤ R.locals) {σ : Sg} {x0 : Nat} {x1 : Int32} {x2 : Int32} {res : Sg} (hf : f_X4_setCell σ x0 x1 x2 = some res) {H : Heap} {locs : List Loc} (hP : va_P D vwCl (WX ad cs σ) H) (hS : va_S (AX ad) s.heap H locs) {ls : Array Slot} (hl : lv_has ls 3 [(0, .ref (ad (24 + x0))), (1, .int x1), (2, .int x2)]) : W p l e R s m args below meth c H locs 0 0 (MQ below (QV D (TYX cs) (WX ad cs) (AX ad) res) args s 0 0 (AX ad)) (F0 m 0 ls []) := by
  have hx := C.1.1
  have hb := C.1.2.1
  unfold f_X4_setCell at hf
  refine lv_iload_n hx hb dX4_setCell_0 rfl (lv_at hl 1 rfl) ?_
  refine lv_if_lt (tgt := 23) hx hb dX4_setCell_1 (by decide) (fun c1 => ?_) (fun c1 => ?_)
  · replace hf := zt c1 hf
    exact q_vret C hr hlk hP hS (Option.some.inj hf) dX4_setCell_23
  · replace hf := zf c1 hf
    refine lv_iload_n hx hb dX4_setCell_4 rfl (lv_at hl 1 rfl) ?_
    refine lv_aload_n hx hb dX4_setCell_5 rfl (lv_at hl 0 rfl) ?_
    obtain ⟨h2, hf⟩ := zc hf
    refine gX4_3 C hP h2 k_251 dX4_setCell_6 ?_
    refine lv_icmp_ge (tgt := 23) hx hb dX4_setCell_9 (by decide) (fun c3 => ?_) (fun c3 => ?_)
    · replace hf := zt c3 hf
      exact q_vret C hr hlk hP hS (Option.some.inj hf) dX4_setCell_23
    · replace hf := zf c3 hf
      refine lv_aload_n hx hb dX4_setCell_12 rfl (lv_at hl 0 rfl) ?_
      refine gX4_0 C hP h2 k_245 dX4_setCell_13 ?_
      refine lv_iload_n hx hb dX4_setCell_16 rfl (lv_at hl 1 rfl) ?_
      refine lv_aload_n hx hb dX4_setCell_17 rfl (lv_at hl 0 rfl) ?_
      refine lv_iload_n hx hb dX4_setCell_18 rfl (lv_at hl 2 rfl) ?_
      obtain ⟨r5, hg4, hf⟩ := zb hf
      try dsimp only at hf
      refine q_calli C hS (q_runV C hP (c_X4_cutToLane (l := l) C.2.2.1 hg4) (ci := 4) (As := [.int x2]) (rest := [.int x1, .ref (ad (28 + x0))]) ⟨gd_V k_586 k_588 k_9 k_52 k_589, ⟨rfl, rfl⟩, kd_X4_cutToLane, ⟨Nat.le_trans (Nat.le_of_ble_eq_true rfl) hR.1, Nat.le_trans (Nat.le_of_ble_eq_true rfl) hR.2⟩⟩ (oX_X4 h2) rfl rfl rfl rfl (Nat.le_of_ble_eq_true rfl) hl.1 dX4_setCell_19) (fun H locs hP hS => ?_)
      obtain ⟨h6, hf⟩ := zc hf
      refine astX C hP hS (alX_c h2) h6 dX4_setCell_22 (fun H locs hP hS => ?_)
      exact q_vret C hr hlk hP hS (Option.some.inj hf) dX4_setCell_23
theorem kd_X4_setCell : yX4_setCell.cls = RX4 ∧ yX4_setCell.cls ≠ "java/lang/invoke/MethodHandle" ∧ yX4_setCell.cls ≠ "java/lang/invoke/VarHandle" ∧ (parseMethodDescriptor yX4_setCell.desc).map (fun d => d.parameters.length) = some 2 := by decide +kernel
def r_X4_setCell : Room := { frames := 1, cells := 0, slots := 0, locals := 21 }
set_option maxRecDepth 100000 in
set_option maxHeartbeats 4000000 in
theorem c_X4_setCell {l : Launch} {D : va_G} {ad : Nat → Nat} {cs : Nat → ClassId} (hD : ∀ σ, va_D (AX ad) (WX ad cs σ)) {σ : Sg} {x0 : Nat} {x1 : Int32} {x2 : Int32} {res : Sg} (hf : f_X4_setCell σ x0 x1 x2 = some res) : Met l yX4_setCell (wm yX4_setCell cX4_setCell 3 none) r_X4_setCell (va_Pc [.ref (ad (24 + x0)), .int x1, .int x2] (BW D (TYX cs) (WX ad cs) σ)) (QV D (TYX cs) (WX ad cs) (AX ad) res) 0 0 (AX ad) := by
  refine q_enter (by decide) hD (Nat.le_of_ble_eq_true rfl) ?_
  intro p e s m below meth c C hr hlk hP hS ls hl
  exact w_X4_setCell C hr hlk ⟨Nat.le_of_ble_eq_true rfl, Nat.le_of_ble_eq_true rfl⟩ hf hP hS hl

set_option maxRecDepth 100000 in
set_option maxHeartbeats 4000000 in
theorem w_X5_thingsIn (C : CX p m c cX5_thingsIn 1 s args RX5 D (TYX cs) (WX ad cs) (AX ad)) (hr : meth.sig.returnType = (some .int)) (hlk : meth.locks = false) (hR : 0 ≤ R.frames ∧ 0 ≤ R.locals) {σ : Sg} {x0 : Int32} {res : Int32} (hf : f_X5_thingsIn σ x0 = some res) {H : Heap} {locs : List Loc} (hP : va_P D vwCl (WX ad cs σ) H) (hS : va_S (AX ad) s.heap H locs) {ls : Array Slot} (hl : lv_has ls 1 [(0, .int x0)]) : W p l e R s m args below meth c H locs 0 0 (MQ below (QI D (TYX cs) (WX ad cs) (AX ad) res σ) args s 0 0 (AX ad)) (F0 m 0 ls []) := by
  have hx := C.1.1
  have hb := C.1.2.1
  unfold f_X5_thingsIn at hf
  refine lv_iload_n hx hb dX5_thingsIn_0 rfl (lv_at hl 0 rfl) ?_
  refine lv_iconst (v := 1) hx hb dX5_thingsIn_1 (by decide) ?_
  refine lv_isub hx hb dX5_thingsIn_2 ?_
  refine lv_iconst (v := 5) hx hb dX5_thingsIn_3 (by decide) ?_
  refine lv_idiv hx hb dX5_thingsIn_4 (by decide) ?_
  exact q_iret C hr hlk hP hS (congrArg (fun q => (q, σ)) (Option.some.inj hf)) dX5_thingsIn_5
theorem kd_X5_thingsIn : yX5_thingsIn.cls ≠ "java/lang/invoke/MethodHandle" ∧ yX5_thingsIn.cls ≠ "java/lang/invoke/VarHandle" ∧ (parseMethodDescriptor yX5_thingsIn.desc).map (fun d => d.parameters.length) = some 1 := by decide +kernel
def r_X5_thingsIn : Room := { frames := 0, cells := 0, slots := 0, locals := 0 }
set_option maxRecDepth 100000 in
set_option maxHeartbeats 4000000 in
theorem c_X5_thingsIn {l : Launch} {D : va_G} {ad : Nat → Nat} {cs : Nat → ClassId} (hD : ∀ σ, va_D (AX ad) (WX ad cs σ)) {σ : Sg} {x0 : Int32} {res : Int32} (hf : f_X5_thingsIn σ x0 = some res) : Met l yX5_thingsIn (wm yX5_thingsIn cX5_thingsIn 1 (some .int)) r_X5_thingsIn (va_Pc [.int x0] (BW D (TYX cs) (WX ad cs) σ)) (QI D (TYX cs) (WX ad cs) (AX ad) res σ) 0 0 (AX ad) := by
  refine q_enter (by decide) hD (Nat.le_of_ble_eq_true rfl) ?_
  intro p e s m below meth c C hr hlk hP hS ls hl
  exact w_X5_thingsIn C hr hlk ⟨Nat.le_of_ble_eq_true rfl, Nat.le_of_ble_eq_true rfl⟩ hf hP hS hl

set_option maxRecDepth 100000 in
set_option maxHeartbeats 4000000 in
theorem w_X5_placeOf (C : CX p m c cX5_placeOf 2 s args RX5 D (TYX cs) (WX ad cs) (AX ad)) (hr : meth.sig.returnType = (some .int)) (hlk : meth.locks = false) (hR : 0 ≤ R.frames ∧ 0 ≤ R.locals) {σ : Sg} {x0 : Int32} {x1 : Int32} {res : Int32} (hf : f_X5_placeOf σ x0 x1 = some res) {H : Heap} {locs : List Loc} (hP : va_P D vwCl (WX ad cs σ) H) (hS : va_S (AX ad) s.heap H locs) {ls : Array Slot} (hl : lv_has ls 2 [(0, .int x0), (1, .int x1)]) : W p l e R s m args below meth c H locs 0 0 (MQ below (QI D (TYX cs) (WX ad cs) (AX ad) res σ) args s 0 0 (AX ad)) (F0 m 0 ls []) := by
  have hx := C.1.1
  have hb := C.1.2.1
  unfold f_X5_placeOf at hf
  refine lv_iconst (v := 1) hx hb dX5_placeOf_0 (by decide) ?_
  refine lv_iconst (v := 5) hx hb dX5_placeOf_1 (by decide) ?_
  refine lv_iload_n hx hb dX5_placeOf_2 rfl (lv_at hl 0 rfl) ?_
  refine lv_imul hx hb dX5_placeOf_3 ?_
  refine lv_iadd hx hb dX5_placeOf_4 ?_
  refine lv_iload_n hx hb dX5_placeOf_5 rfl (lv_at hl 1 rfl) ?_
  refine lv_iadd hx hb dX5_placeOf_6 ?_
  exact q_iret C hr hlk hP hS (congrArg (fun q => (q, σ)) (Option.some.inj hf)) dX5_placeOf_7
theorem kd_X5_placeOf : yX5_placeOf.cls ≠ "java/lang/invoke/MethodHandle" ∧ yX5_placeOf.cls ≠ "java/lang/invoke/VarHandle" ∧ (parseMethodDescriptor yX5_placeOf.desc).map (fun d => d.parameters.length) = some 2 := by decide +kernel
def r_X5_placeOf : Room := { frames := 0, cells := 0, slots := 0, locals := 0 }
set_option maxRecDepth 100000 in
set_option maxHeartbeats 4000000 in
theorem c_X5_placeOf {l : Launch} {D : va_G} {ad : Nat → Nat} {cs : Nat → ClassId} (hD : ∀ σ, va_D (AX ad) (WX ad cs σ)) {σ : Sg} {x0 : Int32} {x1 : Int32} {res : Int32} (hf : f_X5_placeOf σ x0 x1 = some res) : Met l yX5_placeOf (wm yX5_placeOf cX5_placeOf 2 (some .int)) r_X5_placeOf (va_Pc [.int x0, .int x1] (BW D (TYX cs) (WX ad cs) σ)) (QI D (TYX cs) (WX ad cs) (AX ad) res σ) 0 0 (AX ad) := by
  refine q_enter (by decide) hD (Nat.le_of_ble_eq_true rfl) ?_
  intro p e s m below meth c C hr hlk hP hS ls hl
  exact w_X5_placeOf C hr hlk ⟨Nat.le_of_ble_eq_true rfl, Nat.le_of_ble_eq_true rfl⟩ hf hP hS hl

set_option maxRecDepth 100000 in
set_option maxHeartbeats 4000000 in
theorem w_X5_kindBy (C : CX p m c cX5_kindBy 1 s args RX5 D (TYX cs) (WX ad cs) (AX ad)) (hr : meth.sig.returnType = (some .int)) (hlk : meth.locks = false) (hR : 0 ≤ R.frames ∧ 0 ≤ R.locals) {σ : Sg} {x0 : Int32} {res : Int32} (hf : f_X5_kindBy σ x0 = some res) {H : Heap} {locs : List Loc} (hP : va_P D vwCl (WX ad cs σ) H) (hS : va_S (AX ad) s.heap H locs) {ls : Array Slot} (hl : lv_has ls 1 [(0, .int x0)]) : W p l e R s m args below meth c H locs 0 0 (MQ below (QI D (TYX cs) (WX ad cs) (AX ad) res σ) args s 0 0 (AX ad)) (F0 m 0 ls []) := by
  have hx := C.1.1
  have hb := C.1.2.1
  unfold f_X5_kindBy at hf
  refine lv_iload_n hx hb dX5_kindBy_0 rfl (lv_at hl 0 rfl) ?_
  by_cases c1 : x0 = 109
  · replace hf := zt c1 hf
    refine lv_lookup (off := 39) (tgt := 40) hx hb dX5_kindBy_1 (by decide) (by rw [c1]; rfl) (by decide) ?_
    refine lv_iconst (v := 2) hx hb dX5_kindBy_40 (by decide) ?_
    exact q_iret C hr hlk hP hS (congrArg (fun q => (q, σ)) (Option.some.inj hf)) dX5_kindBy_41
  · replace hf := zf c1 hf
    by_cases c2 : x0 = 115
    · replace hf := zt c2 hf
      refine lv_lookup (off := 37) (tgt := 38) hx hb dX5_kindBy_1 (by decide) (by rw [c2]; rfl) (by decide) ?_
      refine lv_iconst (v := 1) hx hb dX5_kindBy_38 (by decide) ?_
      exact q_iret C hr hlk hP hS (congrArg (fun q => (q, σ)) (Option.some.inj hf)) dX5_kindBy_39
    · replace hf := zf c2 hf
      by_cases c3 : x0 = 116
      · replace hf := zt c3 hf
        refine lv_lookup (off := 35) (tgt := 36) hx hb dX5_kindBy_1 (by decide) (by rw [c3]; rfl) (by decide) ?_
        refine lv_iconst (v := 0) hx hb dX5_kindBy_36 (by decide) ?_
        exact q_iret C hr hlk hP hS (congrArg (fun q => (q, σ)) (Option.some.inj hf)) dX5_kindBy_37
      · replace hf := zf c3 hf
        refine lv_lookup (off := 41) (tgt := 42) hx hb dX5_kindBy_1 (by decide) ((lv_osw c1 rfl).trans ((lv_osw c2 rfl).trans ((lv_osw c3 rfl).trans rfl))) (by decide) ?_
        refine lv_bipush (v := (-9)) hx hb dX5_kindBy_42 (by decide) ?_
        exact q_iret C hr hlk hP hS (congrArg (fun q => (q, σ)) (Option.some.inj hf)) dX5_kindBy_44
theorem kd_X5_kindBy : yX5_kindBy.cls ≠ "java/lang/invoke/MethodHandle" ∧ yX5_kindBy.cls ≠ "java/lang/invoke/VarHandle" ∧ (parseMethodDescriptor yX5_kindBy.desc).map (fun d => d.parameters.length) = some 1 := by decide +kernel
def r_X5_kindBy : Room := { frames := 0, cells := 0, slots := 0, locals := 0 }
set_option maxRecDepth 100000 in
set_option maxHeartbeats 4000000 in
theorem c_X5_kindBy {l : Launch} {D : va_G} {ad : Nat → Nat} {cs : Nat → ClassId} (hD : ∀ σ, va_D (AX ad) (WX ad cs σ)) {σ : Sg} {x0 : Int32} {res : Int32} (hf : f_X5_kindBy σ x0 = some res) : Met l yX5_kindBy (wm yX5_kindBy cX5_kindBy 1 (some .int)) r_X5_kindBy (va_Pc [.int x0] (BW D (TYX cs) (WX ad cs) σ)) (QI D (TYX cs) (WX ad cs) (AX ad) res σ) 0 0 (AX ad) := by
  refine q_enter (by decide) hD (Nat.le_of_ble_eq_true rfl) ?_
  intro p e s m below meth c C hr hlk hP hS ls hl
  exact w_X5_kindBy C hr hlk ⟨Nat.le_of_ble_eq_true rfl, Nat.le_of_ble_eq_true rfl⟩ hf hP hS hl

set_option maxRecDepth 100000 in
set_option maxHeartbeats 4000000 in
theorem w_X5_goesOn (C : CX p m c cX5_goesOn 3 s args RX5 D (TYX cs) (WX ad cs) (AX ad)) (hr : meth.sig.returnType = (some .boolean)) (hlk : meth.locks = false) (hR : 1 ≤ R.frames ∧ 20 ≤ R.locals) {σ : Sg} {x0 : Int32} {x1 : Int32} {res : Int32} (hf : f_X5_goesOn σ x0 x1 = some res) {H : Heap} {locs : List Loc} (hP : va_P D vwCl (WX ad cs σ) H) (hS : va_S (AX ad) s.heap H locs) {ls : Array Slot} (hl : lv_has ls 3 [(0, .int x0), (1, .int x1)]) : W p l e R s m args below meth c H locs 0 0 (MQ below (QI D (TYX cs) (WX ad cs) (AX ad) res σ) args s 0 0 (AX ad)) (F0 m 0 ls []) := by
  have hx := C.1.1
  have hb := C.1.2.1
  unfold f_X5_goesOn at hf
  refine lv_iload_n hx hb dX5_goesOn_0 rfl (lv_at hl 0 rfl) ?_
  refine lv_if_ne (tgt := 16) hx hb dX5_goesOn_1 (by decide) (fun c1 => ?_) (fun c1 => ?_)
  · replace hf := zf c1 hf
    refine lv_iload_n hx hb dX5_goesOn_16 rfl (lv_at hl 0 rfl) ?_
    refine lv_iconst (v := 1) hx hb dX5_goesOn_17 (by decide) ?_
    refine lv_isub hx hb dX5_goesOn_18 ?_
    refine lv_iconst (v := 5) hx hb dX5_goesOn_19 (by decide) ?_
    refine lv_idiv hx hb dX5_goesOn_20 (by decide) ?_
    refine lv_istore_n (lv' := [(2, .int ((x0 - 1) / 5)), (0, .int x0), (1, .int x1)]) hx hb dX5_goesOn_21 rfl hl (by decide) rfl (fun ls hl => ?_)
    refine lv_iload_n hx hb dX5_goesOn_22 rfl (lv_at hl 1 rfl) ?_
    refine lv_iconst (v := 1) hx hb dX5_goesOn_23 (by decide) ?_
    refine lv_isub hx hb dX5_goesOn_24 ?_
    refine lv_iconst (v := 5) hx hb dX5_goesOn_25 (by decide) ?_
    refine lv_irem hx hb dX5_goesOn_26 (by decide) ?_
    by_cases c2 : ((x0 - 1) - (x0 - 1) / 5 * 5) = 0
    · replace hf := zt c2 hf
      refine lv_tableIn (off := 25) (tgt := 52) hx hb dX5_goesOn_27 (by rw [c2]; decide) (by rw [c2]; decide) (by rw [c2]; rfl) (by decide) ?_
      refine lv_iload_n hx hb dX5_goesOn_52 rfl (lv_at hl 2 rfl) ?_
      refine lv_bipush (v := 59) hx hb dX5_goesOn_53 (by decide) ?_
      refine lv_icmp_ne (tgt := 68) hx hb dX5_goesOn_55 (by decide) (fun c3 => ?_) (fun c3 => ?_)
      · replace hf := zf c3 hf
        refine lv_iconst (v := 0) hx hb dX5_goesOn_68 (by decide) ?_
        exact q_zret C hr hlk hP hS (congrArg (fun q => (q, σ)) (Option.some.inj hf)) (by decide) dX5_goesOn_69
      · replace hf := zt c3 hf
        refine lv_iload_n hx hb dX5_goesOn_58 rfl (lv_at hl 0 rfl) ?_
        refine lv_bipush (v := 8) hx hb dX5_goesOn_59 (by decide) ?_
        refine lv_icmp_ge (tgt := 68) hx hb dX5_goesOn_61 (by decide) (fun c4 => ?_) (fun c4 => ?_)
        · replace hf := zt c4 hf
          refine lv_iconst (v := 0) hx hb dX5_goesOn_68 (by decide) ?_
          exact q_zret C hr hlk hP hS (congrArg (fun q => (q, σ)) (Option.some.inj hf)) (by decide) dX5_goesOn_69
        · replace hf := zf c4 hf
          refine lv_iconst (v := 1) hx hb dX5_goesOn_64 (by decide) ?_
          refine lv_goto (tgt := 69) hx hb dX5_goesOn_65 (by decide) ?_
          exact q_zret C hr hlk hP hS (congrArg (fun q => (q, σ)) (Option.some.inj hf)) (by decide) dX5_goesOn_69
    · replace hf := zf c2 hf
      by_cases c5 : ((x0 - 1) - (x0 - 1) / 5 * 5) = 1
      · replace hf := zt c5 hf
        refine lv_tableIn (off := 43) (tgt := 70) hx hb dX5_goesOn_27 (by rw [c5]; decide) (by rw [c5]; decide) (by rw [c5]; rfl) (by decide) ?_
        refine lv_iload_n hx hb dX5_goesOn_70 rfl (lv_at hl 2 rfl) ?_
        obtain ⟨r7, hg6, hf⟩ := zb hf
        try dsimp only at hf
        refine q_calli C hS (q_runS C hP (c_X5_kindBy (l := l) C.2.2.1 hg6) (As := [.int x1]) (rest := []) ⟨gd_S k_319 k_320 k_54 k_321, ⟨rfl, rfl⟩, kd_X5_kindBy, ⟨Nat.le_trans (Nat.le_of_ble_eq_true rfl) hR.1, Nat.le_trans (Nat.le_of_ble_eq_true rfl) hR.2⟩⟩ rfl rfl (Nat.le_of_ble_eq_true rfl) hl.1 dX5_goesOn_71) (fun H locs hP hS => ?_)
        refine lv_bipush (v := (-9)) hx hb dX5_goesOn_74 (by decide) ?_
        refine lv_icmp_eq (tgt := 83) hx hb dX5_goesOn_76 (by decide) (fun c8 => ?_) (fun c8 => ?_)
        · replace hf := zt c8 hf
          refine lv_iconst (v := 0) hx hb dX5_goesOn_83 (by decide) ?_
          exact q_zret C hr hlk hP hS (congrArg (fun q => (q, σ)) (Option.some.inj hf)) (by decide) dX5_goesOn_84
        · replace hf := zf c8 hf
          refine lv_iconst (v := 1) hx hb dX5_goesOn_79 (by decide) ?_
          refine lv_goto (tgt := 84) hx hb dX5_goesOn_80 (by decide) ?_
          exact q_zret C hr hlk hP hS (congrArg (fun q => (q, σ)) (Option.some.inj hf)) (by decide) dX5_goesOn_84
      · replace hf := zf c5 hf
        by_cases c9 : ((x0 - 1) - (x0 - 1) / 5 * 5) = 2
        · replace hf := zt c9 hf
          refine lv_tableIn (off := 58) (tgt := 85) hx hb dX5_goesOn_27 (by rw [c9]; decide) (by rw [c9]; decide) (by rw [c9]; rfl) (by decide) ?_
          refine lv_iload_n hx hb dX5_goesOn_85 rfl (lv_at hl 2 rfl) ?_
          refine lv_bipush (v := 48) hx hb dX5_goesOn_86 (by decide) ?_
          refine lv_icmp_lt (tgt := 109) hx hb dX5_goesOn_88 (by decide) (fun c10 => ?_) (fun c10 => ?_)
          · replace hf := zt c10 hf
            refine lv_iconst (v := 0) hx hb dX5_goesOn_109 (by decide) ?_
            exact q_zret C hr hlk hP hS (congrArg (fun q => (q, σ)) (Option.some.inj hf)) (by decide) dX5_goesOn_110
          · replace hf := zf c10 hf
            refine lv_iload_n hx hb dX5_goesOn_91 rfl (lv_at hl 2 rfl) ?_
            refine lv_bipush (v := 55) hx hb dX5_goesOn_92 (by decide) ?_
            refine lv_icmp_gt (tgt := 109) hx hb dX5_goesOn_94 (by decide) (fun c11 => ?_) (fun c11 => ?_)
            · replace hf := zt c11 hf
              refine lv_iconst (v := 0) hx hb dX5_goesOn_109 (by decide) ?_
              exact q_zret C hr hlk hP hS (congrArg (fun q => (q, σ)) (Option.some.inj hf)) (by decide) dX5_goesOn_110
            · replace hf := zf c11 hf
              refine lv_iload_n hx hb dX5_goesOn_97 rfl (lv_at hl 2 rfl) ?_
              refine lv_bipush (v := 48) hx hb dX5_goesOn_98 (by decide) ?_
              refine lv_isub hx hb dX5_goesOn_100 ?_
              refine lv_iload_n hx hb dX5_goesOn_101 rfl (lv_at hl 0 rfl) ?_
              refine lv_icmp_eq (tgt := 109) hx hb dX5_goesOn_102 (by decide) (fun c12 => ?_) (fun c12 => ?_)
              · replace hf := zt c12 hf
                refine lv_iconst (v := 0) hx hb dX5_goesOn_109 (by decide) ?_
                exact q_zret C hr hlk hP hS (congrArg (fun q => (q, σ)) (Option.some.inj hf)) (by decide) dX5_goesOn_110
              · replace hf := zf c12 hf
                refine lv_iconst (v := 1) hx hb dX5_goesOn_105 (by decide) ?_
                refine lv_goto (tgt := 110) hx hb dX5_goesOn_106 (by decide) ?_
                exact q_zret C hr hlk hP hS (congrArg (fun q => (q, σ)) (Option.some.inj hf)) (by decide) dX5_goesOn_110
        · replace hf := zf c9 hf
          have qc2 := lv_neT c2 (a := 0) rfl
          have qc5 := lv_neT c5 (a := 1) rfl
          have qc9 := lv_neT c9 (a := 2) rfl
          refine lv_tableOut (tgt := 111) hx hb dX5_goesOn_27 (by omega) (by decide) ?_
          refine lv_iload_n hx hb dX5_goesOn_111 rfl (lv_at hl 2 rfl) ?_
          refine lv_bipush (v := 49) hx hb dX5_goesOn_112 (by decide) ?_
          refine lv_icmp_lt (tgt := 127) hx hb dX5_goesOn_114 (by decide) (fun c13 => ?_) (fun c13 => ?_)
          · replace hf := zt c13 hf
            refine lv_iconst (v := 0) hx hb dX5_goesOn_127 (by decide) ?_
            exact q_zret C hr hlk hP hS (congrArg (fun q => (q, σ)) (Option.some.inj hf)) (by decide) dX5_goesOn_128
          · replace hf := zf c13 hf
            refine lv_iload_n hx hb dX5_goesOn_117 rfl (lv_at hl 2 rfl) ?_
            refine lv_bipush (v := 57) hx hb dX5_goesOn_118 (by decide) ?_
            refine lv_icmp_gt (tgt := 127) hx hb dX5_goesOn_120 (by decide) (fun c14 => ?_) (fun c14 => ?_)
            · replace hf := zt c14 hf
              refine lv_iconst (v := 0) hx hb dX5_goesOn_127 (by decide) ?_
              exact q_zret C hr hlk hP hS (congrArg (fun q => (q, σ)) (Option.some.inj hf)) (by decide) dX5_goesOn_128
            · replace hf := zf c14 hf
              refine lv_iconst (v := 1) hx hb dX5_goesOn_123 (by decide) ?_
              refine lv_goto (tgt := 128) hx hb dX5_goesOn_124 (by decide) ?_
              exact q_zret C hr hlk hP hS (congrArg (fun q => (q, σ)) (Option.some.inj hf)) (by decide) dX5_goesOn_128
  · replace hf := zt c1 hf
    refine lv_iload_n hx hb dX5_goesOn_4 rfl (lv_at hl 1 rfl) ?_
    refine lv_bipush (v := 101) hx hb dX5_goesOn_5 (by decide) ?_
    refine lv_icmp_ne (tgt := 14) hx hb dX5_goesOn_7 (by decide) (fun c15 => ?_) (fun c15 => ?_)
    · replace hf := zf c15 hf
      refine lv_iconst (v := 0) hx hb dX5_goesOn_14 (by decide) ?_
      exact q_zret C hr hlk hP hS (congrArg (fun q => (q, σ)) (Option.some.inj hf)) (by decide) dX5_goesOn_15
    · replace hf := zt c15 hf
      refine lv_iconst (v := 1) hx hb dX5_goesOn_10 (by decide) ?_
      refine lv_goto (tgt := 15) hx hb dX5_goesOn_11 (by decide) ?_
      exact q_zret C hr hlk hP hS (congrArg (fun q => (q, σ)) (Option.some.inj hf)) (by decide) dX5_goesOn_15
theorem kd_X5_goesOn : yX5_goesOn.cls ≠ "java/lang/invoke/MethodHandle" ∧ yX5_goesOn.cls ≠ "java/lang/invoke/VarHandle" ∧ (parseMethodDescriptor yX5_goesOn.desc).map (fun d => d.parameters.length) = some 2 := by decide +kernel
def r_X5_goesOn : Room := { frames := 1, cells := 0, slots := 0, locals := 20 }
set_option maxRecDepth 100000 in
set_option maxHeartbeats 4000000 in
theorem c_X5_goesOn {l : Launch} {D : va_G} {ad : Nat → Nat} {cs : Nat → ClassId} (hD : ∀ σ, va_D (AX ad) (WX ad cs σ)) {σ : Sg} {x0 : Int32} {x1 : Int32} {res : Int32} (hf : f_X5_goesOn σ x0 x1 = some res) : Met l yX5_goesOn (wm yX5_goesOn cX5_goesOn 3 (some .boolean)) r_X5_goesOn (va_Pc [.int x0, .int x1] (BW D (TYX cs) (WX ad cs) σ)) (QI D (TYX cs) (WX ad cs) (AX ad) res σ) 0 0 (AX ad) := by
  refine q_enter (by decide) hD (Nat.le_of_ble_eq_true rfl) ?_
  intro p e s m below meth c C hr hlk hP hS ls hl
  exact w_X5_goesOn C hr hlk ⟨Nat.le_of_ble_eq_true rfl, Nat.le_of_ble_eq_true rfl⟩ hf hP hS hl

set_option maxRecDepth 100000 in
set_option maxHeartbeats 4000000 in
theorem w_X5_firstStranger_2 (C : CX p m c cX5_firstStranger 5 s args RX5 D (TYX cs) (WX ad cs) (AX ad)) (hr : meth.sig.returnType = (some .int)) (hlk : meth.locks = false) (hR : 1 ≤ R.frames ∧ 21 ≤ R.locals) {σ : Sg} {x0 : Nat} {x1 : Int32} {x2 : Int32} {x3 : Int32} {res : Int32} {ag2 : Int32 → Option (Int32)} (hag2 : ∀ (x3 : Int32) (H : Heap) (locs : List Loc) (ls : Array Slot), ag2 x3 = some res → va_P D vwCl (WX ad cs σ) H → va_S (AX ad) s.heap H locs → lv_has ls 5 [(0, .ref (ad (24 + x0))), (1, .int x1), (2, .int x2), (3, .int x3)] → W p l e R s m args below meth c H locs 0 0 (MQ below (QI D (TYX cs) (WX ad cs) (AX ad) res σ) args s 0 0 (AX ad)) (F0 m 2 ls [])) (hf : f_X5_firstStranger_2 ag2 σ x0 x1 x2 x3 = some res) {H : Heap} {locs : List Loc} (hP : va_P D vwCl (WX ad cs σ) H) (hS : va_S (AX ad) s.heap H locs) {ls : Array Slot} (hl : lv_has ls 5 [(0, .ref (ad (24 + x0))), (1, .int x1), (2, .int x2), (3, .int x3)]) : W p l e R s m args below meth c H locs 0 0 (MQ below (QI D (TYX cs) (WX ad cs) (AX ad) res σ) args s 0 0 (AX ad)) (F0 m 2 ls []) := by
  have hx := C.1.1
  have hb := C.1.2.1
  unfold f_X5_firstStranger_2 at hf
  refine lv_iload_n hx hb dX5_firstStranger_2 rfl (lv_at hl 3 rfl) ?_
  refine lv_iload_n hx hb dX5_firstStranger_3 rfl (lv_at hl 2 rfl) ?_
  refine lv_icmp_ge (tgt := 38) hx hb dX5_firstStranger_4 (by decide) (fun c1 => ?_) (fun c1 => ?_)
  · replace hf := zt c1 hf
    refine lv_bipush (v := (-9)) hx hb dX5_firstStranger_38 (by decide) ?_
    exact q_iret C hr hlk hP hS (congrArg (fun q => (q, σ)) (Option.some.inj hf)) dX5_firstStranger_40
  · replace hf := zf c1 hf
    refine lv_iload_n hx hb dX5_firstStranger_7 rfl (lv_at hl 3 rfl) ?_
    refine lv_iconst (v := 2) hx hb dX5_firstStranger_8 (by decide) ?_
    obtain ⟨r3, hg2, hf⟩ := zb hf
    try dsimp only at hf
    refine q_calli C hS (q_runS C hP (c_X5_placeOf (l := l) C.2.2.1 hg2) (As := [.int x3, .int 2]) (rest := []) ⟨gd_S k_325 k_326 k_54 k_327, ⟨rfl, rfl⟩, kd_X5_placeOf, ⟨Nat.le_trans (Nat.le_of_ble_eq_true rfl) hR.1, Nat.le_trans (Nat.le_of_ble_eq_true rfl) hR.2⟩⟩ rfl rfl (Nat.le_of_ble_eq_true rfl) hl.1 dX5_firstStranger_9) (fun H locs hP hS => ?_)
    refine lv_istore (lv' := [(4, .int r3), (0, .ref (ad (24 + x0))), (1, .int x1), (2, .int x2), (3, .int x3)]) hx hb dX5_firstStranger_12 hl (by decide) rfl (fun ls hl => ?_)
    refine lv_aload_n hx hb dX5_firstStranger_14 rfl (lv_at hl 1 rfl) ?_
    refine lv_iload_n hx hb dX5_firstStranger_15 rfl (lv_at hl 2 rfl) ?_
    refine lv_iload hx hb dX5_firstStranger_16 (lv_at hl 0 rfl) ?_
    refine lv_iadd hx hb dX5_firstStranger_18 ?_
    obtain ⟨h5, hf⟩ := zc hf
    obtain ⟨r6, hg4, hf⟩ := zb hf
    try dsimp only at hf
    refine q_calli C hS (q_runV C hP (c_X4_cellAt (l := l) C.2.2.1 hg4) (ci := 4) (As := [.int (x1 + r3)]) (rest := []) ⟨gd_V k_312 k_313 k_314 k_52 k_315, ⟨rfl, rfl⟩, kd_X4_cellAt, ⟨Nat.le_trans (Nat.le_of_ble_eq_true rfl) hR.1, Nat.le_trans (Nat.le_of_ble_eq_true rfl) hR.2⟩⟩ (oX_X4 h5) rfl rfl rfl rfl (Nat.le_of_ble_eq_true rfl) hl.1 dX5_firstStranger_19) (fun H locs hP hS => ?_)
    refine lv_bipush (v := 48) hx hb dX5_firstStranger_22 (by decide) ?_
    refine lv_isub hx hb dX5_firstStranger_24 ?_
    refine lv_iload_n hx hb dX5_firstStranger_25 rfl (lv_at hl 3 rfl) ?_
    refine lv_icmp_lt (tgt := 32) hx hb dX5_firstStranger_26 (by decide) (fun c7 => ?_) (fun c7 => ?_)
    · replace hf := zt c7 hf
      refine lv_iinc (v := x3 + 1) (lv' := [(3, .int (x3 + 1)), (4, .int r3), (0, .ref (ad (24 + x0))), (1, .int x1), (2, .int x2)]) hx hb dX5_firstStranger_32 hl (k := 4) rfl rfl (by decide) rfl (fun ls hl => ?_)
      refine lv_goto (tgt := 2) hx hb dX5_firstStranger_35 (by decide) ?_
      exact hag2 _ _ _ _ hf hP hS (lv_sub hl [2, 3, 4, 0] rfl)
    · replace hf := zf c7 hf
      refine lv_iload hx hb dX5_firstStranger_29 (lv_at hl 0 rfl) ?_
      exact q_iret C hr hlk hP hS (congrArg (fun q => (q, σ)) (Option.some.inj hf)) dX5_firstStranger_31
set_option maxRecDepth 100000 in
set_option maxHeartbeats 4000000 in
theorem wl_X5_firstStranger_2 (C : CX p m c cX5_firstStranger 5 s args RX5 D (TYX cs) (WX ad cs) (AX ad)) (hr : meth.sig.returnType = (some .int)) (hlk : meth.locks = false) (hR : 1 ≤ R.frames ∧ 21 ≤ R.locals) {σ : Sg} {x0 : Nat} {x1 : Int32} {x2 : Int32} {res : Int32} : ∀ n : Nat, ∀ (x3 : Int32) (H : Heap) (locs : List Loc) (ls : Array Slot), l_X5_firstStranger_2 σ x0 x1 x2 n x3 = some res → va_P D vwCl (WX ad cs σ) H → va_S (AX ad) s.heap H locs → lv_has ls 5 [(0, .ref (ad (24 + x0))), (1, .int x1), (2, .int x2), (3, .int x3)] → W p l e R s m args below meth c H locs 0 0 (MQ below (QI D (TYX cs) (WX ad cs) (AX ad) res σ) args s 0 0 (AX ad)) (F0 m 2 ls []) := by
  intro n
  induction n with
  | zero => intro x3 H locs ls hf; cases hf
  | succ n ih =>
    intro x3 H locs ls hf hP hS hl
    exact w_X5_firstStranger_2 C hr hlk hR (ag2 := l_X5_firstStranger_2 σ x0 x1 x2 n) ih hf hP hS hl
set_option maxRecDepth 100000 in
set_option maxHeartbeats 4000000 in
theorem w_X5_firstStranger (C : CX p m c cX5_firstStranger 5 s args RX5 D (TYX cs) (WX ad cs) (AX ad)) (hr : meth.sig.returnType = (some .int)) (hlk : meth.locks = false) (hR : 1 ≤ R.frames ∧ 21 ≤ R.locals) {σ : Sg} {x0 : Nat} {x1 : Int32} {x2 : Int32} {res : Int32} (hf : f_X5_firstStranger σ x0 x1 x2 = some res) {H : Heap} {locs : List Loc} (hP : va_P D vwCl (WX ad cs σ) H) (hS : va_S (AX ad) s.heap H locs) {ls : Array Slot} (hl : lv_has ls 5 [(0, .ref (ad (24 + x0))), (1, .int x1), (2, .int x2)]) : W p l e R s m args below meth c H locs 0 0 (MQ below (QI D (TYX cs) (WX ad cs) (AX ad) res σ) args s 0 0 (AX ad)) (F0 m 0 ls []) := by
  have hx := C.1.1
  have hb := C.1.2.1
  unfold f_X5_firstStranger at hf
  refine lv_iconst (v := 0) hx hb dX5_firstStranger_0 (by decide) ?_
  refine lv_istore_n (lv' := [(3, .int 0), (0, .ref (ad (24 + x0))), (1, .int x1), (2, .int x2)]) hx hb dX5_firstStranger_1 rfl hl (by decide) rfl (fun ls hl => ?_)
  exact wl_X5_firstStranger_2 C hr hlk hR fu _ _ _ _ hf hP hS (lv_sub hl [1, 2, 3, 0] rfl)
theorem kd_X5_firstStranger : yX5_firstStranger.cls ≠ "java/lang/invoke/MethodHandle" ∧ yX5_firstStranger.cls ≠ "java/lang/invoke/VarHandle" ∧ (parseMethodDescriptor yX5_firstStranger.desc).map (fun d => d.parameters.length) = some 3 := by decide +kernel
def r_X5_firstStranger : Room := { frames := 1, cells := 0, slots := 0, locals := 21 }
set_option maxRecDepth 100000 in
set_option maxHeartbeats 4000000 in
theorem c_X5_firstStranger {l : Launch} {D : va_G} {ad : Nat → Nat} {cs : Nat → ClassId} (hD : ∀ σ, va_D (AX ad) (WX ad cs σ)) {σ : Sg} {x0 : Nat} {x1 : Int32} {x2 : Int32} {res : Int32} (hf : f_X5_firstStranger σ x0 x1 x2 = some res) : Met l yX5_firstStranger (wm yX5_firstStranger cX5_firstStranger 5 (some .int)) r_X5_firstStranger (va_Pc [.ref (ad (24 + x0)), .int x1, .int x2] (BW D (TYX cs) (WX ad cs) σ)) (QI D (TYX cs) (WX ad cs) (AX ad) res σ) 0 0 (AX ad) := by
  refine q_enter (by decide) hD (Nat.le_of_ble_eq_true rfl) ?_
  intro p e s m below meth c C hr hlk hP hS ls hl
  exact w_X5_firstStranger C hr hlk ⟨Nat.le_of_ble_eq_true rfl, Nat.le_of_ble_eq_true rfl⟩ hf hP hS hl

set_option maxRecDepth 100000 in
set_option maxHeartbeats 4000000 in
theorem w_X5_firstFault_54 (C : CX p m c cX5_firstFault 4 s args RX5 D (TYX cs) (WX ad cs) (AX ad)) (hr : meth.sig.returnType = (some .int)) (hlk : meth.locks = false) (hR : 2 ≤ R.frames ∧ 45 ≤ R.locals) {σ : Sg} {x0 : Nat} {x1 : Int32} {x2 : Int32} {s0 : Int32} {res : Int32} (hf : f_X5_firstFault_54 σ x0 x1 x2 s0 = some res) {H : Heap} {locs : List Loc} (hP : va_P D vwCl (WX ad cs σ) H) (hS : va_S (AX ad) s.heap H locs) {ls : Array Slot} (hl : lv_has ls 4 [(0, .ref (ad (24 + x0))), (1, .int x1), (2, .int x2)]) : W p l e R s m args below meth c H locs 0 0 (MQ below (QI D (TYX cs) (WX ad cs) (AX ad) res σ) args s 0 0 (AX ad)) (F0 m 54 ls [.int s0]) := by
  have hx := C.1.1
  have hb := C.1.2.1
  unfold f_X5_firstFault_54 at hf
  refine lv_istore_n (lv' := [(3, .int s0), (0, .ref (ad (24 + x0))), (1, .int x1), (2, .int x2)]) hx hb dX5_firstFault_54 rfl hl (by decide) rfl (fun ls hl => ?_)
  refine lv_iload_n hx hb dX5_firstFault_55 rfl (lv_at hl 0 rfl) ?_
  refine lv_if_eq (tgt := 63) hx hb dX5_firstFault_56 (by decide) (fun c1 => ?_) (fun c1 => ?_)
  · replace hf := zt c1 hf
    refine lv_aload_n hx hb dX5_firstFault_63 rfl (lv_at hl 1 rfl) ?_
    refine lv_iload_n hx hb dX5_firstFault_64 rfl (lv_at hl 2 rfl) ?_
    refine lv_iload_n hx hb dX5_firstFault_65 rfl (lv_at hl 3 rfl) ?_
    obtain ⟨r3, hg2, hf⟩ := zb hf
    try dsimp only at hf
    refine q_calli C hS (q_runS C hP (c_X5_thingsIn (l := l) C.2.2.1 hg2) (As := [.int x2]) (rest := [.int x1, .ref (ad (24 + x0))]) ⟨gd_S k_322 k_323 k_54 k_324, ⟨rfl, rfl⟩, kd_X5_thingsIn, ⟨Nat.le_trans (Nat.le_of_ble_eq_true rfl) hR.1, Nat.le_trans (Nat.le_of_ble_eq_true rfl) hR.2⟩⟩ rfl rfl (Nat.le_of_ble_eq_true rfl) hl.1 dX5_firstFault_66) (fun H locs hP hS => ?_)
    obtain ⟨r5, hg4, hf⟩ := zb hf
    try dsimp only at hf
    refine q_calli C hS (q_runS C hP (c_X5_firstStranger (l := l) C.2.2.1 hg4) (As := [.ref (ad (24 + x0)), .int x1, .int r3]) (rest := []) ⟨gd_S k_328 k_329 k_54 k_330, ⟨rfl, rfl⟩, kd_X5_firstStranger, ⟨Nat.le_trans (Nat.le_of_ble_eq_true rfl) hR.1, Nat.le_trans (Nat.le_of_ble_eq_true rfl) hR.2⟩⟩ rfl rfl (Nat.le_of_ble_eq_true rfl) hl.1 dX5_firstFault_69) (fun H locs hP hS => ?_)
    exact q_iret C hr hlk hP hS (congrArg (fun q => (q, σ)) (Option.some.inj hf)) dX5_firstFault_72
  · replace hf := zf c1 hf
    refine lv_iload_n hx hb dX5_firstFault_59 rfl (lv_at hl 3 rfl) ?_
    refine lv_goto (tgt := 72) hx hb dX5_firstFault_60 (by decide) ?_
    exact q_iret C hr hlk hP hS (congrArg (fun q => (q, σ)) (Option.some.inj hf)) dX5_firstFault_72
set_option maxRecDepth 100000 in
set_option maxHeartbeats 4000000 in
theorem w_X5_firstFault_2 (C : CX p m c cX5_firstFault 4 s args RX5 D (TYX cs) (WX ad cs) (AX ad)) (hr : meth.sig.returnType = (some .int)) (hlk : meth.locks = false) (hR : 2 ≤ R.frames ∧ 45 ≤ R.locals) {σ : Sg} {x0 : Nat} {x1 : Int32} {x2 : Int32} {x3 : Int32} {res : Int32} {ag2 : Int32 → Option (Int32)} (hag2 : ∀ (x3 : Int32) (H : Heap) (locs : List Loc) (ls : Array Slot), ag2 x3 = some res → va_P D vwCl (WX ad cs σ) H → va_S (AX ad) s.heap H locs → lv_has ls 4 [(0, .ref (ad (24 + x0))), (1, .int x1), (2, .int x2), (3, .int x3)] → W p l e R s m args below meth c H locs 0 0 (MQ below (QI D (TYX cs) (WX ad cs) (AX ad) res σ) args s 0 0 (AX ad)) (F0 m 2 ls [])) (hf : f_X5_firstFault_2 ag2 σ x0 x1 x2 x3 = some res) {H : Heap} {locs : List Loc} (hP : va_P D vwCl (WX ad cs σ) H) (hS : va_S (AX ad) s.heap H locs) {ls : Array Slot} (hl : lv_has ls 4 [(0, .ref (ad (24 + x0))), (1, .int x1), (2, .int x2), (3, .int x3)]) : W p l e R s m args below meth c H locs 0 0 (MQ below (QI D (TYX cs) (WX ad cs) (AX ad) res σ) args s 0 0 (AX ad)) (F0 m 2 ls []) := by
  have hx := C.1.1
  have hb := C.1.2.1
  unfold f_X5_firstFault_2 at hf
  refine lv_iload_n hx hb dX5_firstFault_2 rfl (lv_at hl 3 rfl) ?_
  refine lv_iload_n hx hb dX5_firstFault_3 rfl (lv_at hl 2 rfl) ?_
  refine lv_icmp_ge (tgt := 29) hx hb dX5_firstFault_4 (by decide) (fun c1 => ?_) (fun c1 => ?_)
  · replace hf := zt c1 hf
    refine lv_iload_n hx hb dX5_firstFault_29 rfl (lv_at hl 2 rfl) ?_
    obtain ⟨r3, hg2, hf⟩ := zb hf
    try dsimp only at hf
    refine q_calli C hS (q_runS C hP (c_X5_thingsIn (l := l) C.2.2.1 hg2) (As := [.int x2]) (rest := []) ⟨gd_S k_322 k_323 k_54 k_324, ⟨rfl, rfl⟩, kd_X5_thingsIn, ⟨Nat.le_trans (Nat.le_of_ble_eq_true rfl) hR.1, Nat.le_trans (Nat.le_of_ble_eq_true rfl) hR.2⟩⟩ rfl rfl (Nat.le_of_ble_eq_true rfl) hl.1 dX5_firstFault_30) (fun H locs hP hS => ?_)
    refine lv_iconst (v := 2) hx hb dX5_firstFault_33 (by decide) ?_
    refine lv_icmp_lt (tgt := 49) hx hb dX5_firstFault_34 (by decide) (fun c4 => ?_) (fun c4 => ?_)
    · replace hf := zt c4 hf
      refine lv_iconst (v := 1) hx hb dX5_firstFault_49 (by decide) ?_
      refine lv_goto (tgt := 54) hx hb dX5_firstFault_50 (by decide) ?_
      exact w_X5_firstFault_54 C hr hlk hR hf hP hS (lv_sub hl [0, 1, 2] rfl)
    · replace hf := zf c4 hf
      refine lv_iload_n hx hb dX5_firstFault_37 rfl (lv_at hl 2 rfl) ?_
      obtain ⟨r6, hg5, hf⟩ := zb hf
      try dsimp only at hf
      refine q_calli C hS (q_runS C hP (c_X5_thingsIn (l := l) C.2.2.1 hg5) (As := [.int x2]) (rest := []) ⟨gd_S k_322 k_323 k_54 k_324, ⟨rfl, rfl⟩, kd_X5_thingsIn, ⟨Nat.le_trans (Nat.le_of_ble_eq_true rfl) hR.1, Nat.le_trans (Nat.le_of_ble_eq_true rfl) hR.2⟩⟩ rfl rfl (Nat.le_of_ble_eq_true rfl) hl.1 dX5_firstFault_38) (fun H locs hP hS => ?_)
      refine lv_iconst (v := 0) hx hb dX5_firstFault_41 (by decide) ?_
      obtain ⟨r8, hg7, hf⟩ := zb hf
      try dsimp only at hf
      refine q_calli C hS (q_runS C hP (c_X5_placeOf (l := l) C.2.2.1 hg7) (As := [.int r6, .int 0]) (rest := []) ⟨gd_S k_325 k_326 k_54 k_327, ⟨rfl, rfl⟩, kd_X5_placeOf, ⟨Nat.le_trans (Nat.le_of_ble_eq_true rfl) hR.1, Nat.le_trans (Nat.le_of_ble_eq_true rfl) hR.2⟩⟩ rfl rfl (Nat.le_of_ble_eq_true rfl) hl.1 dX5_firstFault_42) (fun H locs hP hS => ?_)
      refine lv_iload_n hx hb dX5_firstFault_45 rfl (lv_at hl 2 rfl) ?_
      refine lv_icmp_eq (tgt := 53) hx hb dX5_firstFault_46 (by decide) (fun c9 => ?_) (fun c9 => ?_)
      · replace hf := zt c9 hf
        refine lv_iconst (v := 0) hx hb dX5_firstFault_53 (by decide) ?_
        exact w_X5_firstFault_54 C hr hlk hR hf hP hS (lv_sub hl [0, 1, 2] rfl)
      · replace hf := zf c9 hf
        refine lv_iconst (v := 1) hx hb dX5_firstFault_49 (by decide) ?_
        refine lv_goto (tgt := 54) hx hb dX5_firstFault_50 (by decide) ?_
        exact w_X5_firstFault_54 C hr hlk hR hf hP hS (lv_sub hl [0, 1, 2] rfl)
  · replace hf := zf c1 hf
    refine lv_iload_n hx hb dX5_firstFault_7 rfl (lv_at hl 3 rfl) ?_
    refine lv_aload_n hx hb dX5_firstFault_8 rfl (lv_at hl 0 rfl) ?_
    refine lv_iload_n hx hb dX5_firstFault_9 rfl (lv_at hl 1 rfl) ?_
    refine lv_iload_n hx hb dX5_firstFault_10 rfl (lv_at hl 3 rfl) ?_
    refine lv_iadd hx hb dX5_firstFault_11 ?_
    obtain ⟨h11, hf⟩ := zc hf
    obtain ⟨r12, hg10, hf⟩ := zb hf
    try dsimp only at hf
    refine q_calli C hS (q_runV C hP (c_X4_cellAt (l := l) C.2.2.1 hg10) (ci := 4) (As := [.int (x1 + x3)]) (rest := [.int x3]) ⟨gd_V k_312 k_313 k_314 k_52 k_315, ⟨rfl, rfl⟩, kd_X4_cellAt, ⟨Nat.le_trans (Nat.le_of_ble_eq_true rfl) hR.1, Nat.le_trans (Nat.le_of_ble_eq_true rfl) hR.2⟩⟩ (oX_X4 h11) rfl rfl rfl rfl (Nat.le_of_ble_eq_true rfl) hl.1 dX5_firstFault_12) (fun H locs hP hS => ?_)
    obtain ⟨r14, hg13, hf⟩ := zb hf
    try dsimp only at hf
    refine q_calli C hS (q_runS C hP (c_X5_goesOn (l := l) C.2.2.1 hg13) (As := [.int x3, .int r12]) (rest := []) ⟨gd_S k_316 k_317 k_54 k_318, ⟨rfl, rfl⟩, kd_X5_goesOn, ⟨Nat.le_trans (Nat.le_of_ble_eq_true rfl) hR.1, Nat.le_trans (Nat.le_of_ble_eq_true rfl) hR.2⟩⟩ rfl rfl (Nat.le_of_ble_eq_true rfl) hl.1 dX5_firstFault_15) (fun H locs hP hS => ?_)
    refine lv_if_ne (tgt := 23) hx hb dX5_firstFault_18 (by decide) (fun c15 => ?_) (fun c15 => ?_)
    · replace hf := zf c15 hf
      refine lv_iinc (v := x3 + 1) (lv' := [(3, .int (x3 + 1)), (0, .ref (ad (24 + x0))), (1, .int x1), (2, .int x2)]) hx hb dX5_firstFault_23 hl (k := 3) rfl rfl (by decide) rfl (fun ls hl => ?_)
      refine lv_goto (tgt := 2) hx hb dX5_firstFault_26 (by decide) ?_
      exact hag2 _ _ _ _ hf hP hS (lv_sub hl [1, 2, 3, 0] rfl)
    · replace hf := zt c15 hf
      refine lv_iload_n hx hb dX5_firstFault_21 rfl (lv_at hl 3 rfl) ?_
      exact q_iret C hr hlk hP hS (congrArg (fun q => (q, σ)) (Option.some.inj hf)) dX5_firstFault_22
set_option maxRecDepth 100000 in
set_option maxHeartbeats 4000000 in
theorem wl_X5_firstFault_2 (C : CX p m c cX5_firstFault 4 s args RX5 D (TYX cs) (WX ad cs) (AX ad)) (hr : meth.sig.returnType = (some .int)) (hlk : meth.locks = false) (hR : 2 ≤ R.frames ∧ 45 ≤ R.locals) {σ : Sg} {x0 : Nat} {x1 : Int32} {x2 : Int32} {res : Int32} : ∀ n : Nat, ∀ (x3 : Int32) (H : Heap) (locs : List Loc) (ls : Array Slot), l_X5_firstFault_2 σ x0 x1 x2 n x3 = some res → va_P D vwCl (WX ad cs σ) H → va_S (AX ad) s.heap H locs → lv_has ls 4 [(0, .ref (ad (24 + x0))), (1, .int x1), (2, .int x2), (3, .int x3)] → W p l e R s m args below meth c H locs 0 0 (MQ below (QI D (TYX cs) (WX ad cs) (AX ad) res σ) args s 0 0 (AX ad)) (F0 m 2 ls []) := by
  intro n
  induction n with
  | zero => intro x3 H locs ls hf; cases hf
  | succ n ih =>
    intro x3 H locs ls hf hP hS hl
    exact w_X5_firstFault_2 C hr hlk hR (ag2 := l_X5_firstFault_2 σ x0 x1 x2 n) ih hf hP hS hl
set_option maxRecDepth 100000 in
set_option maxHeartbeats 4000000 in
theorem w_X5_firstFault (C : CX p m c cX5_firstFault 4 s args RX5 D (TYX cs) (WX ad cs) (AX ad)) (hr : meth.sig.returnType = (some .int)) (hlk : meth.locks = false) (hR : 2 ≤ R.frames ∧ 45 ≤ R.locals) {σ : Sg} {x0 : Nat} {x1 : Int32} {x2 : Int32} {res : Int32} (hf : f_X5_firstFault σ x0 x1 x2 = some res) {H : Heap} {locs : List Loc} (hP : va_P D vwCl (WX ad cs σ) H) (hS : va_S (AX ad) s.heap H locs) {ls : Array Slot} (hl : lv_has ls 4 [(0, .ref (ad (24 + x0))), (1, .int x1), (2, .int x2)]) : W p l e R s m args below meth c H locs 0 0 (MQ below (QI D (TYX cs) (WX ad cs) (AX ad) res σ) args s 0 0 (AX ad)) (F0 m 0 ls []) := by
  have hx := C.1.1
  have hb := C.1.2.1
  unfold f_X5_firstFault at hf
  refine lv_iconst (v := 0) hx hb dX5_firstFault_0 (by decide) ?_
  refine lv_istore_n (lv' := [(3, .int 0), (0, .ref (ad (24 + x0))), (1, .int x1), (2, .int x2)]) hx hb dX5_firstFault_1 rfl hl (by decide) rfl (fun ls hl => ?_)
  exact wl_X5_firstFault_2 C hr hlk hR fu _ _ _ _ hf hP hS (lv_sub hl [1, 2, 3, 0] rfl)
theorem kd_X5_firstFault : yX5_firstFault.cls ≠ "java/lang/invoke/MethodHandle" ∧ yX5_firstFault.cls ≠ "java/lang/invoke/VarHandle" ∧ (parseMethodDescriptor yX5_firstFault.desc).map (fun d => d.parameters.length) = some 3 := by decide +kernel
def r_X5_firstFault : Room := { frames := 2, cells := 0, slots := 0, locals := 45 }
set_option maxRecDepth 100000 in
set_option maxHeartbeats 4000000 in
theorem c_X5_firstFault {l : Launch} {D : va_G} {ad : Nat → Nat} {cs : Nat → ClassId} (hD : ∀ σ, va_D (AX ad) (WX ad cs σ)) {σ : Sg} {x0 : Nat} {x1 : Int32} {x2 : Int32} {res : Int32} (hf : f_X5_firstFault σ x0 x1 x2 = some res) : Met l yX5_firstFault (wm yX5_firstFault cX5_firstFault 4 (some .int)) r_X5_firstFault (va_Pc [.ref (ad (24 + x0)), .int x1, .int x2] (BW D (TYX cs) (WX ad cs) σ)) (QI D (TYX cs) (WX ad cs) (AX ad) res σ) 0 0 (AX ad) := by
  refine q_enter (by decide) hD (Nat.le_of_ble_eq_true rfl) ?_
  intro p e s m below meth c C hr hlk hP hS ls hl
  exact w_X5_firstFault C hr hlk ⟨Nat.le_of_ble_eq_true rfl, Nat.le_of_ble_eq_true rfl⟩ hf hP hS hl

set_option maxRecDepth 100000 in
set_option maxHeartbeats 4000000 in
theorem w_X6_goodOf (C : CX p m c cX6_goodOf 2 s args RX6 D (TYX cs) (WX ad cs) (AX ad)) (hr : meth.sig.returnType = (some .int)) (hlk : meth.locks = false) (hR : 0 ≤ R.frames ∧ 0 ≤ R.locals) {σ : Sg} {x0 : Int32} {x1 : Int32} {res : Int32} (hf : f_X6_goodOf σ x0 x1 = some res) {H : Heap} {locs : List Loc} (hP : va_P D vwCl (WX ad cs σ) H) (hS : va_S (AX ad) s.heap H locs) {ls : Array Slot} (hl : lv_has ls 2 [(0, .int x0), (1, .int x1)]) : W p l e R s m args below meth c H locs 0 0 (MQ below (QI D (TYX cs) (WX ad cs) (AX ad) res σ) args s 0 0 (AX ad)) (F0 m 0 ls []) := by
  have hx := C.1.1
  have hb := C.1.2.1
  unfold f_X6_goodOf at hf
  refine lv_iload_n hx hb dX6_goodOf_0 rfl (lv_at hl 0 rfl) ?_
  by_cases c1 : x0 = 1
  · replace hf := zt c1 hf
    refine lv_lookup (off := 33) (tgt := 34) hx hb dX6_goodOf_1 (by decide) (by rw [c1]; rfl) (by decide) ?_
    refine lv_iload_n hx hb dX6_goodOf_34 rfl (lv_at hl 1 rfl) ?_
    refine lv_iconst (v := 1) hx hb dX6_goodOf_35 (by decide) ?_
    refine lv_iadd hx hb dX6_goodOf_36 ?_
    exact q_iret C hr hlk hP hS (congrArg (fun q => (q, σ)) (Option.some.inj hf)) dX6_goodOf_37
  · replace hf := zf c1 hf
    by_cases c2 : x0 = 2
    · replace hf := zt c2 hf
      refine lv_lookup (off := 27) (tgt := 28) hx hb dX6_goodOf_1 (by decide) (by rw [c2]; rfl) (by decide) ?_
      refine lv_iconst (v := 2) hx hb dX6_goodOf_28 (by decide) ?_
      refine lv_iload_n hx hb dX6_goodOf_29 rfl (lv_at hl 1 rfl) ?_
      refine lv_iconst (v := 1) hx hb dX6_goodOf_30 (by decide) ?_
      refine lv_iadd hx hb dX6_goodOf_31 ?_
      refine lv_imul hx hb dX6_goodOf_32 ?_
      exact q_iret C hr hlk hP hS (congrArg (fun q => (q, σ)) (Option.some.inj hf)) dX6_goodOf_33
    · replace hf := zf c2 hf
      refine lv_lookup (off := 37) (tgt := 38) hx hb dX6_goodOf_1 (by decide) ((lv_osw c1 rfl).trans ((lv_osw c2 rfl).trans rfl)) (by decide) ?_
      refine lv_iload_n hx hb dX6_goodOf_38 rfl (lv_at hl 1 rfl) ?_
      exact q_iret C hr hlk hP hS (congrArg (fun q => (q, σ)) (Option.some.inj hf)) dX6_goodOf_39
theorem kd_X6_goodOf : yX6_goodOf.cls ≠ "java/lang/invoke/MethodHandle" ∧ yX6_goodOf.cls ≠ "java/lang/invoke/VarHandle" ∧ (parseMethodDescriptor yX6_goodOf.desc).map (fun d => d.parameters.length) = some 2 := by decide +kernel
def r_X6_goodOf : Room := { frames := 0, cells := 0, slots := 0, locals := 0 }
set_option maxRecDepth 100000 in
set_option maxHeartbeats 4000000 in
theorem c_X6_goodOf {l : Launch} {D : va_G} {ad : Nat → Nat} {cs : Nat → ClassId} (hD : ∀ σ, va_D (AX ad) (WX ad cs σ)) {σ : Sg} {x0 : Int32} {x1 : Int32} {res : Int32} (hf : f_X6_goodOf σ x0 x1 = some res) : Met l yX6_goodOf (wm yX6_goodOf cX6_goodOf 2 (some .int)) r_X6_goodOf (va_Pc [.int x0, .int x1] (BW D (TYX cs) (WX ad cs) σ)) (QI D (TYX cs) (WX ad cs) (AX ad) res σ) 0 0 (AX ad) := by
  refine q_enter (by decide) hD (Nat.le_of_ble_eq_true rfl) ?_
  intro p e s m below meth c C hr hlk hP hS ls hl
  exact w_X6_goodOf C hr hlk ⟨Nat.le_of_ble_eq_true rfl, Nat.le_of_ble_eq_true rfl⟩ hf hP hS hl

set_option maxRecDepth 100000 in
set_option maxHeartbeats 4000000 in
theorem w_X6_become (C : CX p m c cX6_become 5 s args RX6 D (TYX cs) (WX ad cs) (AX ad)) (hr : meth.sig.returnType = none) (hlk : meth.locks = false) (hR : 1 ≤ R.frames ∧ 21 ≤ R.locals) {σ : Sg} {x0 : Nat} {x1 : Int32} {x2 : Int32} {x3 : Int32} {x4 : Int32} {res : Sg} (hf : f_X6_become σ x0 x1 x2 x3 x4 = some res) {H : Heap} {locs : List Loc} (hP : va_P D vwCl (WX ad cs σ) H) (hS : va_S (AX ad) s.heap H locs) {ls : Array Slot} (hl : lv_has ls 5 [(0, .ref (ad (4 + x0))), (1, .int x1), (2, .int x2), (3, .int x3), (4, .int x4)]) : W p l e R s m args below meth c H locs 0 0 (MQ below (QV D (TYX cs) (WX ad cs) (AX ad) res) args s 0 0 (AX ad)) (F0 m 0 ls []) := by
  have hx := C.1.1
  have hb := C.1.2.1
  unfold f_X6_become at hf
  refine lv_aload_n hx hb dX6_become_0 rfl (lv_at hl 0 rfl) ?_
  refine lv_iload_n hx hb dX6_become_1 rfl (lv_at hl 1 rfl) ?_
  obtain ⟨h1, hf⟩ := zc hf
  refine pX6_1 C hP h1 hS k_85 dX6_become_2 (fun H locs hP hS => ?_)
  refine lv_aload_n hx hb dX6_become_5 rfl (lv_at hl 0 rfl) ?_
  refine lv_iload_n hx hb dX6_become_6 rfl (lv_at hl 2 rfl) ?_
  refine pX6_2 C hP h1 hS k_88 dX6_become_7 (fun H locs hP hS => ?_)
  refine lv_aload_n hx hb dX6_become_10 rfl (lv_at hl 0 rfl) ?_
  refine lv_iload_n hx hb dX6_become_11 rfl (lv_at hl 3 rfl) ?_
  refine pX6_3 C hP h1 hS k_93 dX6_become_12 (fun H locs hP hS => ?_)
  refine lv_aload_n hx hb dX6_become_15 rfl (lv_at hl 0 rfl) ?_
  refine lv_iload hx hb dX6_become_16 (lv_at hl 4 rfl) ?_
  refine pX6_4 C hP h1 hS k_96 dX6_become_18 (fun H locs hP hS => ?_)
  refine lv_aload_n hx hb dX6_become_21 rfl (lv_at hl 0 rfl) ?_
  refine lv_iload_n hx hb dX6_become_22 rfl (lv_at hl 1 rfl) ?_
  refine lv_iload_n hx hb dX6_become_23 rfl (lv_at hl 3 rfl) ?_
  obtain ⟨r3, hg2, hf⟩ := zb hf
  try dsimp only at hf
  refine q_calli C hS (q_runS C hP (c_X6_goodOf (l := l) C.2.2.1 hg2) (As := [.int x1, .int x3]) (rest := [.ref (ad (4 + x0))]) ⟨gd_S k_350 k_351 k_46 k_352, ⟨rfl, rfl⟩, kd_X6_goodOf, ⟨Nat.le_trans (Nat.le_of_ble_eq_true rfl) hR.1, Nat.le_trans (Nat.le_of_ble_eq_true rfl) hR.2⟩⟩ rfl rfl (Nat.le_of_ble_eq_true rfl) hl.1 dX6_become_24) (fun H locs hP hS => ?_)
  refine pX6_5 C hP h1 hS k_99 dX6_become_27 (fun H locs hP hS => ?_)
  exact q_vret C hr hlk hP hS (Option.some.inj hf) dX6_become_30
theorem kd_X6_become : yX6_become.cls = RX6 ∧ yX6_become.cls ≠ "java/lang/invoke/MethodHandle" ∧ yX6_become.cls ≠ "java/lang/invoke/VarHandle" ∧ (parseMethodDescriptor yX6_become.desc).map (fun d => d.parameters.length) = some 4 := by decide +kernel
def r_X6_become : Room := { frames := 1, cells := 0, slots := 0, locals := 21 }
set_option maxRecDepth 100000 in
set_option maxHeartbeats 4000000 in
theorem c_X6_become {l : Launch} {D : va_G} {ad : Nat → Nat} {cs : Nat → ClassId} (hD : ∀ σ, va_D (AX ad) (WX ad cs σ)) {σ : Sg} {x0 : Nat} {x1 : Int32} {x2 : Int32} {x3 : Int32} {x4 : Int32} {res : Sg} (hf : f_X6_become σ x0 x1 x2 x3 x4 = some res) : Met l yX6_become (wm yX6_become cX6_become 5 none) r_X6_become (va_Pc [.ref (ad (4 + x0)), .int x1, .int x2, .int x3, .int x4] (BW D (TYX cs) (WX ad cs) σ)) (QV D (TYX cs) (WX ad cs) (AX ad) res) 0 0 (AX ad) := by
  refine q_enter (by decide) hD (Nat.le_of_ble_eq_true rfl) ?_
  intro p e s m below meth c C hr hlk hP hS ls hl
  exact w_X6_become C hr hlk ⟨Nat.le_of_ble_eq_true rfl, Nat.le_of_ble_eq_true rfl⟩ hf hP hS hl

set_option maxRecDepth 100000 in
set_option maxHeartbeats 4000000 in
theorem w_X7_settle_18 (C : CX p m c cX7_settle 10 s args RX7 D (TYX cs) (WX ad cs) (AX ad)) (hr : meth.sig.returnType = none) (hlk : meth.locks = false) (hR : 2 ≤ R.frames ∧ 45 ≤ R.locals) {σ : Sg} {x1 : Nat} {x2 : Int32} {x4 : Int32} {res : Sg} {ag18 : Int32 → Sg → Option (Sg)} (hag18 : ∀ (x4 : Int32) (σ : Sg) (H : Heap) (locs : List Loc) (ls : Array Slot), ag18 x4 σ = some res → va_P D vwCl (WX ad cs σ) H → va_S (AX ad) s.heap H locs → lv_has ls 10 [(0, .ref (ad 2)), (1, .ref (ad (24 + x1))), (2, .int x2), (4, .int x4)] → W p l e R s m args below meth c H locs 0 0 (MQ below (QV D (TYX cs) (WX ad cs) (AX ad) res) args s 0 0 (AX ad)) (F0 m 18 ls [])) (hf : f_X7_settle_18 ag18 σ x1 x2 x4 = some res) {H : Heap} {locs : List Loc} (hP : va_P D vwCl (WX ad cs σ) H) (hS : va_S (AX ad) s.heap H locs) {ls : Array Slot} (hl : lv_has ls 10 [(0, .ref (ad 2)), (1, .ref (ad (24 + x1))), (2, .int x2), (4, .int x4)]) : W p l e R s m args below meth c H locs 0 0 (MQ below (QV D (TYX cs) (WX ad cs) (AX ad) res) args s 0 0 (AX ad)) (F0 m 18 ls []) := by
  have hx := C.1.1
  have hb := C.1.2.1
  unfold f_X7_settle_18 at hf
  refine lv_iload hx hb dX7_settle_18 (lv_at hl 3 rfl) ?_
  refine lv_aload_n hx hb dX7_settle_20 rfl (lv_at hl 0 rfl) ?_
  refine gX7_1 C hP k_116 dX7_settle_21 ?_
  refine lv_icmp_ge (tgt := 127) hx hb dX7_settle_24 (by decide) (fun c1 => ?_) (fun c1 => ?_)
  · replace hf := zt c1 hf
    exact q_vret C hr hlk hP hS (Option.some.inj hf) dX7_settle_127
  · replace hf := zf c1 hf
    refine lv_aload_n hx hb dX7_settle_27 rfl (lv_at hl 0 rfl) ?_
    refine lv_iload hx hb dX7_settle_28 (lv_at hl 3 rfl) ?_
    obtain ⟨r3, hg2, hf⟩ := zb hf
    try dsimp only at hf
    refine q_callr C hS (q_runV C hP (c_X7_thingAt (l := l) C.2.2.1 hg2) (ci := 6) (As := [.int x4]) (rest := []) ⟨gd_V k_339 k_340 k_341 k_45 k_342, ⟨rfl, rfl⟩, kd_X7_thingAt, ⟨Nat.le_trans (Nat.le_of_ble_eq_true rfl) hR.1, Nat.le_trans (Nat.le_of_ble_eq_true rfl) hR.2⟩⟩ (o := 2) rfl rfl rfl rfl rfl (Nat.le_of_ble_eq_true rfl) hl.1 dX7_settle_30) (fun H locs hP hS => ?_)
    refine q_astoreq (lv' := [(5, va_rf (Option.map (fun t => ad (4 + t)) r3)), (0, .ref (ad 2)), (1, .ref (ad (24 + x1))), (2, .int x2), (4, .int x4)]) C dX7_settle_33 hl (by decide) rfl (fun ls hl => ?_)
    refine q_aloadq C dX7_settle_35 (lv_at hl 0 rfl) ?_
    rcases r3 with _ | t4
    · refine lv_ifnullN (tgt := 121) hx hb dX7_settle_37 (by decide) ?_
      try dsimp only at hf
      refine lv_iinc (v := x4 + 1) (lv' := [(4, .int (x4 + 1)), (5, .null), (0, .ref (ad 2)), (1, .ref (ad (24 + x1))), (2, .int x2)]) hx hb dX7_settle_121 hl (k := 4) rfl rfl (by decide) rfl (fun ls hl => ?_)
      refine lv_goto (tgt := 18) hx hb dX7_settle_124 (by decide) ?_
      exact hag18 _ _ _ _ _ hf hP hS (lv_sub hl [2, 3, 4, 0] rfl)
    · refine lv_ifnull hx hb dX7_settle_37 ?_
      try dsimp only at hf
      refine lv_aload_n hx hb dX7_settle_40 rfl (lv_at hl 2 rfl) ?_
      refine lv_iload_n hx hb dX7_settle_41 rfl (lv_at hl 3 rfl) ?_
      refine lv_iload hx hb dX7_settle_42 (lv_at hl 4 rfl) ?_
      refine lv_iconst (v := 1) hx hb dX7_settle_44 (by decide) ?_
      obtain ⟨r6, hg5, hf⟩ := zb hf
      try dsimp only at hf
      refine q_calli C hS (q_runS C hP (c_X5_placeOf (l := l) C.2.2.1 hg5) (As := [.int x4, .int 1]) (rest := [.int x2, .ref (ad (24 + x1))]) ⟨gd_S k_343 k_326 k_54 k_327, ⟨rfl, rfl⟩, kd_X5_placeOf, ⟨Nat.le_trans (Nat.le_of_ble_eq_true rfl) hR.1, Nat.le_trans (Nat.le_of_ble_eq_true rfl) hR.2⟩⟩ rfl rfl (Nat.le_of_ble_eq_true rfl) hl.1 dX7_settle_45) (fun H locs hP hS => ?_)
      refine lv_iadd hx hb dX7_settle_48 ?_
      obtain ⟨h8, hf⟩ := zc hf
      obtain ⟨r9, hg7, hf⟩ := zb hf
      try dsimp only at hf
      refine q_calli C hS (q_runV C hP (c_X4_cellAt (l := l) C.2.2.1 hg7) (ci := 4) (As := [.int (x2 + r6)]) (rest := []) ⟨gd_V k_344 k_313 k_314 k_52 k_315, ⟨rfl, rfl⟩, kd_X4_cellAt, ⟨Nat.le_trans (Nat.le_of_ble_eq_true rfl) hR.1, Nat.le_trans (Nat.le_of_ble_eq_true rfl) hR.2⟩⟩ (oX_X4 h8) rfl rfl rfl rfl (Nat.le_of_ble_eq_true rfl) hl.1 dX7_settle_49) (fun H locs hP hS => ?_)
      obtain ⟨r11, hg10, hf⟩ := zb hf
      try dsimp only at hf
      refine q_calli C hS (q_runS C hP (c_X5_kindBy (l := l) C.2.2.1 hg10) (As := [.int r9]) (rest := []) ⟨gd_S k_345 k_320 k_54 k_321, ⟨rfl, rfl⟩, kd_X5_kindBy, ⟨Nat.le_trans (Nat.le_of_ble_eq_true rfl) hR.1, Nat.le_trans (Nat.le_of_ble_eq_true rfl) hR.2⟩⟩ rfl rfl (Nat.le_of_ble_eq_true rfl) hl.1 dX7_settle_52) (fun H locs hP hS => ?_)
      refine lv_istore (lv' := [(6, .int r11), (5, .ref (ad (4 + t4))), (0, .ref (ad 2)), (1, .ref (ad (24 + x1))), (2, .int x2), (4, .int x4)]) hx hb dX7_settle_55 hl (by decide) rfl (fun ls hl => ?_)
      refine lv_aload_n hx hb dX7_settle_57 rfl (lv_at hl 3 rfl) ?_
      refine lv_iload_n hx hb dX7_settle_58 rfl (lv_at hl 4 rfl) ?_
      refine lv_iload hx hb dX7_settle_59 (lv_at hl 5 rfl) ?_
      refine lv_iconst (v := 2) hx hb dX7_settle_61 (by decide) ?_
      obtain ⟨r13, hg12, hf⟩ := zb hf
      try dsimp only at hf
      refine q_calli C hS (q_runS C hP (c_X5_placeOf (l := l) C.2.2.1 hg12) (As := [.int x4, .int 2]) (rest := [.int x2, .ref (ad (24 + x1))]) ⟨gd_S k_343 k_326 k_54 k_327, ⟨rfl, rfl⟩, kd_X5_placeOf, ⟨Nat.le_trans (Nat.le_of_ble_eq_true rfl) hR.1, Nat.le_trans (Nat.le_of_ble_eq_true rfl) hR.2⟩⟩ rfl rfl (Nat.le_of_ble_eq_true rfl) hl.1 dX7_settle_62) (fun H locs hP hS => ?_)
      refine lv_iadd hx hb dX7_settle_65 ?_
      obtain ⟨r15, hg14, hf⟩ := zb hf
      try dsimp only at hf
      refine q_calli C hS (q_runV C hP (c_X4_cellAt (l := l) C.2.2.1 hg14) (ci := 4) (As := [.int (x2 + r13)]) (rest := []) ⟨gd_V k_344 k_313 k_314 k_52 k_315, ⟨rfl, rfl⟩, kd_X4_cellAt, ⟨Nat.le_trans (Nat.le_of_ble_eq_true rfl) hR.1, Nat.le_trans (Nat.le_of_ble_eq_true rfl) hR.2⟩⟩ (oX_X4 h8) rfl rfl rfl rfl (Nat.le_of_ble_eq_true rfl) hl.1 dX7_settle_66) (fun H locs hP hS => ?_)
      refine lv_bipush (v := 48) hx hb dX7_settle_69 (by decide) ?_
      refine lv_isub hx hb dX7_settle_71 ?_
      refine lv_istore (lv' := [(7, .int (r15 - 48)), (6, .int r11), (5, .ref (ad (4 + t4))), (0, .ref (ad 2)), (1, .ref (ad (24 + x1))), (2, .int x2), (4, .int x4)]) hx hb dX7_settle_72 hl (by decide) rfl (fun ls hl => ?_)
      refine lv_aload_n hx hb dX7_settle_74 rfl (lv_at hl 4 rfl) ?_
      refine lv_iload_n hx hb dX7_settle_75 rfl (lv_at hl 5 rfl) ?_
      refine lv_iload hx hb dX7_settle_76 (lv_at hl 6 rfl) ?_
      refine lv_iconst (v := 3) hx hb dX7_settle_78 (by decide) ?_
      obtain ⟨r17, hg16, hf⟩ := zb hf
      try dsimp only at hf
      refine q_calli C hS (q_runS C hP (c_X5_placeOf (l := l) C.2.2.1 hg16) (As := [.int x4, .int 3]) (rest := [.int x2, .ref (ad (24 + x1))]) ⟨gd_S k_343 k_326 k_54 k_327, ⟨rfl, rfl⟩, kd_X5_placeOf, ⟨Nat.le_trans (Nat.le_of_ble_eq_true rfl) hR.1, Nat.le_trans (Nat.le_of_ble_eq_true rfl) hR.2⟩⟩ rfl rfl (Nat.le_of_ble_eq_true rfl) hl.1 dX7_settle_79) (fun H locs hP hS => ?_)
      refine lv_iadd hx hb dX7_settle_82 ?_
      obtain ⟨r19, hg18, hf⟩ := zb hf
      try dsimp only at hf
      refine q_calli C hS (q_runV C hP (c_X4_cellAt (l := l) C.2.2.1 hg18) (ci := 4) (As := [.int (x2 + r17)]) (rest := []) ⟨gd_V k_344 k_313 k_314 k_52 k_315, ⟨rfl, rfl⟩, kd_X4_cellAt, ⟨Nat.le_trans (Nat.le_of_ble_eq_true rfl) hR.1, Nat.le_trans (Nat.le_of_ble_eq_true rfl) hR.2⟩⟩ (oX_X4 h8) rfl rfl rfl rfl (Nat.le_of_ble_eq_true rfl) hl.1 dX7_settle_83) (fun H locs hP hS => ?_)
      refine lv_bipush (v := 48) hx hb dX7_settle_86 (by decide) ?_
      refine lv_isub hx hb dX7_settle_88 ?_
      refine lv_istore (lv' := [(8, .int (r19 - 48)), (7, .int (r15 - 48)), (6, .int r11), (5, .ref (ad (4 + t4))), (0, .ref (ad 2)), (1, .ref (ad (24 + x1))), (2, .int x2), (4, .int x4)]) hx hb dX7_settle_89 hl (by decide) rfl (fun ls hl => ?_)
      refine lv_aload_n hx hb dX7_settle_91 rfl (lv_at hl 5 rfl) ?_
      refine lv_iload_n hx hb dX7_settle_92 rfl (lv_at hl 6 rfl) ?_
      refine lv_iload hx hb dX7_settle_93 (lv_at hl 7 rfl) ?_
      refine lv_iconst (v := 4) hx hb dX7_settle_95 (by decide) ?_
      obtain ⟨r21, hg20, hf⟩ := zb hf
      try dsimp only at hf
      refine q_calli C hS (q_runS C hP (c_X5_placeOf (l := l) C.2.2.1 hg20) (As := [.int x4, .int 4]) (rest := [.int x2, .ref (ad (24 + x1))]) ⟨gd_S k_343 k_326 k_54 k_327, ⟨rfl, rfl⟩, kd_X5_placeOf, ⟨Nat.le_trans (Nat.le_of_ble_eq_true rfl) hR.1, Nat.le_trans (Nat.le_of_ble_eq_true rfl) hR.2⟩⟩ rfl rfl (Nat.le_of_ble_eq_true rfl) hl.1 dX7_settle_96) (fun H locs hP hS => ?_)
      refine lv_iadd hx hb dX7_settle_99 ?_
      obtain ⟨r23, hg22, hf⟩ := zb hf
      try dsimp only at hf
      refine q_calli C hS (q_runV C hP (c_X4_cellAt (l := l) C.2.2.1 hg22) (ci := 4) (As := [.int (x2 + r21)]) (rest := []) ⟨gd_V k_344 k_313 k_314 k_52 k_315, ⟨rfl, rfl⟩, kd_X4_cellAt, ⟨Nat.le_trans (Nat.le_of_ble_eq_true rfl) hR.1, Nat.le_trans (Nat.le_of_ble_eq_true rfl) hR.2⟩⟩ (oX_X4 h8) rfl rfl rfl rfl (Nat.le_of_ble_eq_true rfl) hl.1 dX7_settle_100) (fun H locs hP hS => ?_)
      refine lv_bipush (v := 48) hx hb dX7_settle_103 (by decide) ?_
      refine lv_isub hx hb dX7_settle_105 ?_
      refine lv_istore (lv' := [(9, .int (r23 - 48)), (8, .int (r19 - 48)), (7, .int (r15 - 48)), (6, .int r11), (5, .ref (ad (4 + t4))), (0, .ref (ad 2)), (1, .ref (ad (24 + x1))), (2, .int x2), (4, .int x4)]) hx hb dX7_settle_106 hl (by decide) rfl (fun ls hl => ?_)
      refine lv_aload hx hb dX7_settle_108 (lv_at hl 4 rfl) ?_
      refine lv_iload hx hb dX7_settle_110 (lv_at hl 3 rfl) ?_
      refine lv_iload hx hb dX7_settle_112 (lv_at hl 2 rfl) ?_
      refine lv_iload hx hb dX7_settle_114 (lv_at hl 1 rfl) ?_
      refine lv_iload hx hb dX7_settle_116 (lv_at hl 0 rfl) ?_
      obtain ⟨h25, hf⟩ := zc hf
      obtain ⟨σ26, hg24, hf⟩ := zb hf
      try dsimp only at hf
      refine q_callv C hS (q_runV C hP (c_X6_become (l := l) C.2.2.1 hg24) (ci := 5) (As := [.int r11, .int (r15 - 48), .int (r19 - 48), .int (r23 - 48)]) (rest := []) ⟨gd_V k_346 k_347 k_348 k_46 k_349, ⟨rfl, rfl⟩, kd_X6_become, ⟨Nat.le_trans (Nat.le_of_ble_eq_true rfl) hR.1, Nat.le_trans (Nat.le_of_ble_eq_true rfl) hR.2⟩⟩ (oX_X6 h25) rfl rfl rfl rfl (Nat.le_of_ble_eq_true rfl) hl.1 dX7_settle_118) (fun H locs hP hS => ?_)
      refine lv_iinc (v := x4 + 1) (lv' := [(4, .int (x4 + 1)), (9, .int (r23 - 48)), (8, .int (r19 - 48)), (7, .int (r15 - 48)), (6, .int r11), (5, .ref (ad (4 + t4))), (0, .ref (ad 2)), (1, .ref (ad (24 + x1))), (2, .int x2)]) hx hb dX7_settle_121 hl (k := 8) rfl rfl (by decide) rfl (fun ls hl => ?_)
      refine lv_goto (tgt := 18) hx hb dX7_settle_124 (by decide) ?_
      exact hag18 _ _ _ _ _ hf hP hS (lv_sub hl [6, 7, 8, 0] rfl)
set_option maxRecDepth 100000 in
set_option maxHeartbeats 4000000 in
theorem wl_X7_settle_18 (C : CX p m c cX7_settle 10 s args RX7 D (TYX cs) (WX ad cs) (AX ad)) (hr : meth.sig.returnType = none) (hlk : meth.locks = false) (hR : 2 ≤ R.frames ∧ 45 ≤ R.locals) {x1 : Nat} {x2 : Int32} {res : Sg} : ∀ n : Nat, ∀ (x4 : Int32) (σ : Sg) (H : Heap) (locs : List Loc) (ls : Array Slot), l_X7_settle_18 x1 x2 n x4 σ = some res → va_P D vwCl (WX ad cs σ) H → va_S (AX ad) s.heap H locs → lv_has ls 10 [(0, .ref (ad 2)), (1, .ref (ad (24 + x1))), (2, .int x2), (4, .int x4)] → W p l e R s m args below meth c H locs 0 0 (MQ below (QV D (TYX cs) (WX ad cs) (AX ad) res) args s 0 0 (AX ad)) (F0 m 18 ls []) := by
  intro n
  induction n with
  | zero => intro x4 σ H locs ls hf; cases hf
  | succ n ih =>
    intro x4 σ H locs ls hf hP hS hl
    exact w_X7_settle_18 C hr hlk hR (ag18 := l_X7_settle_18 x1 x2 n) ih hf hP hS hl
set_option maxRecDepth 100000 in
set_option maxHeartbeats 4000000 in
theorem w_X7_settle (C : CX p m c cX7_settle 10 s args RX7 D (TYX cs) (WX ad cs) (AX ad)) (hr : meth.sig.returnType = none) (hlk : meth.locks = false) (hR : 2 ≤ R.frames ∧ 45 ≤ R.locals) {σ : Sg} {x1 : Nat} {x2 : Int32} {x3 : Int32} {res : Sg} (hf : f_X7_settle σ x1 x2 x3 = some res) {H : Heap} {locs : List Loc} (hP : va_P D vwCl (WX ad cs σ) H) (hS : va_S (AX ad) s.heap H locs) {ls : Array Slot} (hl : lv_has ls 10 [(0, .ref (ad 2)), (1, .ref (ad (24 + x1))), (2, .int x2), (3, .int x3)]) : W p l e R s m args below meth c H locs 0 0 (MQ below (QV D (TYX cs) (WX ad cs) (AX ad) res) args s 0 0 (AX ad)) (F0 m 0 ls []) := by
  have hx := C.1.1
  have hb := C.1.2.1
  unfold f_X7_settle at hf
  refine lv_aload_n hx hb dX7_settle_0 rfl (lv_at hl 0 rfl) ?_
  refine lv_iload_n hx hb dX7_settle_1 rfl (lv_at hl 3 rfl) ?_
  refine lv_bipush (v := 8) hx hb dX7_settle_2 (by decide) ?_
  refine q_min C hl.1 k_336 k_337 k_55 k_338 (Nat.le_of_ble_eq_true rfl) ⟨Nat.le_trans (Nat.le_of_ble_eq_true rfl) hR.1, Nat.le_trans (Nat.le_of_ble_eq_true rfl) hR.2⟩ dX7_settle_4 ?_
  refine pX7_1 C hP hS k_116 dX7_settle_7 (fun H locs hP hS => ?_)
  refine lv_aload_n hx hb dX7_settle_10 rfl (lv_at hl 0 rfl) ?_
  refine lv_iconst (v := 0) hx hb dX7_settle_11 (by decide) ?_
  refine pX7_2 C hP hS k_120 dX7_settle_12 (fun H locs hP hS => ?_)
  refine lv_iconst (v := 0) hx hb dX7_settle_15 (by decide) ?_
  refine lv_istore (lv' := [(4, .int 0), (0, .ref (ad 2)), (1, .ref (ad (24 + x1))), (2, .int x2), (3, .int x3)]) hx hb dX7_settle_16 hl (by decide) rfl (fun ls hl => ?_)
  exact wl_X7_settle_18 C hr hlk hR fu _ _ _ _ _ hf hP hS (lv_sub hl [1, 2, 3, 0] rfl)
theorem kd_X7_settle : yX7_settle.cls = RX7 ∧ yX7_settle.cls ≠ "java/lang/invoke/MethodHandle" ∧ yX7_settle.cls ≠ "java/lang/invoke/VarHandle" ∧ (parseMethodDescriptor yX7_settle.desc).map (fun d => d.parameters.length) = some 3 := by decide +kernel
def r_X7_settle : Room := { frames := 2, cells := 0, slots := 0, locals := 45 }
set_option maxRecDepth 100000 in
set_option maxHeartbeats 4000000 in
theorem c_X7_settle {l : Launch} {D : va_G} {ad : Nat → Nat} {cs : Nat → ClassId} (hD : ∀ σ, va_D (AX ad) (WX ad cs σ)) {σ : Sg} {x1 : Nat} {x2 : Int32} {x3 : Int32} {res : Sg} (hf : f_X7_settle σ x1 x2 x3 = some res) : Met l yX7_settle (wm yX7_settle cX7_settle 10 none) r_X7_settle (va_Pc [.ref (ad 2), .ref (ad (24 + x1)), .int x2, .int x3] (BW D (TYX cs) (WX ad cs) σ)) (QV D (TYX cs) (WX ad cs) (AX ad) res) 0 0 (AX ad) := by
  refine q_enter (by decide) hD (Nat.le_of_ble_eq_true rfl) ?_
  intro p e s m below meth c C hr hlk hP hS ls hl
  exact w_X7_settle C hr hlk ⟨Nat.le_of_ble_eq_true rfl, Nat.le_of_ble_eq_true rfl⟩ hf hP hS hl

set_option maxRecDepth 100000 in
set_option maxHeartbeats 4000000 in
theorem w_X7_sets (C : CX p m c cX7_sets 1 s args RX7 D (TYX cs) (WX ad cs) (AX ad)) (hr : meth.sig.returnType = (some .int)) (hlk : meth.locks = false) (hR : 0 ≤ R.frames ∧ 0 ≤ R.locals) {σ : Sg}  {res : Int32} (hf : f_X7_sets σ = some res) {H : Heap} {locs : List Loc} (hP : va_P D vwCl (WX ad cs σ) H) (hS : va_S (AX ad) s.heap H locs) {ls : Array Slot} (hl : lv_has ls 1 [(0, .ref (ad 2))]) : W p l e R s m args below meth c H locs 0 0 (MQ below (QI D (TYX cs) (WX ad cs) (AX ad) res σ) args s 0 0 (AX ad)) (F0 m 0 ls []) := by
  have hx := C.1.1
  have hb := C.1.2.1
  unfold f_X7_sets at hf
  refine lv_iconst (v := 1) hx hb dX7_sets_0 (by decide) ?_
  refine lv_aload_n hx hb dX7_sets_1 rfl (lv_at hl 0 rfl) ?_
  refine gX7_1 C hP k_116 dX7_sets_2 ?_
  refine lv_ishl hx hb dX7_sets_5 ?_
  exact q_iret C hr hlk hP hS (congrArg (fun q => (q, σ)) (Option.some.inj hf)) dX7_sets_6
theorem kd_X7_sets : yX7_sets.cls = RX7 ∧ yX7_sets.cls ≠ "java/lang/invoke/MethodHandle" ∧ yX7_sets.cls ≠ "java/lang/invoke/VarHandle" ∧ (parseMethodDescriptor yX7_sets.desc).map (fun d => d.parameters.length) = some 0 := by decide +kernel
def r_X7_sets : Room := { frames := 0, cells := 0, slots := 0, locals := 0 }
set_option maxRecDepth 100000 in
set_option maxHeartbeats 4000000 in
theorem c_X7_sets {l : Launch} {D : va_G} {ad : Nat → Nat} {cs : Nat → ClassId} (hD : ∀ σ, va_D (AX ad) (WX ad cs σ)) {σ : Sg}  {res : Int32} (hf : f_X7_sets σ = some res) : Met l yX7_sets (wm yX7_sets cX7_sets 1 (some .int)) r_X7_sets (va_Pc [.ref (ad 2)] (BW D (TYX cs) (WX ad cs) σ)) (QI D (TYX cs) (WX ad cs) (AX ad) res σ) 0 0 (AX ad) := by
  refine q_enter (by decide) hD (Nat.le_of_ble_eq_true rfl) ?_
  intro p e s m below meth c C hr hlk hP hS ls hl
  exact w_X7_sets C hr hlk ⟨Nat.le_of_ble_eq_true rfl, Nat.le_of_ble_eq_true rfl⟩ hf hP hS hl

end

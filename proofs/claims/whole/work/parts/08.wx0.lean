section
variable {p : Program} {l : Launch} {e : Env} {R : Room} {s : State} {m : MethodId} {args : Array Value} {below : List Frame} {meth : Method} {c : Code} {D : va_G} {ad : Nat → Nat} {cs : Nat → ClassId}
set_option maxRecDepth 100000 in
set_option maxHeartbeats 4000000 in
theorem w_X0_leave (C : CX p m c cX0_leave 2 s args RX0 D (TYX cs) (WX ad cs) (AX ad)) (hr : meth.sig.returnType = none) (hlk : meth.locks = false) (hR : 0 ≤ R.frames ∧ 0 ≤ R.locals) {σ : Sg} {x1 : Int32} {res : Sg} (hf : f_X0_leave σ x1 = some res) {H : Heap} {locs : List Loc} (hP : va_P D vwCl (WX ad cs σ) H) (hS : va_S (AX ad) s.heap H locs) {ls : Array Slot} (hl : lv_has ls 2 [(0, .ref (ad 23)), (1, .int x1)]) : W p l e R s m args below meth c H locs 0 0 (MQ below (QV D (TYX cs) (WX ad cs) (AX ad) res) args s 0 0 (AX ad)) (F0 m 0 ls []) := by
  have hx := C.1.1
  have hb := C.1.2.1
  unfold f_X0_leave at hf
  refine lv_aload_n hx hb dX0_leave_0 rfl (lv_at hl 0 rfl) ?_
  refine lv_bipush (v := 31) hx hb dX0_leave_1 (by decide) ?_
  refine lv_aload_n hx hb dX0_leave_3 rfl (lv_at hl 0 rfl) ?_
  refine gX0_0 C hP k_235 dX0_leave_4 ?_
  refine lv_imul hx hb dX0_leave_7 ?_
  refine lv_iload_n hx hb dX0_leave_8 rfl (lv_at hl 1 rfl) ?_
  refine lv_iadd hx hb dX0_leave_9 ?_
  refine pX0_0 C hP hS k_235 dX0_leave_10 (fun H locs hP hS => ?_)
  exact q_vret C hr hlk hP hS (Option.some.inj hf) dX0_leave_13
theorem kd_X0_leave : yX0_leave.cls = RX0 ∧ yX0_leave.cls ≠ "java/lang/invoke/MethodHandle" ∧ yX0_leave.cls ≠ "java/lang/invoke/VarHandle" ∧ (parseMethodDescriptor yX0_leave.desc).map (fun d => d.parameters.length) = some 1 := by decide +kernel
def r_X0_leave : Room := { frames := 0, cells := 0, slots := 0, locals := 0 }
set_option maxRecDepth 100000 in
set_option maxHeartbeats 4000000 in
theorem c_X0_leave {l : Launch} {D : va_G} {ad : Nat → Nat} {cs : Nat → ClassId} (hD : ∀ σ, va_D (AX ad) (WX ad cs σ)) {σ : Sg} {x1 : Int32} {res : Sg} (hf : f_X0_leave σ x1 = some res) : Met l yX0_leave (wm yX0_leave cX0_leave 2 none) r_X0_leave (va_Pc [.ref (ad 23), .int x1] (BW D (TYX cs) (WX ad cs) σ)) (QV D (TYX cs) (WX ad cs) (AX ad) res) 0 0 (AX ad) := by
  refine q_enter (by decide) hD (Nat.le_of_ble_eq_true rfl) ?_
  intro p e s m below meth c C hr hlk hP hS ls hl
  exact w_X0_leave C hr hlk ⟨Nat.le_of_ble_eq_true rfl, Nat.le_of_ble_eq_true rfl⟩ hf hP hS hl

set_option maxRecDepth 100000 in
set_option maxHeartbeats 4000000 in
theorem w_X0_thingTells (C : CX p m c cX0_thingTells 2 s args RX0 D (TYX cs) (WX ad cs) (AX ad)) (hr : meth.sig.returnType = (some .int)) (hlk : meth.locks = false) (hR : 1 ≤ R.frames ∧ 21 ≤ R.locals) {σ : Sg} {x1 : Nat} {res : Int32 × Sg} (hf : f_X0_thingTells σ x1 = some res) {H : Heap} {locs : List Loc} (hP : va_P D vwCl (WX ad cs σ) H) (hS : va_S (AX ad) s.heap H locs) {ls : Array Slot} (hl : lv_has ls 2 [(0, .ref (ad 23)), (1, .ref (ad (4 + x1)))]) : W p l e R s m args below meth c H locs 0 0 (MQ below (QI D (TYX cs) (WX ad cs) (AX ad) res.1 res.2) args s 0 0 (AX ad)) (F0 m 0 ls []) := by
  have hx := C.1.1
  have hb := C.1.2.1
  unfold f_X0_thingTells at hf
  refine lv_aload_n hx hb dX0_thingTells_0 rfl (lv_at hl 0 rfl) ?_
  refine lv_iconst (v := 1) hx hb dX0_thingTells_1 (by decide) ?_
  obtain ⟨σ2, hg1, hf⟩ := zb hf
  try dsimp only at hf
  refine q_callv C hS (q_runV C hP (c_X0_leave (l := l) C.2.2.1 hg1) (ci := 0) (As := [.int 1]) (rest := []) ⟨gd_V k_614 k_616 k_11 k_51 k_617, ⟨rfl, rfl⟩, kd_X0_leave, ⟨Nat.le_trans (Nat.le_of_ble_eq_true rfl) hR.1, Nat.le_trans (Nat.le_of_ble_eq_true rfl) hR.2⟩⟩ (o := 23) rfl rfl rfl rfl rfl (Nat.le_of_ble_eq_true rfl) hl.1 dX0_thingTells_2) (fun H locs hP hS => ?_)
  refine lv_aload_n hx hb dX0_thingTells_5 rfl (lv_at hl 1 rfl) ?_
  obtain ⟨h3, hf⟩ := zc hf
  refine gX6_3N C hP h3 k_95 dX0_thingTells_6 ?_
  exact q_iret C hr hlk hP hS (Option.some.inj hf) dX0_thingTells_9
theorem kd_X0_thingTells : yX0_thingTells.cls = RX0 ∧ yX0_thingTells.cls ≠ "java/lang/invoke/MethodHandle" ∧ yX0_thingTells.cls ≠ "java/lang/invoke/VarHandle" ∧ (parseMethodDescriptor yX0_thingTells.desc).map (fun d => d.parameters.length) = some 1 := by decide +kernel
def r_X0_thingTells : Room := { frames := 1, cells := 0, slots := 0, locals := 21 }
set_option maxRecDepth 100000 in
set_option maxHeartbeats 4000000 in
theorem c_X0_thingTells {l : Launch} {D : va_G} {ad : Nat → Nat} {cs : Nat → ClassId} (hD : ∀ σ, va_D (AX ad) (WX ad cs σ)) {σ : Sg} {x1 : Nat} {res : Int32 × Sg} (hf : f_X0_thingTells σ x1 = some res) : Met l yX0_thingTells (wm yX0_thingTells cX0_thingTells 2 (some .int)) r_X0_thingTells (va_Pc [.ref (ad 23), .ref (ad (4 + x1))] (BW D (TYX cs) (WX ad cs) σ)) (QI D (TYX cs) (WX ad cs) (AX ad) res.1 res.2) 0 0 (AX ad) := by
  refine q_enter (by decide) hD (Nat.le_of_ble_eq_true rfl) ?_
  intro p e s m below meth c C hr hlk hP hS ls hl
  exact w_X0_thingTells C hr hlk ⟨Nat.le_of_ble_eq_true rfl, Nat.le_of_ble_eq_true rfl⟩ hf hP hS hl

set_option maxRecDepth 100000 in
set_option maxHeartbeats 4000000 in
theorem w_X0_swornTells (C : CX p m c cX0_swornTells 2 s args RX0 D (TYX cs) (WX ad cs) (AX ad)) (hr : meth.sig.returnType = (some .int)) (hlk : meth.locks = false) (hR : 2 ≤ R.frames ∧ 42 ≤ R.locals) {σ : Sg} {x1 : Nat} {res : Int32 × Sg} (hf : f_X0_swornTells σ x1 = some res) {H : Heap} {locs : List Loc} (hP : va_P D vwCl (WX ad cs σ) H) (hS : va_S (AX ad) s.heap H locs) {ls : Array Slot} (hl : lv_has ls 2 [(0, .ref (ad 23)), (1, .ref (ad (4 + x1)))]) : W p l e R s m args below meth c H locs 0 0 (MQ below (QI D (TYX cs) (WX ad cs) (AX ad) res.1 res.2) args s 0 0 (AX ad)) (F0 m 0 ls []) := by
  have hx := C.1.1
  have hb := C.1.2.1
  unfold f_X0_swornTells at hf
  refine lv_aload_n hx hb dX0_swornTells_0 rfl (lv_at hl 0 rfl) ?_
  refine lv_iconst (v := 2) hx hb dX0_swornTells_1 (by decide) ?_
  obtain ⟨σ2, hg1, hf⟩ := zb hf
  try dsimp only at hf
  refine q_callv C hS (q_runV C hP (c_X0_leave (l := l) C.2.2.1 hg1) (ci := 0) (As := [.int 2]) (rest := []) ⟨gd_V k_614 k_616 k_11 k_51 k_617, ⟨rfl, rfl⟩, kd_X0_leave, ⟨Nat.le_trans (Nat.le_of_ble_eq_true rfl) hR.1, Nat.le_trans (Nat.le_of_ble_eq_true rfl) hR.2⟩⟩ (o := 23) rfl rfl rfl rfl rfl (Nat.le_of_ble_eq_true rfl) hl.1 dX0_swornTells_2) (fun H locs hP hS => ?_)
  refine lv_aload_n hx hb dX0_swornTells_5 rfl (lv_at hl 0 rfl) ?_
  refine lv_aload_n hx hb dX0_swornTells_6 rfl (lv_at hl 1 rfl) ?_
  obtain ⟨⟨r4, σ5⟩, hg3, hf⟩ := zb hf
  try dsimp only at hf
  refine q_calli C hS (q_runV C hP (c_X0_thingTells (l := l) C.2.2.1 hg3) (ci := 0) (As := [.ref (ad (4 + x1))]) (rest := []) ⟨gd_V k_622 k_624 k_13 k_51 k_625, ⟨rfl, rfl⟩, kd_X0_thingTells, ⟨Nat.le_trans (Nat.le_of_ble_eq_true rfl) hR.1, Nat.le_trans (Nat.le_of_ble_eq_true rfl) hR.2⟩⟩ (o := 23) rfl rfl rfl rfl rfl (Nat.le_of_ble_eq_true rfl) hl.1 dX0_swornTells_7) (fun H locs hP hS => ?_)
  refine lv_bipush (v := 100) hx hb dX0_swornTells_10 (by decide) ?_
  refine lv_iadd hx hb dX0_swornTells_12 ?_
  exact q_iret C hr hlk hP hS (Option.some.inj hf) dX0_swornTells_13
theorem kd_X0_swornTells : yX0_swornTells.cls = RX0 ∧ yX0_swornTells.cls ≠ "java/lang/invoke/MethodHandle" ∧ yX0_swornTells.cls ≠ "java/lang/invoke/VarHandle" ∧ (parseMethodDescriptor yX0_swornTells.desc).map (fun d => d.parameters.length) = some 1 := by decide +kernel
def r_X0_swornTells : Room := { frames := 2, cells := 0, slots := 0, locals := 42 }
set_option maxRecDepth 100000 in
set_option maxHeartbeats 4000000 in
theorem c_X0_swornTells {l : Launch} {D : va_G} {ad : Nat → Nat} {cs : Nat → ClassId} (hD : ∀ σ, va_D (AX ad) (WX ad cs σ)) {σ : Sg} {x1 : Nat} {res : Int32 × Sg} (hf : f_X0_swornTells σ x1 = some res) : Met l yX0_swornTells (wm yX0_swornTells cX0_swornTells 2 (some .int)) r_X0_swornTells (va_Pc [.ref (ad 23), .ref (ad (4 + x1))] (BW D (TYX cs) (WX ad cs) σ)) (QI D (TYX cs) (WX ad cs) (AX ad) res.1 res.2) 0 0 (AX ad) := by
  refine q_enter (by decide) hD (Nat.le_of_ble_eq_true rfl) ?_
  intro p e s m below meth c C hr hlk hP hS ls hl
  exact w_X0_swornTells C hr hlk ⟨Nat.le_of_ble_eq_true rfl, Nat.le_of_ble_eq_true rfl⟩ hf hP hS hl

set_option maxRecDepth 100000 in
set_option maxHeartbeats 4000000 in
theorem w_X0_mayorTells (C : CX p m c cX0_mayorTells 3 s args RX0 D (TYX cs) (WX ad cs) (AX ad)) (hr : meth.sig.returnType = (some .int)) (hlk : meth.locks = false) (hR : 3 ≤ R.frames ∧ 63 ≤ R.locals) {σ : Sg} {x1 : Nat} {res : Int32 × Sg} (hf : f_X0_mayorTells σ x1 = some res) {H : Heap} {locs : List Loc} (hP : va_P D vwCl (WX ad cs σ) H) (hS : va_S (AX ad) s.heap H locs) {ls : Array Slot} (hl : lv_has ls 3 [(0, .ref (ad 23)), (1, .ref (ad (4 + x1)))]) : W p l e R s m args below meth c H locs 0 0 (MQ below (QI D (TYX cs) (WX ad cs) (AX ad) res.1 res.2) args s 0 0 (AX ad)) (F0 m 0 ls []) := by
  have hx := C.1.1
  have hb := C.1.2.1
  unfold f_X0_mayorTells at hf
  refine lv_aload_n hx hb dX0_mayorTells_0 rfl (lv_at hl 0 rfl) ?_
  refine lv_iconst (v := 3) hx hb dX0_mayorTells_1 (by decide) ?_
  obtain ⟨σ2, hg1, hf⟩ := zb hf
  try dsimp only at hf
  refine q_callv C hS (q_runV C hP (c_X0_leave (l := l) C.2.2.1 hg1) (ci := 0) (As := [.int 3]) (rest := []) ⟨gd_V k_614 k_616 k_11 k_51 k_617, ⟨rfl, rfl⟩, kd_X0_leave, ⟨Nat.le_trans (Nat.le_of_ble_eq_true rfl) hR.1, Nat.le_trans (Nat.le_of_ble_eq_true rfl) hR.2⟩⟩ (o := 23) rfl rfl rfl rfl rfl (Nat.le_of_ble_eq_true rfl) hl.1 dX0_mayorTells_2) (fun H locs hP hS => ?_)
  refine lv_aload_n hx hb dX0_mayorTells_5 rfl (lv_at hl 0 rfl) ?_
  refine lv_aload_n hx hb dX0_mayorTells_6 rfl (lv_at hl 1 rfl) ?_
  obtain ⟨⟨r4, σ5⟩, hg3, hf⟩ := zb hf
  try dsimp only at hf
  refine q_calli C hS (q_runV C hP (c_X0_swornTells (l := l) C.2.2.1 hg3) (ci := 0) (As := [.ref (ad (4 + x1))]) (rest := []) ⟨gd_V k_618 k_620 k_12 k_51 k_621, ⟨rfl, rfl⟩, kd_X0_swornTells, ⟨Nat.le_trans (Nat.le_of_ble_eq_true rfl) hR.1, Nat.le_trans (Nat.le_of_ble_eq_true rfl) hR.2⟩⟩ (o := 23) rfl rfl rfl rfl rfl (Nat.le_of_ble_eq_true rfl) hl.1 dX0_mayorTells_7) (fun H locs hP hS => ?_)
  refine lv_istore_n (lv' := [(2, .int r4), (0, .ref (ad 23)), (1, .ref (ad (4 + x1)))]) hx hb dX0_mayorTells_10 rfl hl (by decide) rfl (fun ls hl => ?_)
  refine lv_iload_n hx hb dX0_mayorTells_11 rfl (lv_at hl 0 rfl) ?_
  refine lv_aload_n hx hb dX0_mayorTells_12 rfl (lv_at hl 1 rfl) ?_
  refine lv_aload_n hx hb dX0_mayorTells_13 rfl (lv_at hl 2 rfl) ?_
  obtain ⟨⟨r7, σ8⟩, hg6, hf⟩ := zb hf
  try dsimp only at hf
  refine q_calli C hS (q_runV C hP (c_X0_thingTells (l := l) C.2.2.1 hg6) (ci := 0) (As := [.ref (ad (4 + x1))]) (rest := [.int r4]) ⟨gd_V k_622 k_624 k_13 k_51 k_625, ⟨rfl, rfl⟩, kd_X0_thingTells, ⟨Nat.le_trans (Nat.le_of_ble_eq_true rfl) hR.1, Nat.le_trans (Nat.le_of_ble_eq_true rfl) hR.2⟩⟩ (o := 23) rfl rfl rfl rfl rfl (Nat.le_of_ble_eq_true rfl) hl.1 dX0_mayorTells_14) (fun H locs hP hS => ?_)
  refine lv_iadd hx hb dX0_mayorTells_17 ?_
  exact q_iret C hr hlk hP hS (Option.some.inj hf) dX0_mayorTells_18
theorem kd_X0_mayorTells : yX0_mayorTells.cls = RX0 ∧ yX0_mayorTells.cls ≠ "java/lang/invoke/MethodHandle" ∧ yX0_mayorTells.cls ≠ "java/lang/invoke/VarHandle" ∧ (parseMethodDescriptor yX0_mayorTells.desc).map (fun d => d.parameters.length) = some 1 := by decide +kernel
def r_X0_mayorTells : Room := { frames := 3, cells := 0, slots := 0, locals := 63 }
set_option maxRecDepth 100000 in
set_option maxHeartbeats 4000000 in
theorem c_X0_mayorTells {l : Launch} {D : va_G} {ad : Nat → Nat} {cs : Nat → ClassId} (hD : ∀ σ, va_D (AX ad) (WX ad cs σ)) {σ : Sg} {x1 : Nat} {res : Int32 × Sg} (hf : f_X0_mayorTells σ x1 = some res) : Met l yX0_mayorTells (wm yX0_mayorTells cX0_mayorTells 3 (some .int)) r_X0_mayorTells (va_Pc [.ref (ad 23), .ref (ad (4 + x1))] (BW D (TYX cs) (WX ad cs) σ)) (QI D (TYX cs) (WX ad cs) (AX ad) res.1 res.2) 0 0 (AX ad) := by
  refine q_enter (by decide) hD (Nat.le_of_ble_eq_true rfl) ?_
  intro p e s m below meth c C hr hlk hP hS ls hl
  exact w_X0_mayorTells C hr hlk ⟨Nat.le_of_ble_eq_true rfl, Nat.le_of_ble_eq_true rfl⟩ hf hP hS hl

set_option maxRecDepth 100000 in
set_option maxHeartbeats 4000000 in
theorem w_X0_telling (C : CX p m c cX0_telling 2 s args RX0 D (TYX cs) (WX ad cs) (AX ad)) (hr : meth.sig.returnType = (some .int)) (hlk : meth.locks = false) (hR : 4 ≤ R.frames ∧ 85 ≤ R.locals) {σ : Sg} {x1 : Nat} {res : Int32 × Sg} (hf : f_X0_telling σ x1 = some res) {H : Heap} {locs : List Loc} (hP : va_P D vwCl (WX ad cs σ) H) (hS : va_S (AX ad) s.heap H locs) {ls : Array Slot} (hl : lv_has ls 2 [(0, .ref (ad 23)), (1, .ref (ad (4 + x1)))]) : W p l e R s m args below meth c H locs 0 0 (MQ below (QI D (TYX cs) (WX ad cs) (AX ad) res.1 res.2) args s 0 0 (AX ad)) (F0 m 0 ls []) := by
  have hx := C.1.1
  have hb := C.1.2.1
  unfold f_X0_telling at hf
  refine lv_aload_n hx hb dX0_telling_0 rfl (lv_at hl 1 rfl) ?_
  obtain ⟨h1, hf⟩ := zc hf
  refine gX6_1N C hP h1 k_86 dX0_telling_1 ?_
  by_cases c2 : (σ (4 + x1) 1) = 1
  · replace hf := zt c2 hf
    refine lv_lookup (off := 34) (tgt := 38) hx hb dX0_telling_4 (by decide) (by rw [c2]; rfl) (by decide) ?_
    refine lv_aload_n hx hb dX0_telling_38 rfl (lv_at hl 0 rfl) ?_
    refine lv_aload_n hx hb dX0_telling_39 rfl (lv_at hl 1 rfl) ?_
    obtain ⟨⟨r4, σ5⟩, hg3, hf⟩ := zb hf
    try dsimp only at hf
    refine q_calli C hS (q_runV C hP (c_X0_swornTells (l := l) C.2.2.1 hg3) (ci := 0) (As := [.ref (ad (4 + x1))]) (rest := []) ⟨gd_V k_618 k_620 k_12 k_51 k_621, ⟨rfl, rfl⟩, kd_X0_swornTells, ⟨Nat.le_trans (Nat.le_of_ble_eq_true rfl) hR.1, Nat.le_trans (Nat.le_of_ble_eq_true rfl) hR.2⟩⟩ (o := 23) rfl rfl rfl rfl rfl (Nat.le_of_ble_eq_true rfl) hl.1 dX0_telling_40) (fun H locs hP hS => ?_)
    exact q_iret C hr hlk hP hS (Option.some.inj hf) dX0_telling_43
  · replace hf := zf c2 hf
    by_cases c6 : (σ (4 + x1) 1) = 2
    · replace hf := zt c6 hf
      refine lv_lookup (off := 28) (tgt := 32) hx hb dX0_telling_4 (by decide) (by rw [c6]; rfl) (by decide) ?_
      refine lv_aload_n hx hb dX0_telling_32 rfl (lv_at hl 0 rfl) ?_
      refine lv_aload_n hx hb dX0_telling_33 rfl (lv_at hl 1 rfl) ?_
      obtain ⟨⟨r8, σ9⟩, hg7, hf⟩ := zb hf
      try dsimp only at hf
      refine q_calli C hS (q_runV C hP (c_X0_mayorTells (l := l) C.2.2.1 hg7) (ci := 0) (As := [.ref (ad (4 + x1))]) (rest := []) ⟨gd_V k_610 k_612 k_10 k_51 k_613, ⟨rfl, rfl⟩, kd_X0_mayorTells, ⟨Nat.le_trans (Nat.le_of_ble_eq_true rfl) hR.1, Nat.le_trans (Nat.le_of_ble_eq_true rfl) hR.2⟩⟩ (o := 23) rfl rfl rfl rfl rfl (Nat.le_of_ble_eq_true rfl) hl.1 dX0_telling_34) (fun H locs hP hS => ?_)
      exact q_iret C hr hlk hP hS (Option.some.inj hf) dX0_telling_37
    · replace hf := zf c6 hf
      refine lv_lookup (off := 40) (tgt := 44) hx hb dX0_telling_4 (by decide) ((lv_osw c2 rfl).trans ((lv_osw c6 rfl).trans rfl)) (by decide) ?_
      refine lv_aload_n hx hb dX0_telling_44 rfl (lv_at hl 0 rfl) ?_
      refine lv_aload_n hx hb dX0_telling_45 rfl (lv_at hl 1 rfl) ?_
      obtain ⟨⟨r11, σ12⟩, hg10, hf⟩ := zb hf
      try dsimp only at hf
      refine q_calli C hS (q_runV C hP (c_X0_thingTells (l := l) C.2.2.1 hg10) (ci := 0) (As := [.ref (ad (4 + x1))]) (rest := []) ⟨gd_V k_622 k_624 k_13 k_51 k_625, ⟨rfl, rfl⟩, kd_X0_thingTells, ⟨Nat.le_trans (Nat.le_of_ble_eq_true rfl) hR.1, Nat.le_trans (Nat.le_of_ble_eq_true rfl) hR.2⟩⟩ (o := 23) rfl rfl rfl rfl rfl (Nat.le_of_ble_eq_true rfl) hl.1 dX0_telling_46) (fun H locs hP hS => ?_)
      exact q_iret C hr hlk hP hS (Option.some.inj hf) dX0_telling_49
theorem kd_X0_telling : yX0_telling.cls = RX0 ∧ yX0_telling.cls ≠ "java/lang/invoke/MethodHandle" ∧ yX0_telling.cls ≠ "java/lang/invoke/VarHandle" ∧ (parseMethodDescriptor yX0_telling.desc).map (fun d => d.parameters.length) = some 1 := by decide +kernel
def r_X0_telling : Room := { frames := 4, cells := 0, slots := 0, locals := 85 }
set_option maxRecDepth 100000 in
set_option maxHeartbeats 4000000 in
theorem c_X0_telling {l : Launch} {D : va_G} {ad : Nat → Nat} {cs : Nat → ClassId} (hD : ∀ σ, va_D (AX ad) (WX ad cs σ)) {σ : Sg} {x1 : Nat} {res : Int32 × Sg} (hf : f_X0_telling σ x1 = some res) : Met l yX0_telling (wm yX0_telling cX0_telling 2 (some .int)) r_X0_telling (va_Pc [.ref (ad 23), .ref (ad (4 + x1))] (BW D (TYX cs) (WX ad cs) σ)) (QI D (TYX cs) (WX ad cs) (AX ad) res.1 res.2) 0 0 (AX ad) := by
  refine q_enter (by decide) hD (Nat.le_of_ble_eq_true rfl) ?_
  intro p e s m below meth c C hr hlk hP hS ls hl
  exact w_X0_telling C hr hlk ⟨Nat.le_of_ble_eq_true rfl, Nat.le_of_ble_eq_true rfl⟩ hf hP hS hl

set_option maxRecDepth 100000 in
set_option maxHeartbeats 4000000 in
theorem w_X0_mayorRings (C : CX p m c cX0_mayorRings 1 s args RX0 D (TYX cs) (WX ad cs) (AX ad)) (hr : meth.sig.returnType = (some .int)) (hlk : meth.locks = false) (hR : 1 ≤ R.frames ∧ 21 ≤ R.locals) {σ : Sg}  {res : Int32 × Sg} (hf : f_X0_mayorRings σ = some res) {H : Heap} {locs : List Loc} (hP : va_P D vwCl (WX ad cs σ) H) (hS : va_S (AX ad) s.heap H locs) {ls : Array Slot} (hl : lv_has ls 1 [(0, .ref (ad 23))]) : W p l e R s m args below meth c H locs 0 0 (MQ below (QI D (TYX cs) (WX ad cs) (AX ad) res.1 res.2) args s 0 0 (AX ad)) (F0 m 0 ls []) := by
  have hx := C.1.1
  have hb := C.1.2.1
  unfold f_X0_mayorRings at hf
  refine lv_aload_n hx hb dX0_mayorRings_0 rfl (lv_at hl 0 rfl) ?_
  refine lv_iconst (v := 5) hx hb dX0_mayorRings_1 (by decide) ?_
  obtain ⟨σ2, hg1, hf⟩ := zb hf
  try dsimp only at hf
  refine q_callv C hS (q_runV C hP (c_X0_leave (l := l) C.2.2.1 hg1) (ci := 0) (As := [.int 5]) (rest := []) ⟨gd_V k_614 k_616 k_11 k_51 k_617, ⟨rfl, rfl⟩, kd_X0_leave, ⟨Nat.le_trans (Nat.le_of_ble_eq_true rfl) hR.1, Nat.le_trans (Nat.le_of_ble_eq_true rfl) hR.2⟩⟩ (o := 23) rfl rfl rfl rfl rfl (Nat.le_of_ble_eq_true rfl) hl.1 dX0_mayorRings_2) (fun H locs hP hS => ?_)
  refine lv_bipush (v := 20) hx hb dX0_mayorRings_5 (by decide) ?_
  exact q_iret C hr hlk hP hS (Option.some.inj hf) dX0_mayorRings_7
theorem kd_X0_mayorRings : yX0_mayorRings.cls = RX0 ∧ yX0_mayorRings.cls ≠ "java/lang/invoke/MethodHandle" ∧ yX0_mayorRings.cls ≠ "java/lang/invoke/VarHandle" ∧ (parseMethodDescriptor yX0_mayorRings.desc).map (fun d => d.parameters.length) = some 0 := by decide +kernel
def r_X0_mayorRings : Room := { frames := 1, cells := 0, slots := 0, locals := 21 }
set_option maxRecDepth 100000 in
set_option maxHeartbeats 4000000 in
theorem c_X0_mayorRings {l : Launch} {D : va_G} {ad : Nat → Nat} {cs : Nat → ClassId} (hD : ∀ σ, va_D (AX ad) (WX ad cs σ)) {σ : Sg}  {res : Int32 × Sg} (hf : f_X0_mayorRings σ = some res) : Met l yX0_mayorRings (wm yX0_mayorRings cX0_mayorRings 1 (some .int)) r_X0_mayorRings (va_Pc [.ref (ad 23)] (BW D (TYX cs) (WX ad cs) σ)) (QI D (TYX cs) (WX ad cs) (AX ad) res.1 res.2) 0 0 (AX ad) := by
  refine q_enter (by decide) hD (Nat.le_of_ble_eq_true rfl) ?_
  intro p e s m below meth c C hr hlk hP hS ls hl
  exact w_X0_mayorRings C hr hlk ⟨Nat.le_of_ble_eq_true rfl, Nat.le_of_ble_eq_true rfl⟩ hf hP hS hl

set_option maxRecDepth 100000 in
set_option maxHeartbeats 4000000 in
theorem w_X0_lentRings (C : CX p m c cX0_lentRings 2 s args RX0 D (TYX cs) (WX ad cs) (AX ad)) (hr : meth.sig.returnType = (some .int)) (hlk : meth.locks = false) (hR : 1 ≤ R.frames ∧ 21 ≤ R.locals) {σ : Sg} {x1 : Nat} {res : Int32 × Sg} (hf : f_X0_lentRings σ x1 = some res) {H : Heap} {locs : List Loc} (hP : va_P D vwCl (WX ad cs σ) H) (hS : va_S (AX ad) s.heap H locs) {ls : Array Slot} (hl : lv_has ls 2 [(0, .ref (ad 23)), (1, .ref (ad (4 + x1)))]) : W p l e R s m args below meth c H locs 0 0 (MQ below (QI D (TYX cs) (WX ad cs) (AX ad) res.1 res.2) args s 0 0 (AX ad)) (F0 m 0 ls []) := by
  have hx := C.1.1
  have hb := C.1.2.1
  unfold f_X0_lentRings at hf
  refine lv_aload_n hx hb dX0_lentRings_0 rfl (lv_at hl 0 rfl) ?_
  refine lv_iconst (v := 4) hx hb dX0_lentRings_1 (by decide) ?_
  obtain ⟨σ2, hg1, hf⟩ := zb hf
  try dsimp only at hf
  refine q_callv C hS (q_runV C hP (c_X0_leave (l := l) C.2.2.1 hg1) (ci := 0) (As := [.int 4]) (rest := []) ⟨gd_V k_614 k_616 k_11 k_51 k_617, ⟨rfl, rfl⟩, kd_X0_leave, ⟨Nat.le_trans (Nat.le_of_ble_eq_true rfl) hR.1, Nat.le_trans (Nat.le_of_ble_eq_true rfl) hR.2⟩⟩ (o := 23) rfl rfl rfl rfl rfl (Nat.le_of_ble_eq_true rfl) hl.1 dX0_lentRings_2) (fun H locs hP hS => ?_)
  refine lv_aload_n hx hb dX0_lentRings_5 rfl (lv_at hl 1 rfl) ?_
  obtain ⟨h3, hf⟩ := zc hf
  refine gX6_0N C hP h3 k_84 dX0_lentRings_6 ?_
  exact q_iret C hr hlk hP hS (Option.some.inj hf) dX0_lentRings_9
theorem kd_X0_lentRings : yX0_lentRings.cls = RX0 ∧ yX0_lentRings.cls ≠ "java/lang/invoke/MethodHandle" ∧ yX0_lentRings.cls ≠ "java/lang/invoke/VarHandle" ∧ (parseMethodDescriptor yX0_lentRings.desc).map (fun d => d.parameters.length) = some 1 := by decide +kernel
def r_X0_lentRings : Room := { frames := 1, cells := 0, slots := 0, locals := 21 }
set_option maxRecDepth 100000 in
set_option maxHeartbeats 4000000 in
theorem c_X0_lentRings {l : Launch} {D : va_G} {ad : Nat → Nat} {cs : Nat → ClassId} (hD : ∀ σ, va_D (AX ad) (WX ad cs σ)) {σ : Sg} {x1 : Nat} {res : Int32 × Sg} (hf : f_X0_lentRings σ x1 = some res) : Met l yX0_lentRings (wm yX0_lentRings cX0_lentRings 2 (some .int)) r_X0_lentRings (va_Pc [.ref (ad 23), .ref (ad (4 + x1))] (BW D (TYX cs) (WX ad cs) σ)) (QI D (TYX cs) (WX ad cs) (AX ad) res.1 res.2) 0 0 (AX ad) := by
  refine q_enter (by decide) hD (Nat.le_of_ble_eq_true rfl) ?_
  intro p e s m below meth c C hr hlk hP hS ls hl
  exact w_X0_lentRings C hr hlk ⟨Nat.le_of_ble_eq_true rfl, Nat.le_of_ble_eq_true rfl⟩ hf hP hS hl

set_option maxRecDepth 100000 in
set_option maxHeartbeats 4000000 in
theorem w_X0_ringing (C : CX p m c cX0_ringing 2 s args RX0 D (TYX cs) (WX ad cs) (AX ad)) (hr : meth.sig.returnType = (some .int)) (hlk : meth.locks = false) (hR : 2 ≤ R.frames ∧ 42 ≤ R.locals) {σ : Sg} {x1 : Nat} {res : Int32 × Sg} (hf : f_X0_ringing σ x1 = some res) {H : Heap} {locs : List Loc} (hP : va_P D vwCl (WX ad cs σ) H) (hS : va_S (AX ad) s.heap H locs) {ls : Array Slot} (hl : lv_has ls 2 [(0, .ref (ad 23)), (1, .ref (ad (4 + x1)))]) : W p l e R s m args below meth c H locs 0 0 (MQ below (QI D (TYX cs) (WX ad cs) (AX ad) res.1 res.2) args s 0 0 (AX ad)) (F0 m 0 ls []) := by
  have hx := C.1.1
  have hb := C.1.2.1
  unfold f_X0_ringing at hf
  refine lv_aload_n hx hb dX0_ringing_0 rfl (lv_at hl 1 rfl) ?_
  obtain ⟨h1, hf⟩ := zc hf
  refine gX6_1N C hP h1 k_86 dX0_ringing_1 ?_
  refine lv_iconst (v := 2) hx hb dX0_ringing_4 (by decide) ?_
  refine lv_icmp_ne (tgt := 15) hx hb dX0_ringing_5 (by decide) (fun c2 => ?_) (fun c2 => ?_)
  · replace hf := zf c2 hf
    refine lv_aload_n hx hb dX0_ringing_15 rfl (lv_at hl 0 rfl) ?_
    refine lv_aload_n hx hb dX0_ringing_16 rfl (lv_at hl 1 rfl) ?_
    obtain ⟨⟨r4, σ5⟩, hg3, hf⟩ := zb hf
    try dsimp only at hf
    refine q_calli C hS (q_runV C hP (c_X0_lentRings (l := l) C.2.2.1 hg3) (ci := 0) (As := [.ref (ad (4 + x1))]) (rest := []) ⟨gd_V k_638 k_640 k_15 k_51 k_641, ⟨rfl, rfl⟩, kd_X0_lentRings, ⟨Nat.le_trans (Nat.le_of_ble_eq_true rfl) hR.1, Nat.le_trans (Nat.le_of_ble_eq_true rfl) hR.2⟩⟩ (o := 23) rfl rfl rfl rfl rfl (Nat.le_of_ble_eq_true rfl) hl.1 dX0_ringing_17) (fun H locs hP hS => ?_)
    exact q_iret C hr hlk hP hS (Option.some.inj hf) dX0_ringing_20
  · replace hf := zt c2 hf
    refine lv_aload_n hx hb dX0_ringing_8 rfl (lv_at hl 0 rfl) ?_
    obtain ⟨⟨r7, σ8⟩, hg6, hf⟩ := zb hf
    try dsimp only at hf
    refine q_calli C hS (q_runV C hP (c_X0_mayorRings (l := l) C.2.2.1 hg6) (ci := 0) (As := []) (rest := []) ⟨gd_V k_634 k_636 k_14 k_51 k_637, ⟨rfl, rfl⟩, kd_X0_mayorRings, ⟨Nat.le_trans (Nat.le_of_ble_eq_true rfl) hR.1, Nat.le_trans (Nat.le_of_ble_eq_true rfl) hR.2⟩⟩ (o := 23) rfl rfl rfl rfl rfl (Nat.le_of_ble_eq_true rfl) hl.1 dX0_ringing_9) (fun H locs hP hS => ?_)
    refine lv_goto (tgt := 20) hx hb dX0_ringing_12 (by decide) ?_
    exact q_iret C hr hlk hP hS (Option.some.inj hf) dX0_ringing_20
theorem kd_X0_ringing : yX0_ringing.cls = RX0 ∧ yX0_ringing.cls ≠ "java/lang/invoke/MethodHandle" ∧ yX0_ringing.cls ≠ "java/lang/invoke/VarHandle" ∧ (parseMethodDescriptor yX0_ringing.desc).map (fun d => d.parameters.length) = some 1 := by decide +kernel
def r_X0_ringing : Room := { frames := 2, cells := 0, slots := 0, locals := 42 }
set_option maxRecDepth 100000 in
set_option maxHeartbeats 4000000 in
theorem c_X0_ringing {l : Launch} {D : va_G} {ad : Nat → Nat} {cs : Nat → ClassId} (hD : ∀ σ, va_D (AX ad) (WX ad cs σ)) {σ : Sg} {x1 : Nat} {res : Int32 × Sg} (hf : f_X0_ringing σ x1 = some res) : Met l yX0_ringing (wm yX0_ringing cX0_ringing 2 (some .int)) r_X0_ringing (va_Pc [.ref (ad 23), .ref (ad (4 + x1))] (BW D (TYX cs) (WX ad cs) σ)) (QI D (TYX cs) (WX ad cs) (AX ad) res.1 res.2) 0 0 (AX ad) := by
  refine q_enter (by decide) hD (Nat.le_of_ble_eq_true rfl) ?_
  intro p e s m below meth c C hr hlk hP hS ls hl
  exact w_X0_ringing C hr hlk ⟨Nat.le_of_ble_eq_true rfl, Nat.le_of_ble_eq_true rfl⟩ hf hP hS hl

set_option maxRecDepth 100000 in
set_option maxHeartbeats 4000000 in
theorem w_X1_add (C : CX p m c cX1_add 4 s args RX1 D (TYX cs) (WX ad cs) (AX ad)) (hr : meth.sig.returnType = (some .int)) (hlk : meth.locks = false) (hR : 0 ≤ R.frames ∧ 0 ≤ R.locals) {σ : Sg} {x1 : Int32} {x2 : Int32} {x3 : Int32} {res : Int32 × Sg} (hf : f_X1_add σ x1 x2 x3 = some res) {H : Heap} {locs : List Loc} (hP : va_P D vwCl (WX ad cs σ) H) (hS : va_S (AX ad) s.heap H locs) {ls : Array Slot} (hl : lv_has ls 4 [(0, .ref (ad 12)), (1, .int x1), (2, .int x2), (3, .int x3)]) : W p l e R s m args below meth c H locs 0 0 (MQ below (QI D (TYX cs) (WX ad cs) (AX ad) res.1 res.2) args s 0 0 (AX ad)) (F0 m 0 ls []) := by
  have hx := C.1.1
  have hb := C.1.2.1
  unfold f_X1_add at hf
  refine lv_aload_n hx hb dX1_add_0 rfl (lv_at hl 0 rfl) ?_
  refine gX1_3 C hP k_140 dX1_add_1 ?_
  refine lv_if_lt (tgt := 16) hx hb dX1_add_4 (by decide) (fun c1 => ?_) (fun c1 => ?_)
  · replace hf := zt c1 hf
    refine lv_bipush (v := (-4)) hx hb dX1_add_16 (by decide) ?_
    exact q_iret C hr hlk hP hS (Option.some.inj hf) dX1_add_18
  · replace hf := zf c1 hf
    refine lv_aload_n hx hb dX1_add_7 rfl (lv_at hl 0 rfl) ?_
    refine gX1_3 C hP k_140 dX1_add_8 ?_
    refine lv_bipush (v := 8) hx hb dX1_add_11 (by decide) ?_
    refine lv_icmp_lt (tgt := 19) hx hb dX1_add_13 (by decide) (fun c2 => ?_) (fun c2 => ?_)
    · replace hf := zt c2 hf
      refine lv_aload_n hx hb dX1_add_19 rfl (lv_at hl 0 rfl) ?_
      refine gX1_0 C hP k_137 dX1_add_20 ?_
      refine lv_aload_n hx hb dX1_add_23 rfl (lv_at hl 0 rfl) ?_
      refine gX1_3 C hP k_140 dX1_add_24 ?_
      refine lv_iload_n hx hb dX1_add_27 rfl (lv_at hl 1 rfl) ?_
      obtain ⟨h3, hf⟩ := zc hf
      refine astX C hP hS (n := 8) rfl h3 dX1_add_28 (fun H locs hP hS => ?_)
      refine lv_aload_n hx hb dX1_add_29 rfl (lv_at hl 0 rfl) ?_
      refine gX1_1 C hP k_138 dX1_add_30 ?_
      refine lv_aload_n hx hb dX1_add_33 rfl (lv_at hl 0 rfl) ?_
      refine gX1_3 C hP k_140 dX1_add_34 ?_
      refine lv_iload_n hx hb dX1_add_37 rfl (lv_at hl 2 rfl) ?_
      obtain ⟨h4, hf⟩ := zc hf
      refine astX C hP hS (n := 8) rfl h4 dX1_add_38 (fun H locs hP hS => ?_)
      refine lv_aload_n hx hb dX1_add_39 rfl (lv_at hl 0 rfl) ?_
      refine gX1_2 C hP k_139 dX1_add_40 ?_
      refine lv_aload_n hx hb dX1_add_43 rfl (lv_at hl 0 rfl) ?_
      refine gX1_3 C hP k_140 dX1_add_44 ?_
      refine lv_iload_n hx hb dX1_add_47 rfl (lv_at hl 3 rfl) ?_
      obtain ⟨h5, hf⟩ := zc hf
      refine astX C hP hS (n := 8) rfl h5 dX1_add_48 (fun H locs hP hS => ?_)
      refine lv_aload_n hx hb dX1_add_49 rfl (lv_at hl 0 rfl) ?_
      refine lv_dup hx hb dX1_add_50 rfl ?_
      refine gX1_3 C hP k_140 dX1_add_51 ?_
      refine lv_iconst (v := 1) hx hb dX1_add_54 (by decide) ?_
      refine lv_iadd hx hb dX1_add_55 ?_
      refine pX1_3 C hP hS k_140 dX1_add_56 (fun H locs hP hS => ?_)
      refine lv_aload_n hx hb dX1_add_59 rfl (lv_at hl 0 rfl) ?_
      refine gX1_3 C hP k_140 dX1_add_60 ?_
      refine lv_iconst (v := 1) hx hb dX1_add_63 (by decide) ?_
      refine lv_isub hx hb dX1_add_64 ?_
      exact q_iret C hr hlk hP hS (Option.some.inj hf) dX1_add_65
    · replace hf := zf c2 hf
      refine lv_bipush (v := (-4)) hx hb dX1_add_16 (by decide) ?_
      exact q_iret C hr hlk hP hS (Option.some.inj hf) dX1_add_18
theorem kd_X1_add : yX1_add.cls = RX1 ∧ yX1_add.cls ≠ "java/lang/invoke/MethodHandle" ∧ yX1_add.cls ≠ "java/lang/invoke/VarHandle" ∧ (parseMethodDescriptor yX1_add.desc).map (fun d => d.parameters.length) = some 3 := by decide +kernel
def r_X1_add : Room := { frames := 0, cells := 0, slots := 0, locals := 0 }
set_option maxRecDepth 100000 in
set_option maxHeartbeats 4000000 in
theorem c_X1_add {l : Launch} {D : va_G} {ad : Nat → Nat} {cs : Nat → ClassId} (hD : ∀ σ, va_D (AX ad) (WX ad cs σ)) {σ : Sg} {x1 : Int32} {x2 : Int32} {x3 : Int32} {res : Int32 × Sg} (hf : f_X1_add σ x1 x2 x3 = some res) : Met l yX1_add (wm yX1_add cX1_add 4 (some .int)) r_X1_add (va_Pc [.ref (ad 12), .int x1, .int x2, .int x3] (BW D (TYX cs) (WX ad cs) σ)) (QI D (TYX cs) (WX ad cs) (AX ad) res.1 res.2) 0 0 (AX ad) := by
  refine q_enter (by decide) hD (Nat.le_of_ble_eq_true rfl) ?_
  intro p e s m below meth c C hr hlk hP hS ls hl
  exact w_X1_add C hr hlk ⟨Nat.le_of_ble_eq_true rfl, Nat.le_of_ble_eq_true rfl⟩ hf hP hS hl

set_option maxRecDepth 100000 in
set_option maxHeartbeats 4000000 in
theorem w_X1_brokenIn_4 (C : CX p m c cX1_brokenIn 4 s args RX1 D (TYX cs) (WX ad cs) (AX ad)) (hr : meth.sig.returnType = (some .int)) (hlk : meth.locks = false) (hR : 0 ≤ R.frames ∧ 0 ≤ R.locals) {σ : Sg} {x1 : Int32} {x2 : Int32} {x3 : Int32} {res : Int32} {ag4 : Int32 → Int32 → Option (Int32)} (hag4 : ∀ (x2 : Int32) (x3 : Int32) (H : Heap) (locs : List Loc) (ls : Array Slot), ag4 x2 x3 = some res → va_P D vwCl (WX ad cs σ) H → va_S (AX ad) s.heap H locs → lv_has ls 4 [(0, .ref (ad 12)), (1, .int x1), (2, .int x2), (3, .int x3)] → W p l e R s m args below meth c H locs 0 0 (MQ below (QI D (TYX cs) (WX ad cs) (AX ad) res σ) args s 0 0 (AX ad)) (F0 m 4 ls [])) (hf : f_X1_brokenIn_4 ag4 σ x1 x2 x3 = some res) {H : Heap} {locs : List Loc} (hP : va_P D vwCl (WX ad cs σ) H) (hS : va_S (AX ad) s.heap H locs) {ls : Array Slot} (hl : lv_has ls 4 [(0, .ref (ad 12)), (1, .int x1), (2, .int x2), (3, .int x3)]) : W p l e R s m args below meth c H locs 0 0 (MQ below (QI D (TYX cs) (WX ad cs) (AX ad) res σ) args s 0 0 (AX ad)) (F0 m 4 ls []) := by
  have hx := C.1.1
  have hb := C.1.2.1
  unfold f_X1_brokenIn_4 at hf
  refine lv_iload_n hx hb dX1_brokenIn_4 rfl (lv_at hl 3 rfl) ?_
  refine lv_aload_n hx hb dX1_brokenIn_5 rfl (lv_at hl 0 rfl) ?_
  refine gX1_3 C hP k_140 dX1_brokenIn_6 ?_
  refine lv_icmp_ge (tgt := 55) hx hb dX1_brokenIn_9 (by decide) (fun c1 => ?_) (fun c1 => ?_)
  · replace hf := zt c1 hf
    refine lv_iload_n hx hb dX1_brokenIn_55 rfl (lv_at hl 2 rfl) ?_
    exact q_iret C hr hlk hP hS (congrArg (fun q => (q, σ)) (Option.some.inj hf)) dX1_brokenIn_56
  · replace hf := zf c1 hf
    refine lv_iload_n hx hb dX1_brokenIn_12 rfl (lv_at hl 3 rfl) ?_
    refine lv_bipush (v := 8) hx hb dX1_brokenIn_13 (by decide) ?_
    refine lv_icmp_ge (tgt := 55) hx hb dX1_brokenIn_15 (by decide) (fun c2 => ?_) (fun c2 => ?_)
    · replace hf := zt c2 hf
      refine lv_iload_n hx hb dX1_brokenIn_55 rfl (lv_at hl 2 rfl) ?_
      exact q_iret C hr hlk hP hS (congrArg (fun q => (q, σ)) (Option.some.inj hf)) dX1_brokenIn_56
    · replace hf := zf c2 hf
      refine lv_aload_n hx hb dX1_brokenIn_18 rfl (lv_at hl 0 rfl) ?_
      refine gX1_1 C hP k_138 dX1_brokenIn_19 ?_
      refine lv_iload_n hx hb dX1_brokenIn_22 rfl (lv_at hl 3 rfl) ?_
      obtain ⟨h3, hf⟩ := zc hf
      refine aldX C hP (n := 8) rfl h3 dX1_brokenIn_23 ?_
      refine lv_iload_n hx hb dX1_brokenIn_24 rfl (lv_at hl 1 rfl) ?_
      refine lv_icmp_gt (tgt := 49) hx hb dX1_brokenIn_25 (by decide) (fun c4 => ?_) (fun c4 => ?_)
      · replace hf := zt c4 hf
        refine lv_iinc (v := x3 + 1) (lv' := [(3, .int (x3 + 1)), (0, .ref (ad 12)), (1, .int x1), (2, .int x2)]) hx hb dX1_brokenIn_49 hl (k := 3) rfl rfl (by decide) rfl (fun ls hl => ?_)
        refine lv_goto (tgt := 4) hx hb dX1_brokenIn_52 (by decide) ?_
        exact hag4 _ _ _ _ _ hf hP hS (lv_sub hl [1, 2, 3, 0] rfl)
      · replace hf := zf c4 hf
        refine lv_iload_n hx hb dX1_brokenIn_28 rfl (lv_at hl 1 rfl) ?_
        refine lv_aload_n hx hb dX1_brokenIn_29 rfl (lv_at hl 0 rfl) ?_
        refine gX1_2 C hP k_139 dX1_brokenIn_30 ?_
        refine lv_iload_n hx hb dX1_brokenIn_33 rfl (lv_at hl 3 rfl) ?_
        refine aldX C hP (n := 8) rfl h3 dX1_brokenIn_34 ?_
        refine lv_icmp_gt (tgt := 49) hx hb dX1_brokenIn_35 (by decide) (fun c5 => ?_) (fun c5 => ?_)
        · replace hf := zt c5 hf
          refine lv_iinc (v := x3 + 1) (lv' := [(3, .int (x3 + 1)), (0, .ref (ad 12)), (1, .int x1), (2, .int x2)]) hx hb dX1_brokenIn_49 hl (k := 3) rfl rfl (by decide) rfl (fun ls hl => ?_)
          refine lv_goto (tgt := 4) hx hb dX1_brokenIn_52 (by decide) ?_
          exact hag4 _ _ _ _ _ hf hP hS (lv_sub hl [1, 2, 3, 0] rfl)
        · replace hf := zf c5 hf
          refine lv_iload_n hx hb dX1_brokenIn_38 rfl (lv_at hl 2 rfl) ?_
          refine lv_iconst (v := 1) hx hb dX1_brokenIn_39 (by decide) ?_
          refine lv_aload_n hx hb dX1_brokenIn_40 rfl (lv_at hl 0 rfl) ?_
          refine gX1_0 C hP k_137 dX1_brokenIn_41 ?_
          refine lv_iload_n hx hb dX1_brokenIn_44 rfl (lv_at hl 3 rfl) ?_
          refine aldX C hP (n := 8) rfl h3 dX1_brokenIn_45 ?_
          refine lv_ishl hx hb dX1_brokenIn_46 ?_
          refine lv_ior hx hb dX1_brokenIn_47 ?_
          refine lv_istore_n (lv' := [(2, .int (x2 ||| ((1 : Int32) <<< ((σ 13 x3.toNatClampNeg) &&& 31)))), (0, .ref (ad 12)), (1, .int x1), (3, .int x3)]) hx hb dX1_brokenIn_48 rfl hl (by decide) rfl (fun ls hl => ?_)
          refine lv_iinc (v := x3 + 1) (lv' := [(3, .int (x3 + 1)), (2, .int (x2 ||| ((1 : Int32) <<< ((σ 13 x3.toNatClampNeg) &&& 31)))), (0, .ref (ad 12)), (1, .int x1)]) hx hb dX1_brokenIn_49 hl (k := 3) rfl rfl (by decide) rfl (fun ls hl => ?_)
          refine lv_goto (tgt := 4) hx hb dX1_brokenIn_52 (by decide) ?_
          exact hag4 _ _ _ _ _ hf hP hS (lv_sub hl [2, 3, 1, 0] rfl)
set_option maxRecDepth 100000 in
set_option maxHeartbeats 4000000 in
theorem wl_X1_brokenIn_4 (C : CX p m c cX1_brokenIn 4 s args RX1 D (TYX cs) (WX ad cs) (AX ad)) (hr : meth.sig.returnType = (some .int)) (hlk : meth.locks = false) (hR : 0 ≤ R.frames ∧ 0 ≤ R.locals) {σ : Sg} {x1 : Int32} {res : Int32} : ∀ n : Nat, ∀ (x2 : Int32) (x3 : Int32) (H : Heap) (locs : List Loc) (ls : Array Slot), l_X1_brokenIn_4 σ x1 n x2 x3 = some res → va_P D vwCl (WX ad cs σ) H → va_S (AX ad) s.heap H locs → lv_has ls 4 [(0, .ref (ad 12)), (1, .int x1), (2, .int x2), (3, .int x3)] → W p l e R s m args below meth c H locs 0 0 (MQ below (QI D (TYX cs) (WX ad cs) (AX ad) res σ) args s 0 0 (AX ad)) (F0 m 4 ls []) := by
  intro n
  induction n with
  | zero => intro x2 x3 H locs ls hf; cases hf
  | succ n ih =>
    intro x2 x3 H locs ls hf hP hS hl
    exact w_X1_brokenIn_4 C hr hlk hR (ag4 := l_X1_brokenIn_4 σ x1 n) ih hf hP hS hl
set_option maxRecDepth 100000 in
set_option maxHeartbeats 4000000 in
theorem w_X1_brokenIn (C : CX p m c cX1_brokenIn 4 s args RX1 D (TYX cs) (WX ad cs) (AX ad)) (hr : meth.sig.returnType = (some .int)) (hlk : meth.locks = false) (hR : 0 ≤ R.frames ∧ 0 ≤ R.locals) {σ : Sg} {x1 : Int32} {res : Int32} (hf : f_X1_brokenIn σ x1 = some res) {H : Heap} {locs : List Loc} (hP : va_P D vwCl (WX ad cs σ) H) (hS : va_S (AX ad) s.heap H locs) {ls : Array Slot} (hl : lv_has ls 4 [(0, .ref (ad 12)), (1, .int x1)]) : W p l e R s m args below meth c H locs 0 0 (MQ below (QI D (TYX cs) (WX ad cs) (AX ad) res σ) args s 0 0 (AX ad)) (F0 m 0 ls []) := by
  have hx := C.1.1
  have hb := C.1.2.1
  unfold f_X1_brokenIn at hf
  refine lv_iconst (v := 0) hx hb dX1_brokenIn_0 (by decide) ?_
  refine lv_istore_n (lv' := [(2, .int 0), (0, .ref (ad 12)), (1, .int x1)]) hx hb dX1_brokenIn_1 rfl hl (by decide) rfl (fun ls hl => ?_)
  refine lv_iconst (v := 0) hx hb dX1_brokenIn_2 (by decide) ?_
  refine lv_istore_n (lv' := [(3, .int 0), (2, .int 0), (0, .ref (ad 12)), (1, .int x1)]) hx hb dX1_brokenIn_3 rfl hl (by decide) rfl (fun ls hl => ?_)
  exact wl_X1_brokenIn_4 C hr hlk hR fu _ _ _ _ _ hf hP hS (lv_sub hl [2, 3, 1, 0] rfl)
theorem kd_X1_brokenIn : yX1_brokenIn.cls = RX1 ∧ yX1_brokenIn.cls ≠ "java/lang/invoke/MethodHandle" ∧ yX1_brokenIn.cls ≠ "java/lang/invoke/VarHandle" ∧ (parseMethodDescriptor yX1_brokenIn.desc).map (fun d => d.parameters.length) = some 1 := by decide +kernel
def r_X1_brokenIn : Room := { frames := 0, cells := 0, slots := 0, locals := 0 }
set_option maxRecDepth 100000 in
set_option maxHeartbeats 4000000 in
theorem c_X1_brokenIn {l : Launch} {D : va_G} {ad : Nat → Nat} {cs : Nat → ClassId} (hD : ∀ σ, va_D (AX ad) (WX ad cs σ)) {σ : Sg} {x1 : Int32} {res : Int32} (hf : f_X1_brokenIn σ x1 = some res) : Met l yX1_brokenIn (wm yX1_brokenIn cX1_brokenIn 4 (some .int)) r_X1_brokenIn (va_Pc [.ref (ad 12), .int x1] (BW D (TYX cs) (WX ad cs) σ)) (QI D (TYX cs) (WX ad cs) (AX ad) res σ) 0 0 (AX ad) := by
  refine q_enter (by decide) hD (Nat.le_of_ble_eq_true rfl) ?_
  intro p e s m below meth c C hr hlk hP hS ls hl
  exact w_X1_brokenIn C hr hlk ⟨Nat.le_of_ble_eq_true rfl, Nat.le_of_ble_eq_true rfl⟩ hf hP hS hl

set_option maxRecDepth 100000 in
set_option maxHeartbeats 4000000 in
theorem w_X2_add (C : CX p m c cX2_add 3 s args RX2 D (TYX cs) (WX ad cs) (AX ad)) (hr : meth.sig.returnType = (some .int)) (hlk : meth.locks = false) (hR : 0 ≤ R.frames ∧ 0 ≤ R.locals) {σ : Sg} {x1 : Int32} {x2 : Int32} {res : Int32 × Sg} (hf : f_X2_add σ x1 x2 = some res) {H : Heap} {locs : List Loc} (hP : va_P D vwCl (WX ad cs σ) H) (hS : va_S (AX ad) s.heap H locs) {ls : Array Slot} (hl : lv_has ls 3 [(0, .ref (ad 16)), (1, .int x1), (2, .int x2)]) : W p l e R s m args below meth c H locs 0 0 (MQ below (QI D (TYX cs) (WX ad cs) (AX ad) res.1 res.2) args s 0 0 (AX ad)) (F0 m 0 ls []) := by
  have hx := C.1.1
  have hb := C.1.2.1
  unfold f_X2_add at hf
  refine lv_aload_n hx hb dX2_add_0 rfl (lv_at hl 0 rfl) ?_
  refine gX2_2 C hP k_160 dX2_add_1 ?_
  refine lv_if_lt (tgt := 16) hx hb dX2_add_4 (by decide) (fun c1 => ?_) (fun c1 => ?_)
  · replace hf := zt c1 hf
    refine lv_bipush (v := (-4)) hx hb dX2_add_16 (by decide) ?_
    exact q_iret C hr hlk hP hS (Option.some.inj hf) dX2_add_18
  · replace hf := zf c1 hf
    refine lv_aload_n hx hb dX2_add_7 rfl (lv_at hl 0 rfl) ?_
    refine gX2_2 C hP k_160 dX2_add_8 ?_
    refine lv_bipush (v := 8) hx hb dX2_add_11 (by decide) ?_
    refine lv_icmp_lt (tgt := 19) hx hb dX2_add_13 (by decide) (fun c2 => ?_) (fun c2 => ?_)
    · replace hf := zt c2 hf
      refine lv_aload_n hx hb dX2_add_19 rfl (lv_at hl 0 rfl) ?_
      refine gX2_0 C hP k_158 dX2_add_20 ?_
      refine lv_aload_n hx hb dX2_add_23 rfl (lv_at hl 0 rfl) ?_
      refine gX2_2 C hP k_160 dX2_add_24 ?_
      refine lv_iload_n hx hb dX2_add_27 rfl (lv_at hl 1 rfl) ?_
      obtain ⟨h3, hf⟩ := zc hf
      refine astX C hP hS (n := 8) rfl h3 dX2_add_28 (fun H locs hP hS => ?_)
      refine lv_aload_n hx hb dX2_add_29 rfl (lv_at hl 0 rfl) ?_
      refine gX2_1 C hP k_159 dX2_add_30 ?_
      refine lv_aload_n hx hb dX2_add_33 rfl (lv_at hl 0 rfl) ?_
      refine gX2_2 C hP k_160 dX2_add_34 ?_
      refine lv_iload_n hx hb dX2_add_37 rfl (lv_at hl 2 rfl) ?_
      obtain ⟨h4, hf⟩ := zc hf
      refine astX C hP hS (n := 8) rfl h4 dX2_add_38 (fun H locs hP hS => ?_)
      refine lv_aload_n hx hb dX2_add_39 rfl (lv_at hl 0 rfl) ?_
      refine lv_dup hx hb dX2_add_40 rfl ?_
      refine gX2_2 C hP k_160 dX2_add_41 ?_
      refine lv_iconst (v := 1) hx hb dX2_add_44 (by decide) ?_
      refine lv_iadd hx hb dX2_add_45 ?_
      refine pX2_2 C hP hS k_160 dX2_add_46 (fun H locs hP hS => ?_)
      refine lv_aload_n hx hb dX2_add_49 rfl (lv_at hl 0 rfl) ?_
      refine gX2_2 C hP k_160 dX2_add_50 ?_
      refine lv_iconst (v := 1) hx hb dX2_add_53 (by decide) ?_
      refine lv_isub hx hb dX2_add_54 ?_
      exact q_iret C hr hlk hP hS (Option.some.inj hf) dX2_add_55
    · replace hf := zf c2 hf
      refine lv_bipush (v := (-4)) hx hb dX2_add_16 (by decide) ?_
      exact q_iret C hr hlk hP hS (Option.some.inj hf) dX2_add_18
theorem kd_X2_add : yX2_add.cls = RX2 ∧ yX2_add.cls ≠ "java/lang/invoke/MethodHandle" ∧ yX2_add.cls ≠ "java/lang/invoke/VarHandle" ∧ (parseMethodDescriptor yX2_add.desc).map (fun d => d.parameters.length) = some 2 := by decide +kernel
def r_X2_add : Room := { frames := 0, cells := 0, slots := 0, locals := 0 }
set_option maxRecDepth 100000 in
set_option maxHeartbeats 4000000 in
theorem c_X2_add {l : Launch} {D : va_G} {ad : Nat → Nat} {cs : Nat → ClassId} (hD : ∀ σ, va_D (AX ad) (WX ad cs σ)) {σ : Sg} {x1 : Int32} {x2 : Int32} {res : Int32 × Sg} (hf : f_X2_add σ x1 x2 = some res) : Met l yX2_add (wm yX2_add cX2_add 3 (some .int)) r_X2_add (va_Pc [.ref (ad 16), .int x1, .int x2] (BW D (TYX cs) (WX ad cs) σ)) (QI D (TYX cs) (WX ad cs) (AX ad) res.1 res.2) 0 0 (AX ad) := by
  refine q_enter (by decide) hD (Nat.le_of_ble_eq_true rfl) ?_
  intro p e s m below meth c C hr hlk hP hS ls hl
  exact w_X2_add C hr hlk ⟨Nat.le_of_ble_eq_true rfl, Nat.le_of_ble_eq_true rfl⟩ hf hP hS hl

set_option maxRecDepth 100000 in
set_option maxHeartbeats 4000000 in
theorem w_X3_serverOf (C : CX p m c cX3_serverOf 2 s args RX3 D (TYX cs) (WX ad cs) (AX ad)) (hr : meth.sig.returnType = (some .int)) (hlk : meth.locks = false) (hR : 0 ≤ R.frames ∧ 0 ≤ R.locals) {σ : Sg} {x1 : Int32} {res : Int32} (hf : f_X3_serverOf σ x1 = some res) {H : Heap} {locs : List Loc} (hP : va_P D vwCl (WX ad cs σ) H) (hS : va_S (AX ad) s.heap H locs) {ls : Array Slot} (hl : lv_has ls 2 [(0, .ref (ad 19)), (1, .int x1)]) : W p l e R s m args below meth c H locs 0 0 (MQ below (QI D (TYX cs) (WX ad cs) (AX ad) res σ) args s 0 0 (AX ad)) (F0 m 0 ls []) := by
  have hx := C.1.1
  have hb := C.1.2.1
  unfold f_X3_serverOf at hf
  refine lv_iload_n hx hb dX3_serverOf_0 rfl (lv_at hl 1 rfl) ?_
  refine lv_if_lt (tgt := 19) hx hb dX3_serverOf_1 (by decide) (fun c1 => ?_) (fun c1 => ?_)
  · replace hf := zt c1 hf
    refine lv_bipush (v := (-9)) hx hb dX3_serverOf_19 (by decide) ?_
    exact q_iret C hr hlk hP hS (congrArg (fun q => (q, σ)) (Option.some.inj hf)) dX3_serverOf_21
  · replace hf := zf c1 hf
    refine lv_iload_n hx hb dX3_serverOf_4 rfl (lv_at hl 1 rfl) ?_
    refine lv_bipush (v := 8) hx hb dX3_serverOf_5 (by decide) ?_
    refine lv_icmp_ge (tgt := 19) hx hb dX3_serverOf_7 (by decide) (fun c2 => ?_) (fun c2 => ?_)
    · replace hf := zt c2 hf
      refine lv_bipush (v := (-9)) hx hb dX3_serverOf_19 (by decide) ?_
      exact q_iret C hr hlk hP hS (congrArg (fun q => (q, σ)) (Option.some.inj hf)) dX3_serverOf_21
    · replace hf := zf c2 hf
      refine lv_aload_n hx hb dX3_serverOf_10 rfl (lv_at hl 0 rfl) ?_
      refine gX3_1 C hP k_176 dX3_serverOf_11 ?_
      refine lv_iload_n hx hb dX3_serverOf_14 rfl (lv_at hl 1 rfl) ?_
      obtain ⟨h3, hf⟩ := zc hf
      refine aldX C hP (n := 8) rfl h3 dX3_serverOf_15 ?_
      refine lv_goto (tgt := 21) hx hb dX3_serverOf_16 (by decide) ?_
      exact q_iret C hr hlk hP hS (congrArg (fun q => (q, σ)) (Option.some.inj hf)) dX3_serverOf_21
theorem kd_X3_serverOf : yX3_serverOf.cls = RX3 ∧ yX3_serverOf.cls ≠ "java/lang/invoke/MethodHandle" ∧ yX3_serverOf.cls ≠ "java/lang/invoke/VarHandle" ∧ (parseMethodDescriptor yX3_serverOf.desc).map (fun d => d.parameters.length) = some 1 := by decide +kernel
def r_X3_serverOf : Room := { frames := 0, cells := 0, slots := 0, locals := 0 }
set_option maxRecDepth 100000 in
set_option maxHeartbeats 4000000 in
theorem c_X3_serverOf {l : Launch} {D : va_G} {ad : Nat → Nat} {cs : Nat → ClassId} (hD : ∀ σ, va_D (AX ad) (WX ad cs σ)) {σ : Sg} {x1 : Int32} {res : Int32} (hf : f_X3_serverOf σ x1 = some res) : Met l yX3_serverOf (wm yX3_serverOf cX3_serverOf 2 (some .int)) r_X3_serverOf (va_Pc [.ref (ad 19), .int x1] (BW D (TYX cs) (WX ad cs) σ)) (QI D (TYX cs) (WX ad cs) (AX ad) res σ) 0 0 (AX ad) := by
  refine q_enter (by decide) hD (Nat.le_of_ble_eq_true rfl) ?_
  intro p e s m below meth c C hr hlk hP hS ls hl
  exact w_X3_serverOf C hr hlk ⟨Nat.le_of_ble_eq_true rfl, Nat.le_of_ble_eq_true rfl⟩ hf hP hS hl

set_option maxRecDepth 100000 in
set_option maxHeartbeats 4000000 in
theorem w_X2_areSo_2 (C : CX p m c cX2_areSo 3 s args RX2 D (TYX cs) (WX ad cs) (AX ad)) (hr : meth.sig.returnType = (some .boolean)) (hlk : meth.locks = false) (hR : 1 ≤ R.frames ∧ 21 ≤ R.locals) {σ : Sg} {x2 : Int32} {res : Int32} {ag2 : Int32 → Option (Int32)} (hag2 : ∀ (x2 : Int32) (H : Heap) (locs : List Loc) (ls : Array Slot), ag2 x2 = some res → va_P D vwCl (WX ad cs σ) H → va_S (AX ad) s.heap H locs → lv_has ls 3 [(0, .ref (ad 16)), (1, .ref (ad 19)), (2, .int x2)] → W p l e R s m args below meth c H locs 0 0 (MQ below (QI D (TYX cs) (WX ad cs) (AX ad) res σ) args s 0 0 (AX ad)) (F0 m 2 ls [])) (hf : f_X2_areSo_2 ag2 σ x2 = some res) {H : Heap} {locs : List Loc} (hP : va_P D vwCl (WX ad cs σ) H) (hS : va_S (AX ad) s.heap H locs) {ls : Array Slot} (hl : lv_has ls 3 [(0, .ref (ad 16)), (1, .ref (ad 19)), (2, .int x2)]) : W p l e R s m args below meth c H locs 0 0 (MQ below (QI D (TYX cs) (WX ad cs) (AX ad) res σ) args s 0 0 (AX ad)) (F0 m 2 ls []) := by
  have hx := C.1.1
  have hb := C.1.2.1
  unfold f_X2_areSo_2 at hf
  refine lv_iload_n hx hb dX2_areSo_2 rfl (lv_at hl 2 rfl) ?_
  refine lv_aload_n hx hb dX2_areSo_3 rfl (lv_at hl 0 rfl) ?_
  refine gX2_2 C hP k_160 dX2_areSo_4 ?_
  refine lv_icmp_ge (tgt := 43) hx hb dX2_areSo_7 (by decide) (fun c1 => ?_) (fun c1 => ?_)
  · replace hf := zt c1 hf
    refine lv_iconst (v := 1) hx hb dX2_areSo_43 (by decide) ?_
    exact q_zret C hr hlk hP hS (congrArg (fun q => (q, σ)) (Option.some.inj hf)) (by decide) dX2_areSo_44
  · replace hf := zf c1 hf
    refine lv_iload_n hx hb dX2_areSo_10 rfl (lv_at hl 2 rfl) ?_
    refine lv_bipush (v := 8) hx hb dX2_areSo_11 (by decide) ?_
    refine lv_icmp_ge (tgt := 43) hx hb dX2_areSo_13 (by decide) (fun c2 => ?_) (fun c2 => ?_)
    · replace hf := zt c2 hf
      refine lv_iconst (v := 1) hx hb dX2_areSo_43 (by decide) ?_
      exact q_zret C hr hlk hP hS (congrArg (fun q => (q, σ)) (Option.some.inj hf)) (by decide) dX2_areSo_44
    · replace hf := zf c2 hf
      refine lv_aload_n hx hb dX2_areSo_16 rfl (lv_at hl 1 rfl) ?_
      refine lv_aload_n hx hb dX2_areSo_17 rfl (lv_at hl 0 rfl) ?_
      refine gX2_0 C hP k_158 dX2_areSo_18 ?_
      refine lv_iload_n hx hb dX2_areSo_21 rfl (lv_at hl 2 rfl) ?_
      obtain ⟨h3, hf⟩ := zc hf
      refine aldX C hP (n := 8) rfl h3 dX2_areSo_22 ?_
      obtain ⟨r5, hg4, hf⟩ := zb hf
      try dsimp only at hf
      refine q_calli C hS (q_runV C hP (c_X3_serverOf (l := l) C.2.2.1 hg4) (ci := 3) (As := [.int (σ 17 x2.toNatClampNeg)]) (rest := []) ⟨gd_V k_548 k_415 k_416 k_49 k_417, ⟨rfl, rfl⟩, kd_X3_serverOf, ⟨Nat.le_trans (Nat.le_of_ble_eq_true rfl) hR.1, Nat.le_trans (Nat.le_of_ble_eq_true rfl) hR.2⟩⟩ (o := 19) rfl rfl rfl rfl rfl (Nat.le_of_ble_eq_true rfl) hl.1 dX2_areSo_23) (fun H locs hP hS => ?_)
      refine lv_aload_n hx hb dX2_areSo_26 rfl (lv_at hl 0 rfl) ?_
      refine gX2_1 C hP k_159 dX2_areSo_27 ?_
      refine lv_iload_n hx hb dX2_areSo_30 rfl (lv_at hl 2 rfl) ?_
      refine aldX C hP (n := 8) rfl h3 dX2_areSo_31 ?_
      refine lv_icmp_eq (tgt := 37) hx hb dX2_areSo_32 (by decide) (fun c6 => ?_) (fun c6 => ?_)
      · replace hf := zt c6 hf
        refine lv_iinc (v := x2 + 1) (lv' := [(2, .int (x2 + 1)), (0, .ref (ad 16)), (1, .ref (ad 19))]) hx hb dX2_areSo_37 hl (k := 2) rfl rfl (by decide) rfl (fun ls hl => ?_)
        refine lv_goto (tgt := 2) hx hb dX2_areSo_40 (by decide) ?_
        exact hag2 _ _ _ _ hf hP hS (lv_sub hl [1, 2, 0] rfl)
      · replace hf := zf c6 hf
        refine lv_iconst (v := 0) hx hb dX2_areSo_35 (by decide) ?_
        exact q_zret C hr hlk hP hS (congrArg (fun q => (q, σ)) (Option.some.inj hf)) (by decide) dX2_areSo_36
set_option maxRecDepth 100000 in
set_option maxHeartbeats 4000000 in
theorem wl_X2_areSo_2 (C : CX p m c cX2_areSo 3 s args RX2 D (TYX cs) (WX ad cs) (AX ad)) (hr : meth.sig.returnType = (some .boolean)) (hlk : meth.locks = false) (hR : 1 ≤ R.frames ∧ 21 ≤ R.locals) {σ : Sg}  {res : Int32} : ∀ n : Nat, ∀ (x2 : Int32) (H : Heap) (locs : List Loc) (ls : Array Slot), l_X2_areSo_2 σ n x2 = some res → va_P D vwCl (WX ad cs σ) H → va_S (AX ad) s.heap H locs → lv_has ls 3 [(0, .ref (ad 16)), (1, .ref (ad 19)), (2, .int x2)] → W p l e R s m args below meth c H locs 0 0 (MQ below (QI D (TYX cs) (WX ad cs) (AX ad) res σ) args s 0 0 (AX ad)) (F0 m 2 ls []) := by
  intro n
  induction n with
  | zero => intro x2 H locs ls hf; cases hf
  | succ n ih =>
    intro x2 H locs ls hf hP hS hl
    exact w_X2_areSo_2 C hr hlk hR (ag2 := l_X2_areSo_2 σ n) ih hf hP hS hl
set_option maxRecDepth 100000 in
set_option maxHeartbeats 4000000 in
theorem w_X2_areSo (C : CX p m c cX2_areSo 3 s args RX2 D (TYX cs) (WX ad cs) (AX ad)) (hr : meth.sig.returnType = (some .boolean)) (hlk : meth.locks = false) (hR : 1 ≤ R.frames ∧ 21 ≤ R.locals) {σ : Sg}  {res : Int32} (hf : f_X2_areSo σ = some res) {H : Heap} {locs : List Loc} (hP : va_P D vwCl (WX ad cs σ) H) (hS : va_S (AX ad) s.heap H locs) {ls : Array Slot} (hl : lv_has ls 3 [(0, .ref (ad 16)), (1, .ref (ad 19))]) : W p l e R s m args below meth c H locs 0 0 (MQ below (QI D (TYX cs) (WX ad cs) (AX ad) res σ) args s 0 0 (AX ad)) (F0 m 0 ls []) := by
  have hx := C.1.1
  have hb := C.1.2.1
  unfold f_X2_areSo at hf
  refine lv_iconst (v := 0) hx hb dX2_areSo_0 (by decide) ?_
  refine lv_istore_n (lv' := [(2, .int 0), (0, .ref (ad 16)), (1, .ref (ad 19))]) hx hb dX2_areSo_1 rfl hl (by decide) rfl (fun ls hl => ?_)
  exact wl_X2_areSo_2 C hr hlk hR fu _ _ _ _ hf hP hS (lv_sub hl [1, 2, 0] rfl)
theorem kd_X2_areSo : yX2_areSo.cls = RX2 ∧ yX2_areSo.cls ≠ "java/lang/invoke/MethodHandle" ∧ yX2_areSo.cls ≠ "java/lang/invoke/VarHandle" ∧ (parseMethodDescriptor yX2_areSo.desc).map (fun d => d.parameters.length) = some 1 := by decide +kernel
def r_X2_areSo : Room := { frames := 1, cells := 0, slots := 0, locals := 21 }
set_option maxRecDepth 100000 in
set_option maxHeartbeats 4000000 in
theorem c_X2_areSo {l : Launch} {D : va_G} {ad : Nat → Nat} {cs : Nat → ClassId} (hD : ∀ σ, va_D (AX ad) (WX ad cs σ)) {σ : Sg}  {res : Int32} (hf : f_X2_areSo σ = some res) : Met l yX2_areSo (wm yX2_areSo cX2_areSo 3 (some .boolean)) r_X2_areSo (va_Pc [.ref (ad 16), .ref (ad 19)] (BW D (TYX cs) (WX ad cs) σ)) (QI D (TYX cs) (WX ad cs) (AX ad) res σ) 0 0 (AX ad) := by
  refine q_enter (by decide) hD (Nat.le_of_ble_eq_true rfl) ?_
  intro p e s m below meth c C hr hlk hP hS ls hl
  exact w_X2_areSo C hr hlk ⟨Nat.le_of_ble_eq_true rfl, Nat.le_of_ble_eq_true rfl⟩ hf hP hS hl

set_option maxRecDepth 100000 in
set_option maxHeartbeats 4000000 in
theorem w_X3_forget (C : CX p m c cX3_forget 1 s args RX3 D (TYX cs) (WX ad cs) (AX ad)) (hr : meth.sig.returnType = none) (hlk : meth.locks = false) (hR : 1 ≤ R.frames ∧ 23 ≤ R.locals) {σ : Sg}  {res : Sg} (hf : f_X3_forget σ = some res) {H : Heap} {locs : List Loc} (hP : va_P D vwCl (WX ad cs σ) H) (hS : va_S (AX ad) s.heap H locs) {ls : Array Slot} (hl : lv_has ls 1 [(0, .ref (ad 19))]) : W p l e R s m args below meth c H locs 0 0 (MQ below (QV D (TYX cs) (WX ad cs) (AX ad) res) args s 0 0 (AX ad)) (F0 m 0 ls []) := by
  have hx := C.1.1
  have hb := C.1.2.1
  unfold f_X3_forget at hf
  refine lv_aload_n hx hb dX3_forget_0 rfl (lv_at hl 0 rfl) ?_
  refine gX3_1 C hP k_176 dX3_forget_1 ?_
  refine lv_bipush (v := (-9)) hx hb dX3_forget_4 (by decide) ?_
  refine q_callv C hS (q_runS C hP (c_fillX (l := l) C.2.2.1 (n := 8) rfl) (As := [.ref (ad 20), .int (-9)]) (rest := []) ⟨gd_S k_390 k_391 k_56 k_392, ⟨rfl, rfl⟩, kd_fill, ⟨Nat.le_trans (Nat.le_of_ble_eq_true rfl) hR.1, Nat.le_trans (Nat.le_of_ble_eq_true rfl) hR.2⟩⟩ rfl rfl (Nat.le_of_ble_eq_true rfl) hl.1 dX3_forget_6) (fun H locs hP hS => ?_)
  refine lv_aload_n hx hb dX3_forget_9 rfl (lv_at hl 0 rfl) ?_
  refine gX3_2 C hP k_177 dX3_forget_10 ?_
  refine lv_iconst (v := 0) hx hb dX3_forget_13 (by decide) ?_
  refine q_callv C hS (q_runS C hP (c_fillX (l := l) C.2.2.1 (n := 8) rfl) (As := [.ref (ad 21), .int 0]) (rest := []) ⟨gd_S k_390 k_391 k_56 k_392, ⟨rfl, rfl⟩, kd_fill, ⟨Nat.le_trans (Nat.le_of_ble_eq_true rfl) hR.1, Nat.le_trans (Nat.le_of_ble_eq_true rfl) hR.2⟩⟩ rfl rfl (Nat.le_of_ble_eq_true rfl) hl.1 dX3_forget_14) (fun H locs hP hS => ?_)
  exact q_vret C hr hlk hP hS (Option.some.inj hf) dX3_forget_17
theorem kd_X3_forget : yX3_forget.cls = RX3 ∧ yX3_forget.cls ≠ "java/lang/invoke/MethodHandle" ∧ yX3_forget.cls ≠ "java/lang/invoke/VarHandle" ∧ (parseMethodDescriptor yX3_forget.desc).map (fun d => d.parameters.length) = some 0 := by decide +kernel
def r_X3_forget : Room := { frames := 1, cells := 0, slots := 0, locals := 23 }
set_option maxRecDepth 100000 in
set_option maxHeartbeats 4000000 in
theorem c_X3_forget {l : Launch} {D : va_G} {ad : Nat → Nat} {cs : Nat → ClassId} (hD : ∀ σ, va_D (AX ad) (WX ad cs σ)) {σ : Sg}  {res : Sg} (hf : f_X3_forget σ = some res) : Met l yX3_forget (wm yX3_forget cX3_forget 1 none) r_X3_forget (va_Pc [.ref (ad 19)] (BW D (TYX cs) (WX ad cs) σ)) (QV D (TYX cs) (WX ad cs) (AX ad) res) 0 0 (AX ad) := by
  refine q_enter (by decide) hD (Nat.le_of_ble_eq_true rfl) ?_
  intro p e s m below meth c C hr hlk hP hS ls hl
  exact w_X3_forget C hr hlk ⟨Nat.le_of_ble_eq_true rfl, Nat.le_of_ble_eq_true rfl⟩ hf hP hS hl

set_option maxRecDepth 100000 in
set_option maxHeartbeats 4000000 in
theorem w_X7_thingAt (C : CX p m c cX7_thingAt 2 s args RX7 D (TYX cs) (WX ad cs) (AX ad)) (hr : meth.sig.returnType = (some (.object "DeputyTown$Thing"))) (hlk : meth.locks = false) (hR : 0 ≤ R.frames ∧ 0 ≤ R.locals) {σ : Sg} {x1 : Int32} {res : Option Nat} (hf : f_X7_thingAt σ x1 = some res) {H : Heap} {locs : List Loc} (hP : va_P D vwCl (WX ad cs σ) H) (hS : va_S (AX ad) s.heap H locs) {ls : Array Slot} (hl : lv_has ls 2 [(0, .ref (ad 2)), (1, .int x1)]) : W p l e R s m args below meth c H locs 0 0 (MQ below (QR D (TYX cs) (WX ad cs) (AX ad) (Option.map (fun t => ad (4 + t)) res) σ) args s 0 0 (AX ad)) (F0 m 0 ls []) := by
  have hx := C.1.1
  have hb := C.1.2.1
  unfold f_X7_thingAt at hf
  refine lv_iload_n hx hb dX7_thingAt_0 rfl (lv_at hl 1 rfl) ?_
  refine lv_if_lt (tgt := 27) hx hb dX7_thingAt_1 (by decide) (fun c1 => ?_) (fun c1 => ?_)
  · replace hf := zt c1 hf
    refine lv_null hx hb dX7_thingAt_27 ?_
    exact q_aret (v := Option.map (fun t => ad (4 + t)) none) C hr (Or.inl ⟨_, rfl⟩) hlk hP hS (congrArg (fun q => (Option.map (fun t => ad (4 + t)) q, σ)) (Option.some.inj hf)) dX7_thingAt_28
  · replace hf := zf c1 hf
    refine lv_iload_n hx hb dX7_thingAt_4 rfl (lv_at hl 1 rfl) ?_
    refine lv_aload_n hx hb dX7_thingAt_5 rfl (lv_at hl 0 rfl) ?_
    refine gX7_1 C hP k_116 dX7_thingAt_6 ?_
    refine lv_icmp_ge (tgt := 27) hx hb dX7_thingAt_9 (by decide) (fun c2 => ?_) (fun c2 => ?_)
    · replace hf := zt c2 hf
      refine lv_null hx hb dX7_thingAt_27 ?_
      exact q_aret (v := Option.map (fun t => ad (4 + t)) none) C hr (Or.inl ⟨_, rfl⟩) hlk hP hS (congrArg (fun q => (Option.map (fun t => ad (4 + t)) q, σ)) (Option.some.inj hf)) dX7_thingAt_28
    · replace hf := zf c2 hf
      refine lv_iload_n hx hb dX7_thingAt_12 rfl (lv_at hl 1 rfl) ?_
      refine lv_bipush (v := 8) hx hb dX7_thingAt_13 (by decide) ?_
      refine lv_icmp_ge (tgt := 27) hx hb dX7_thingAt_15 (by decide) (fun c3 => ?_) (fun c3 => ?_)
      · replace hf := zt c3 hf
        refine lv_null hx hb dX7_thingAt_27 ?_
        exact q_aret (v := Option.map (fun t => ad (4 + t)) none) C hr (Or.inl ⟨_, rfl⟩) hlk hP hS (congrArg (fun q => (Option.map (fun t => ad (4 + t)) q, σ)) (Option.some.inj hf)) dX7_thingAt_28
      · replace hf := zf c3 hf
        refine lv_aload_n hx hb dX7_thingAt_18 rfl (lv_at hl 0 rfl) ?_
        refine gX7_0 C hP k_115 dX7_thingAt_19 ?_
        refine lv_iload_n hx hb dX7_thingAt_22 rfl (lv_at hl 1 rfl) ?_
        obtain ⟨h4, hf⟩ := zc hf
        refine aldX_things C hP h4 dX7_thingAt_23 ?_
        refine lv_goto (tgt := 28) hx hb dX7_thingAt_24 (by decide) ?_
        exact q_aret (v := Option.map (fun t => ad (4 + t)) (some x1.toNatClampNeg)) C hr (Or.inl ⟨_, rfl⟩) hlk hP hS (congrArg (fun q => (Option.map (fun t => ad (4 + t)) q, σ)) (Option.some.inj hf)) dX7_thingAt_28
theorem kd_X7_thingAt : yX7_thingAt.cls = RX7 ∧ yX7_thingAt.cls ≠ "java/lang/invoke/MethodHandle" ∧ yX7_thingAt.cls ≠ "java/lang/invoke/VarHandle" ∧ (parseMethodDescriptor yX7_thingAt.desc).map (fun d => d.parameters.length) = some 1 := by decide +kernel
def r_X7_thingAt : Room := { frames := 0, cells := 0, slots := 0, locals := 0 }
set_option maxRecDepth 100000 in
set_option maxHeartbeats 4000000 in
theorem c_X7_thingAt {l : Launch} {D : va_G} {ad : Nat → Nat} {cs : Nat → ClassId} (hD : ∀ σ, va_D (AX ad) (WX ad cs σ)) {σ : Sg} {x1 : Int32} {res : Option Nat} (hf : f_X7_thingAt σ x1 = some res) : Met l yX7_thingAt (wm yX7_thingAt cX7_thingAt 2 (some (.object "DeputyTown$Thing"))) r_X7_thingAt (va_Pc [.ref (ad 2), .int x1] (BW D (TYX cs) (WX ad cs) σ)) (QR D (TYX cs) (WX ad cs) (AX ad) (Option.map (fun t => ad (4 + t)) res) σ) 0 0 (AX ad) := by
  refine q_enter (by decide) hD (Nat.le_of_ble_eq_true rfl) ?_
  intro p e s m below meth c C hr hlk hP hS ls hl
  exact w_X7_thingAt C hr hlk ⟨Nat.le_of_ble_eq_true rfl, Nat.le_of_ble_eq_true rfl⟩ hf hP hS hl

set_option maxRecDepth 100000 in
set_option maxHeartbeats 4000000 in
theorem w_X3_may_54 (C : CX p m c cX3_may 5 s args RX3 D (TYX cs) (WX ad cs) (AX ad)) (hr : meth.sig.returnType = (some .boolean)) (hlk : meth.locks = false) (hR : 0 ≤ R.frames ∧ 0 ≤ R.locals) {σ : Sg} {s0 : Int32} {res : Int32} (hf : f_X3_may_54 σ s0 = some res) {H : Heap} {locs : List Loc} (hP : va_P D vwCl (WX ad cs σ) H) (hS : va_S (AX ad) s.heap H locs) {ls : Array Slot} (hl : lv_has ls 5 []) : W p l e R s m args below meth c H locs 0 0 (MQ below (QI D (TYX cs) (WX ad cs) (AX ad) res σ) args s 0 0 (AX ad)) (F0 m 54 ls [.int s0]) := by
  have hx := C.1.1
  have hb := C.1.2.1
  unfold f_X3_may_54 at hf
  refine lv_istore (lv' := [(4, .int s0)]) hx hb dX3_may_54 hl (by decide) rfl (fun ls hl => ?_)
  refine lv_iload hx hb dX3_may_56 (lv_at hl 0 rfl) ?_
  refine lv_if_ne (tgt := 65) hx hb dX3_may_58 (by decide) (fun c1 => ?_) (fun c1 => ?_)
  · replace hf := zf c1 hf
    refine lv_iconst (v := 0) hx hb dX3_may_65 (by decide) ?_
    exact q_zret C hr hlk hP hS (congrArg (fun q => (q, σ)) (Option.some.inj hf)) (by decide) dX3_may_66
  · replace hf := zt c1 hf
    refine lv_iconst (v := 1) hx hb dX3_may_61 (by decide) ?_
    refine lv_goto (tgt := 66) hx hb dX3_may_62 (by decide) ?_
    exact q_zret C hr hlk hP hS (congrArg (fun q => (q, σ)) (Option.some.inj hf)) (by decide) dX3_may_66
set_option maxRecDepth 100000 in
set_option maxHeartbeats 4000000 in
theorem w_X3_may (C : CX p m c cX3_may 5 s args RX3 D (TYX cs) (WX ad cs) (AX ad)) (hr : meth.sig.returnType = (some .boolean)) (hlk : meth.locks = false) (hR : 0 ≤ R.frames ∧ 0 ≤ R.locals) {σ : Sg} {x1 : Nat} {x2 : Int32} {x3 : Int32} {res : Int32} (hf : f_X3_may σ x1 x2 x3 = some res) {H : Heap} {locs : List Loc} (hP : va_P D vwCl (WX ad cs σ) H) (hS : va_S (AX ad) s.heap H locs) {ls : Array Slot} (hl : lv_has ls 5 [(0, .ref (ad 19)), (1, .ref (ad (4 + x1))), (2, .int x2), (3, .int x3)]) : W p l e R s m args below meth c H locs 0 0 (MQ below (QI D (TYX cs) (WX ad cs) (AX ad) res σ) args s 0 0 (AX ad)) (F0 m 0 ls []) := by
  have hx := C.1.1
  have hb := C.1.2.1
  unfold f_X3_may at hf
  refine lv_iload_n hx hb dX3_may_0 rfl (lv_at hl 3 rfl) ?_
  refine lv_aload_n hx hb dX3_may_1 rfl (lv_at hl 1 rfl) ?_
  obtain ⟨h1, hf⟩ := zc hf
  refine gX6_0N C hP h1 k_83 dX3_may_2 ?_
  refine lv_ishr hx hb dX3_may_5 ?_
  refine lv_iconst (v := 1) hx hb dX3_may_6 (by decide) ?_
  refine lv_iand hx hb dX3_may_7 ?_
  refine lv_if_ne (tgt := 21) hx hb dX3_may_8 (by decide) (fun c2 => ?_) (fun c2 => ?_)
  · replace hf := zf c2 hf
    refine lv_iconst (v := 0) hx hb dX3_may_21 (by decide) ?_
    exact q_zret C hr hlk hP hS (congrArg (fun q => (q, σ)) (Option.some.inj hf)) (by decide) dX3_may_22
  · replace hf := zt c2 hf
    refine lv_iload_n hx hb dX3_may_11 rfl (lv_at hl 2 rfl) ?_
    refine lv_if_lt (tgt := 21) hx hb dX3_may_12 (by decide) (fun c3 => ?_) (fun c3 => ?_)
    · replace hf := zt c3 hf
      refine lv_iconst (v := 0) hx hb dX3_may_21 (by decide) ?_
      exact q_zret C hr hlk hP hS (congrArg (fun q => (q, σ)) (Option.some.inj hf)) (by decide) dX3_may_22
    · replace hf := zf c3 hf
      refine lv_iload_n hx hb dX3_may_15 rfl (lv_at hl 2 rfl) ?_
      refine lv_bipush (v := 8) hx hb dX3_may_16 (by decide) ?_
      refine lv_icmp_lt (tgt := 23) hx hb dX3_may_18 (by decide) (fun c4 => ?_) (fun c4 => ?_)
      · replace hf := zt c4 hf
        refine lv_aload_n hx hb dX3_may_23 rfl (lv_at hl 0 rfl) ?_
        refine gX3_1 C hP k_176 dX3_may_24 ?_
        refine lv_iload_n hx hb dX3_may_27 rfl (lv_at hl 2 rfl) ?_
        obtain ⟨h5, hf⟩ := zc hf
        refine aldX C hP (n := 8) rfl h5 dX3_may_28 ?_
        refine lv_aload_n hx hb dX3_may_29 rfl (lv_at hl 1 rfl) ?_
        refine gX6_0N C hP h1 k_83 dX3_may_30 ?_
        refine lv_icmp_ne (tgt := 53) hx hb dX3_may_33 (by decide) (fun c6 => ?_) (fun c6 => ?_)
        · replace hf := zf c6 hf
          refine lv_iconst (v := 0) hx hb dX3_may_53 (by decide) ?_
          exact w_X3_may_54 C hr hlk hR hf hP hS (lv_sub hl [] rfl)
        · replace hf := zt c6 hf
          refine lv_aload_n hx hb dX3_may_36 rfl (lv_at hl 0 rfl) ?_
          refine gX3_2 C hP k_177 dX3_may_37 ?_
          refine lv_iload_n hx hb dX3_may_40 rfl (lv_at hl 2 rfl) ?_
          refine aldX C hP (n := 8) rfl h5 dX3_may_41 ?_
          refine lv_aload_n hx hb dX3_may_42 rfl (lv_at hl 1 rfl) ?_
          refine gX6_4N C hP h1 k_98 dX3_may_43 ?_
          refine lv_icmp_lt (tgt := 53) hx hb dX3_may_46 (by decide) (fun c7 => ?_) (fun c7 => ?_)
          · replace hf := zt c7 hf
            refine lv_iconst (v := 0) hx hb dX3_may_53 (by decide) ?_
            exact w_X3_may_54 C hr hlk hR hf hP hS (lv_sub hl [] rfl)
          · replace hf := zf c7 hf
            refine lv_iconst (v := 1) hx hb dX3_may_49 (by decide) ?_
            refine lv_goto (tgt := 54) hx hb dX3_may_50 (by decide) ?_
            exact w_X3_may_54 C hr hlk hR hf hP hS (lv_sub hl [] rfl)
      · replace hf := zf c4 hf
        refine lv_iconst (v := 0) hx hb dX3_may_21 (by decide) ?_
        exact q_zret C hr hlk hP hS (congrArg (fun q => (q, σ)) (Option.some.inj hf)) (by decide) dX3_may_22
theorem kd_X3_may : yX3_may.cls = RX3 ∧ yX3_may.cls ≠ "java/lang/invoke/MethodHandle" ∧ yX3_may.cls ≠ "java/lang/invoke/VarHandle" ∧ (parseMethodDescriptor yX3_may.desc).map (fun d => d.parameters.length) = some 3 := by decide +kernel
def r_X3_may : Room := { frames := 0, cells := 0, slots := 0, locals := 0 }
set_option maxRecDepth 100000 in
set_option maxHeartbeats 4000000 in
theorem c_X3_may {l : Launch} {D : va_G} {ad : Nat → Nat} {cs : Nat → ClassId} (hD : ∀ σ, va_D (AX ad) (WX ad cs σ)) {σ : Sg} {x1 : Nat} {x2 : Int32} {x3 : Int32} {res : Int32} (hf : f_X3_may σ x1 x2 x3 = some res) : Met l yX3_may (wm yX3_may cX3_may 5 (some .boolean)) r_X3_may (va_Pc [.ref (ad 19), .ref (ad (4 + x1)), .int x2, .int x3] (BW D (TYX cs) (WX ad cs) σ)) (QI D (TYX cs) (WX ad cs) (AX ad) res σ) 0 0 (AX ad) := by
  refine q_enter (by decide) hD (Nat.le_of_ble_eq_true rfl) ?_
  intro p e s m below meth c C hr hlk hP hS ls hl
  exact w_X3_may C hr hlk ⟨Nat.le_of_ble_eq_true rfl, Nat.le_of_ble_eq_true rfl⟩ hf hP hS hl

set_option maxRecDepth 100000 in
set_option maxHeartbeats 4000000 in
theorem w_X3_isPreferred (C : CX p m c cX3_isPreferred 4 s args RX3 D (TYX cs) (WX ad cs) (AX ad)) (hr : meth.sig.returnType = (some .boolean)) (hlk : meth.locks = false) (hR : 0 ≤ R.frames ∧ 0 ≤ R.locals) {σ : Sg} {x1 : Nat} {x2 : Option Nat} {x3 : Int32} {res : Int32} (hf : f_X3_isPreferred σ x1 x2 x3 = some res) {H : Heap} {locs : List Loc} (hP : va_P D vwCl (WX ad cs σ) H) (hS : va_S (AX ad) s.heap H locs) {ls : Array Slot} (hl : lv_has ls 4 [(0, .ref (ad 19)), (1, .ref (ad (4 + x1))), (2, va_rf (Option.map (fun t => ad (4 + t)) x2)), (3, .int x3)]) : W p l e R s m args below meth c H locs 0 0 (MQ below (QI D (TYX cs) (WX ad cs) (AX ad) res σ) args s 0 0 (AX ad)) (F0 m 0 ls []) := by
  have hx := C.1.1
  have hb := C.1.2.1
  unfold f_X3_isPreferred at hf
  refine lv_iload_n hx hb dX3_isPreferred_0 rfl (lv_at hl 3 rfl) ?_
  by_cases c1 : x3 = 1
  · replace hf := zt c1 hf
    refine lv_lookup (off := 27) (tgt := 28) hx hb dX3_isPreferred_1 (by decide) (by rw [c1]; rfl) (by decide) ?_
    refine q_aloadq_n C dX3_isPreferred_28 rfl (lv_at hl 2 rfl) ?_
    rcases x2 with _ | t2
    · refine lv_ifnonnullN hx hb dX3_isPreferred_29 ?_
      try dsimp only at hf
      refine lv_aload_n hx hb dX3_isPreferred_32 rfl (lv_at hl 0 rfl) ?_
      refine gX3_3 C hP k_178 dX3_isPreferred_33 ?_
      refine lv_aload_n hx hb dX3_isPreferred_36 rfl (lv_at hl 1 rfl) ?_
      obtain ⟨h3, hf⟩ := zc hf
      refine gX6_0N C hP h3 k_83 dX3_isPreferred_37 ?_
      refine lv_ishr hx hb dX3_isPreferred_40 ?_
      refine lv_iconst (v := 1) hx hb dX3_isPreferred_41 (by decide) ?_
      refine lv_iand hx hb dX3_isPreferred_42 ?_
      refine lv_if_ne (tgt := 50) hx hb dX3_isPreferred_43 (by decide) (fun c4 => ?_) (fun c4 => ?_)
      · replace hf := zf c4 hf
        refine lv_iconst (v := 0) hx hb dX3_isPreferred_50 (by decide) ?_
        exact q_zret C hr hlk hP hS (congrArg (fun q => (q, σ)) (Option.some.inj hf)) (by decide) dX3_isPreferred_51
      · replace hf := zt c4 hf
        refine lv_iconst (v := 1) hx hb dX3_isPreferred_46 (by decide) ?_
        refine lv_goto (tgt := 51) hx hb dX3_isPreferred_47 (by decide) ?_
        exact q_zret C hr hlk hP hS (congrArg (fun q => (q, σ)) (Option.some.inj hf)) (by decide) dX3_isPreferred_51
    · refine lv_ifnonnull (tgt := 50) hx hb dX3_isPreferred_29 (by decide) ?_
      try dsimp only at hf
      refine lv_iconst (v := 0) hx hb dX3_isPreferred_50 (by decide) ?_
      exact q_zret C hr hlk hP hS (congrArg (fun q => (q, σ)) (Option.some.inj hf)) (by decide) dX3_isPreferred_51
  · replace hf := zf c1 hf
    by_cases c5 : x3 = 2
    · replace hf := zt c5 hf
      refine lv_lookup (off := 51) (tgt := 52) hx hb dX3_isPreferred_1 (by decide) (by rw [c5]; rfl) (by decide) ?_
      refine q_aloadq_n C dX3_isPreferred_52 rfl (lv_at hl 2 rfl) ?_
      rcases x2 with _ | t6
      · refine lv_ifnullN (tgt := 67) hx hb dX3_isPreferred_53 (by decide) ?_
        try dsimp only at hf
        refine lv_iconst (v := 1) hx hb dX3_isPreferred_67 (by decide) ?_
        refine lv_goto (tgt := 72) hx hb dX3_isPreferred_68 (by decide) ?_
        exact q_zret C hr hlk hP hS (congrArg (fun q => (q, σ)) (Option.some.inj hf)) (by decide) dX3_isPreferred_72
      · refine lv_ifnull hx hb dX3_isPreferred_53 ?_
        try dsimp only at hf
        refine lv_aload_n hx hb dX3_isPreferred_56 rfl (lv_at hl 1 rfl) ?_
        obtain ⟨h7, hf⟩ := zc hf
        refine gX6_5N C hP h7 k_101 dX3_isPreferred_57 ?_
        refine lv_aload_n hx hb dX3_isPreferred_60 rfl (lv_at hl 2 rfl) ?_
        obtain ⟨h8, hf⟩ := zc hf
        refine gX6_5N C hP h8 k_101 dX3_isPreferred_61 ?_
        refine lv_icmp_le (tgt := 71) hx hb dX3_isPreferred_64 (by decide) (fun c9 => ?_) (fun c9 => ?_)
        · replace hf := zt c9 hf
          refine lv_iconst (v := 0) hx hb dX3_isPreferred_71 (by decide) ?_
          exact q_zret C hr hlk hP hS (congrArg (fun q => (q, σ)) (Option.some.inj hf)) (by decide) dX3_isPreferred_72
        · replace hf := zf c9 hf
          refine lv_iconst (v := 1) hx hb dX3_isPreferred_67 (by decide) ?_
          refine lv_goto (tgt := 72) hx hb dX3_isPreferred_68 (by decide) ?_
          exact q_zret C hr hlk hP hS (congrArg (fun q => (q, σ)) (Option.some.inj hf)) (by decide) dX3_isPreferred_72
    · replace hf := zf c5 hf
      refine lv_lookup (off := 72) (tgt := 73) hx hb dX3_isPreferred_1 (by decide) ((lv_osw c1 rfl).trans ((lv_osw c5 rfl).trans rfl)) (by decide) ?_
      refine q_aloadq_n C dX3_isPreferred_73 rfl (lv_at hl 2 rfl) ?_
      rcases x2 with _ | t10
      · refine lv_ifnonnullN hx hb dX3_isPreferred_74 ?_
        try dsimp only at hf
        refine lv_iconst (v := 1) hx hb dX3_isPreferred_77 (by decide) ?_
        refine lv_goto (tgt := 82) hx hb dX3_isPreferred_78 (by decide) ?_
        exact q_zret C hr hlk hP hS (congrArg (fun q => (q, σ)) (Option.some.inj hf)) (by decide) dX3_isPreferred_82
      · refine lv_ifnonnull (tgt := 81) hx hb dX3_isPreferred_74 (by decide) ?_
        try dsimp only at hf
        refine lv_iconst (v := 0) hx hb dX3_isPreferred_81 (by decide) ?_
        exact q_zret C hr hlk hP hS (congrArg (fun q => (q, σ)) (Option.some.inj hf)) (by decide) dX3_isPreferred_82
theorem kd_X3_isPreferred : yX3_isPreferred.cls = RX3 ∧ yX3_isPreferred.cls ≠ "java/lang/invoke/MethodHandle" ∧ yX3_isPreferred.cls ≠ "java/lang/invoke/VarHandle" ∧ (parseMethodDescriptor yX3_isPreferred.desc).map (fun d => d.parameters.length) = some 3 := by decide +kernel
def r_X3_isPreferred : Room := { frames := 0, cells := 0, slots := 0, locals := 0 }
set_option maxRecDepth 100000 in
set_option maxHeartbeats 4000000 in
theorem c_X3_isPreferred {l : Launch} {D : va_G} {ad : Nat → Nat} {cs : Nat → ClassId} (hD : ∀ σ, va_D (AX ad) (WX ad cs σ)) {σ : Sg} {x1 : Nat} {x2 : Option Nat} {x3 : Int32} {res : Int32} (hf : f_X3_isPreferred σ x1 x2 x3 = some res) : Met l yX3_isPreferred (wm yX3_isPreferred cX3_isPreferred 4 (some .boolean)) r_X3_isPreferred (va_Pc [.ref (ad 19), .ref (ad (4 + x1)), va_rf (Option.map (fun t => ad (4 + t)) x2), .int x3] (BW D (TYX cs) (WX ad cs) σ)) (QI D (TYX cs) (WX ad cs) (AX ad) res σ) 0 0 (AX ad) := by
  refine q_enter (by decide) hD (by rcases x2 with _ | _ <;> exact Nat.le_of_ble_eq_true rfl) ?_
  intro p e s m below meth c C hr hlk hP hS ls hl
  rcases x2 with _ | _
  all_goals exact w_X3_isPreferred C hr hlk ⟨Nat.le_of_ble_eq_true rfl, Nat.le_of_ble_eq_true rfl⟩ hf hP hS hl

set_option maxRecDepth 100000 in
set_option maxHeartbeats 4000000 in
theorem w_X3_standInFor_107 (C : CX p m c cX3_standInFor 9 s args RX3 D (TYX cs) (WX ad cs) (AX ad)) (hr : meth.sig.returnType = (some .int)) (hlk : meth.locks = false) (hR : 1 ≤ R.frames ∧ 24 ≤ R.locals) {σ : Sg} {x1 : Int32} {x2 : Int32} {x3 : Int32} {x4 : Option Nat} {x6 : Int32} {x7 : Int32} {x8 : Nat} {res : Int32} {ag21 : Option Nat → Option Nat → Int32 → Int32 → Option (Int32)} (hag21 : ∀ (x4 : Option Nat) (x5 : Option Nat) (x6 : Int32) (x7 : Int32) (H : Heap) (locs : List Loc) (ls : Array Slot), ag21 x4 x5 x6 x7 = some res → va_P D vwCl (WX ad cs σ) H → va_S (AX ad) s.heap H locs → lv_has ls 9 [(0, .ref (ad 19)), (1, .int x1), (2, .int x2), (3, .int x3), (4, va_rf (Option.map (fun t => ad (4 + t)) x4)), (5, va_rf (Option.map (fun t => ad (4 + t)) x5)), (6, .int x6), (7, .int x7)] → W p l e R s m args below meth c H locs 0 0 (MQ below (QI D (TYX cs) (WX ad cs) (AX ad) res σ) args s 0 0 (AX ad)) (F0 m 21 ls [])) (hf : f_X3_standInFor_107 ag21 σ x1 x2 x3 x4 x6 x7 x8 = some res) {H : Heap} {locs : List Loc} (hP : va_P D vwCl (WX ad cs σ) H) (hS : va_S (AX ad) s.heap H locs) {ls : Array Slot} (hl : lv_has ls 9 [(0, .ref (ad 19)), (1, .int x1), (2, .int x2), (3, .int x3), (4, va_rf (Option.map (fun t => ad (4 + t)) x4)), (6, .int x6), (7, .int x7), (8, .ref (ad (4 + x8)))]) : W p l e R s m args below meth c H locs 0 0 (MQ below (QI D (TYX cs) (WX ad cs) (AX ad) res σ) args s 0 0 (AX ad)) (F0 m 107 ls []) := by
  have hx := C.1.1
  have hb := C.1.2.1
  unfold f_X3_standInFor_107 at hf
  refine lv_aload hx hb dX3_standInFor_107 (lv_at hl 7 rfl) ?_
  refine lv_astore (lv' := [(5, .ref (ad (4 + x8))), (0, .ref (ad 19)), (1, .int x1), (2, .int x2), (3, .int x3), (4, va_rf (Option.map (fun t => ad (4 + t)) x4)), (6, .int x6), (7, .int x7), (8, .ref (ad (4 + x8)))]) hx hb dX3_standInFor_109 hl (by decide) (by cases x4 <;> rfl) (fun ls hl => ?_)
  refine lv_iinc (v := x7 + 1) (lv' := [(7, .int (x7 + 1)), (5, .ref (ad (4 + x8))), (0, .ref (ad 19)), (1, .int x1), (2, .int x2), (3, .int x3), (4, va_rf (Option.map (fun t => ad (4 + t)) x4)), (6, .int x6), (8, .ref (ad (4 + x8)))]) hx hb dX3_standInFor_111 hl (k := 7) rfl rfl (by decide) rfl (fun ls hl => ?_)
  refine lv_goto (tgt := 21) hx hb dX3_standInFor_114 (by decide) ?_
  exact hag21 _ _ _ _ _ _ _ hf hP hS (lv_sub hl [2, 3, 4, 5, 6, 1, 7, 0] rfl)
set_option maxRecDepth 100000 in
set_option maxHeartbeats 4000000 in
theorem w_X3_standInFor_117 (C : CX p m c cX3_standInFor 9 s args RX3 D (TYX cs) (WX ad cs) (AX ad)) (hr : meth.sig.returnType = (some .int)) (hlk : meth.locks = false) (hR : 1 ≤ R.frames ∧ 24 ≤ R.locals) {σ : Sg} {x4 : Option Nat} {res : Int32} (hf : f_X3_standInFor_117 σ x4 = some res) {H : Heap} {locs : List Loc} (hP : va_P D vwCl (WX ad cs σ) H) (hS : va_S (AX ad) s.heap H locs) {ls : Array Slot} (hl : lv_has ls 9 [(4, va_rf (Option.map (fun t => ad (4 + t)) x4))]) : W p l e R s m args below meth c H locs 0 0 (MQ below (QI D (TYX cs) (WX ad cs) (AX ad) res σ) args s 0 0 (AX ad)) (F0 m 117 ls []) := by
  have hx := C.1.1
  have hb := C.1.2.1
  unfold f_X3_standInFor_117 at hf
  refine q_aloadq C dX3_standInFor_117 (lv_at hl 0 rfl) ?_
  rcases x4 with _ | t1
  · refine lv_ifnonnullN hx hb dX3_standInFor_119 ?_
    try dsimp only at hf
    refine lv_bipush (v := (-9)) hx hb dX3_standInFor_122 (by decide) ?_
    refine lv_goto (tgt := 132) hx hb dX3_standInFor_124 (by decide) ?_
    exact q_iret C hr hlk hP hS (congrArg (fun q => (q, σ)) (Option.some.inj hf)) dX3_standInFor_132
  · refine lv_ifnonnull (tgt := 127) hx hb dX3_standInFor_119 (by decide) ?_
    try dsimp only at hf
    refine lv_aload hx hb dX3_standInFor_127 (lv_at hl 0 rfl) ?_
    obtain ⟨h2, hf⟩ := zc hf
    refine gX6_0N C hP h2 k_83 dX3_standInFor_129 ?_
    exact q_iret C hr hlk hP hS (congrArg (fun q => (q, σ)) (Option.some.inj hf)) dX3_standInFor_132
set_option maxRecDepth 100000 in
set_option maxHeartbeats 4000000 in
theorem w_X3_standInFor_21 (C : CX p m c cX3_standInFor 9 s args RX3 D (TYX cs) (WX ad cs) (AX ad)) (hr : meth.sig.returnType = (some .int)) (hlk : meth.locks = false) (hR : 1 ≤ R.frames ∧ 24 ≤ R.locals) {σ : Sg} {x1 : Int32} {x2 : Int32} {x3 : Int32} {x4 : Option Nat} {x5 : Option Nat} {x6 : Int32} {x7 : Int32} {res : Int32} {ag21 : Option Nat → Option Nat → Int32 → Int32 → Option (Int32)} (hag21 : ∀ (x4 : Option Nat) (x5 : Option Nat) (x6 : Int32) (x7 : Int32) (H : Heap) (locs : List Loc) (ls : Array Slot), ag21 x4 x5 x6 x7 = some res → va_P D vwCl (WX ad cs σ) H → va_S (AX ad) s.heap H locs → lv_has ls 9 [(0, .ref (ad 19)), (1, .int x1), (2, .int x2), (3, .int x3), (4, va_rf (Option.map (fun t => ad (4 + t)) x4)), (5, va_rf (Option.map (fun t => ad (4 + t)) x5)), (6, .int x6), (7, .int x7)] → W p l e R s m args below meth c H locs 0 0 (MQ below (QI D (TYX cs) (WX ad cs) (AX ad) res σ) args s 0 0 (AX ad)) (F0 m 21 ls [])) (hf : f_X3_standInFor_21 ag21 σ x1 x2 x3 x4 x5 x6 x7 = some res) {H : Heap} {locs : List Loc} (hP : va_P D vwCl (WX ad cs σ) H) (hS : va_S (AX ad) s.heap H locs) {ls : Array Slot} (hl : lv_has ls 9 [(0, .ref (ad 19)), (1, .int x1), (2, .int x2), (3, .int x3), (4, va_rf (Option.map (fun t => ad (4 + t)) x4)), (5, va_rf (Option.map (fun t => ad (4 + t)) x5)), (6, .int x6), (7, .int x7)]) : W p l e R s m args below meth c H locs 0 0 (MQ below (QI D (TYX cs) (WX ad cs) (AX ad) res σ) args s 0 0 (AX ad)) (F0 m 21 ls []) := by
  have hx := C.1.1
  have hb := C.1.2.1
  unfold f_X3_standInFor_21 at hf
  refine lv_iload hx hb dX3_standInFor_21 (lv_at hl 7 rfl) ?_
  refine lv_bipush (v := 8) hx hb dX3_standInFor_23 (by decide) ?_
  refine lv_icmp_ge (tgt := 117) hx hb dX3_standInFor_25 (by decide) (fun c1 => ?_) (fun c1 => ?_)
  · replace hf := zt c1 hf
    exact w_X3_standInFor_117 C hr hlk hR hf hP hS (lv_sub hl [4] rfl)
  · replace hf := zf c1 hf
    refine q_aloadq C dX3_standInFor_28 (lv_at hl 5 rfl) ?_
    rcases x5 with _ | t2
    · refine lv_ifnullN (tgt := 117) hx hb dX3_standInFor_30 (by decide) ?_
      try dsimp only at hf
      exact w_X3_standInFor_117 C hr hlk hR hf hP hS (lv_sub hl [4] rfl)
    · refine lv_ifnull hx hb dX3_standInFor_30 ?_
      try dsimp only at hf
      refine lv_aload_n hx hb dX3_standInFor_33 rfl (lv_at hl 0 rfl) ?_
      refine gX3_0 C hP k_175 dX3_standInFor_34 ?_
      refine lv_aload hx hb dX3_standInFor_37 (lv_at hl 5 rfl) ?_
      obtain ⟨h3, hf⟩ := zc hf
      refine gX6_2N C hP h3 k_92 dX3_standInFor_39 ?_
      obtain ⟨r5, hg4, hf⟩ := zb hf
      try dsimp only at hf
      refine q_callr C hS (q_runV C hP (c_X7_thingAt (l := l) C.2.2.1 hg4) (ci := 6) (As := [.int (σ (4 + t2) 2)]) (rest := []) ⟨gd_V k_405 k_340 k_341 k_45 k_342, ⟨rfl, rfl⟩, kd_X7_thingAt, ⟨Nat.le_trans (Nat.le_of_ble_eq_true rfl) hR.1, Nat.le_trans (Nat.le_of_ble_eq_true rfl) hR.2⟩⟩ (o := 2) rfl rfl rfl rfl rfl (Nat.le_of_ble_eq_true rfl) hl.1 dX3_standInFor_42) (fun H locs hP hS => ?_)
      refine q_astoreq (lv' := [(8, va_rf (Option.map (fun t => ad (4 + t)) r5)), (0, .ref (ad 19)), (1, .int x1), (2, .int x2), (3, .int x3), (4, va_rf (Option.map (fun t => ad (4 + t)) x4)), (5, .ref (ad (4 + t2))), (6, .int x6), (7, .int x7)]) C dX3_standInFor_45 hl (by decide) rfl (fun ls hl => ?_)
      refine q_aloadq C dX3_standInFor_47 (lv_at hl 0 rfl) ?_
      rcases r5 with _ | t6
      · refine lv_ifnullN (tgt := 117) hx hb dX3_standInFor_49 (by decide) ?_
        try dsimp only at hf
        exact w_X3_standInFor_117 C hr hlk hR hf hP hS (lv_sub hl [5] rfl)
      · refine lv_ifnull hx hb dX3_standInFor_49 ?_
        try dsimp only at hf
        refine lv_iload hx hb dX3_standInFor_52 (lv_at hl 7 rfl) ?_
        refine lv_aload hx hb dX3_standInFor_54 (lv_at hl 0 rfl) ?_
        obtain ⟨h7, hf⟩ := zc hf
        refine gX6_0N C hP h7 k_83 dX3_standInFor_56 ?_
        refine lv_ishr hx hb dX3_standInFor_59 ?_
        refine lv_iconst (v := 1) hx hb dX3_standInFor_60 (by decide) ?_
        refine lv_iand hx hb dX3_standInFor_61 ?_
        refine lv_if_eq (tgt := 68) hx hb dX3_standInFor_62 (by decide) (fun c8 => ?_) (fun c8 => ?_)
        · replace hf := zt c8 hf
          refine lv_iload hx hb dX3_standInFor_68 (lv_at hl 7 rfl) ?_
          refine lv_iconst (v := 1) hx hb dX3_standInFor_70 (by decide) ?_
          refine lv_aload hx hb dX3_standInFor_71 (lv_at hl 0 rfl) ?_
          refine gX6_0N C hP h7 k_83 dX3_standInFor_73 ?_
          refine lv_ishl hx hb dX3_standInFor_76 ?_
          refine lv_ior hx hb dX3_standInFor_77 ?_
          refine lv_istore (lv' := [(6, .int (x6 ||| ((1 : Int32) <<< ((nI t6) &&& 31)))), (8, .ref (ad (4 + t6))), (0, .ref (ad 19)), (1, .int x1), (2, .int x2), (3, .int x3), (4, va_rf (Option.map (fun t => ad (4 + t)) x4)), (5, .ref (ad (4 + t2))), (7, .int x7)]) hx hb dX3_standInFor_78 hl (by decide) rfl (fun ls hl => ?_)
          refine lv_aload_n hx hb dX3_standInFor_80 rfl (lv_at hl 2 rfl) ?_
          refine lv_aload hx hb dX3_standInFor_81 (lv_at hl 1 rfl) ?_
          refine lv_iload_n hx hb dX3_standInFor_83 rfl (lv_at hl 3 rfl) ?_
          refine lv_iload_n hx hb dX3_standInFor_84 rfl (lv_at hl 5 rfl) ?_
          obtain ⟨r10, hg9, hf⟩ := zb hf
          try dsimp only at hf
          refine q_calli C hS (q_runV C hP (c_X3_may (l := l) C.2.2.1 hg9) (ci := 3) (As := [.ref (ad (4 + t6)), .int x1, .int x3]) (rest := []) ⟨gd_V k_406 k_408 k_3 k_49 k_409, ⟨rfl, rfl⟩, kd_X3_may, ⟨Nat.le_trans (Nat.le_of_ble_eq_true rfl) hR.1, Nat.le_trans (Nat.le_of_ble_eq_true rfl) hR.2⟩⟩ (o := 19) rfl rfl rfl rfl rfl (Nat.le_of_ble_eq_true rfl) hl.1 dX3_standInFor_85) (fun H locs hP hS => ?_)
          refine lv_if_eq (tgt := 107) hx hb dX3_standInFor_88 (by decide) (fun c11 => ?_) (fun c11 => ?_)
          · replace hf := zt c11 hf
            exact w_X3_standInFor_107 C hr hlk hR hag21 hf hP hS (lv_sub hl [2, 3, 4, 5, 6, 0, 8, 1] rfl)
          · replace hf := zf c11 hf
            refine lv_aload_n hx hb dX3_standInFor_91 rfl (lv_at hl 2 rfl) ?_
            refine lv_aload hx hb dX3_standInFor_92 (lv_at hl 1 rfl) ?_
            refine q_aloadq C dX3_standInFor_94 (lv_at hl 6 rfl) ?_
            refine lv_iload_n hx hb dX3_standInFor_96 rfl (lv_at hl 4 rfl) ?_
            obtain ⟨r13, hg12, hf⟩ := zb hf
            try dsimp only at hf
            refine q_calli C hS (q_runV C hP (c_X3_isPreferred (l := l) C.2.2.1 hg12) (ci := 3) (As := [.ref (ad (4 + t6)), va_rf (Option.map (fun t => ad (4 + t)) x4), .int x2]) (rest := []) ⟨gd_V k_410 k_412 k_4 k_49 k_413, ⟨rfl, rfl⟩, kd_X3_isPreferred, ⟨Nat.le_trans (Nat.le_of_ble_eq_true rfl) hR.1, Nat.le_trans (Nat.le_of_ble_eq_true rfl) hR.2⟩⟩ (o := 19) rfl rfl rfl rfl rfl (Nat.le_of_ble_eq_true rfl) hl.1 dX3_standInFor_97) (fun H locs hP hS => ?_)
            refine lv_if_eq (tgt := 107) hx hb dX3_standInFor_100 (by decide) (fun c14 => ?_) (fun c14 => ?_)
            · replace hf := zt c14 hf
              exact w_X3_standInFor_107 C hr hlk hR hag21 hf hP hS (lv_sub hl [2, 3, 4, 5, 6, 0, 8, 1] rfl)
            · replace hf := zf c14 hf
              refine lv_aload hx hb dX3_standInFor_103 (lv_at hl 1 rfl) ?_
              refine lv_astore (lv' := [(4, .ref (ad (4 + t6))), (6, .int (x6 ||| ((1 : Int32) <<< ((nI t6) &&& 31)))), (8, .ref (ad (4 + t6))), (0, .ref (ad 19)), (1, .int x1), (2, .int x2), (3, .int x3), (5, .ref (ad (4 + t2))), (7, .int x7)]) hx hb dX3_standInFor_105 hl (by decide) rfl (fun ls hl => ?_)
              exact w_X3_standInFor_107 C hr hlk hR hag21 hf hP hS (lv_sub hl [3, 4, 5, 6, 0, 1, 8, 2] rfl)
        · replace hf := zf c8 hf
          refine lv_goto (tgt := 117) hx hb dX3_standInFor_65 (by decide) ?_
          exact w_X3_standInFor_117 C hr hlk hR hf hP hS (lv_sub hl [5] rfl)
set_option maxRecDepth 100000 in
set_option maxHeartbeats 4000000 in
theorem wl_X3_standInFor_21 (C : CX p m c cX3_standInFor 9 s args RX3 D (TYX cs) (WX ad cs) (AX ad)) (hr : meth.sig.returnType = (some .int)) (hlk : meth.locks = false) (hR : 1 ≤ R.frames ∧ 24 ≤ R.locals) {σ : Sg} {x1 : Int32} {x2 : Int32} {x3 : Int32} {res : Int32} : ∀ n : Nat, ∀ (x4 : Option Nat) (x5 : Option Nat) (x6 : Int32) (x7 : Int32) (H : Heap) (locs : List Loc) (ls : Array Slot), l_X3_standInFor_21 σ x1 x2 x3 n x4 x5 x6 x7 = some res → va_P D vwCl (WX ad cs σ) H → va_S (AX ad) s.heap H locs → lv_has ls 9 [(0, .ref (ad 19)), (1, .int x1), (2, .int x2), (3, .int x3), (4, va_rf (Option.map (fun t => ad (4 + t)) x4)), (5, va_rf (Option.map (fun t => ad (4 + t)) x5)), (6, .int x6), (7, .int x7)] → W p l e R s m args below meth c H locs 0 0 (MQ below (QI D (TYX cs) (WX ad cs) (AX ad) res σ) args s 0 0 (AX ad)) (F0 m 21 ls []) := by
  intro n
  induction n with
  | zero => intro x4 x5 x6 x7 H locs ls hf; cases hf
  | succ n ih =>
    intro x4 x5 x6 x7 H locs ls hf hP hS hl
    exact w_X3_standInFor_21 C hr hlk hR (ag21 := l_X3_standInFor_21 σ x1 x2 x3 n) ih hf hP hS hl
set_option maxRecDepth 100000 in
set_option maxHeartbeats 4000000 in
theorem w_X3_standInFor (C : CX p m c cX3_standInFor 9 s args RX3 D (TYX cs) (WX ad cs) (AX ad)) (hr : meth.sig.returnType = (some .int)) (hlk : meth.locks = false) (hR : 1 ≤ R.frames ∧ 24 ≤ R.locals) {σ : Sg} {x1 : Int32} {x2 : Int32} {x3 : Int32} {res : Int32} (hf : f_X3_standInFor σ x1 x2 x3 = some res) {H : Heap} {locs : List Loc} (hP : va_P D vwCl (WX ad cs σ) H) (hS : va_S (AX ad) s.heap H locs) {ls : Array Slot} (hl : lv_has ls 9 [(0, .ref (ad 19)), (1, .int x1), (2, .int x2), (3, .int x3)]) : W p l e R s m args below meth c H locs 0 0 (MQ below (QI D (TYX cs) (WX ad cs) (AX ad) res σ) args s 0 0 (AX ad)) (F0 m 0 ls []) := by
  have hx := C.1.1
  have hb := C.1.2.1
  unfold f_X3_standInFor at hf
  refine lv_null hx hb dX3_standInFor_0 ?_
  refine lv_astoreN (lv' := [(4, .null), (0, .ref (ad 19)), (1, .int x1), (2, .int x2), (3, .int x3)]) hx hb dX3_standInFor_1 hl (by decide) rfl (fun ls hl => ?_)
  refine lv_aload_n hx hb dX3_standInFor_3 rfl (lv_at hl 1 rfl) ?_
  refine gX3_0 C hP k_175 dX3_standInFor_4 ?_
  refine lv_iload_n hx hb dX3_standInFor_7 rfl (lv_at hl 2 rfl) ?_
  obtain ⟨r2, hg1, hf⟩ := zb hf
  try dsimp only at hf
  refine q_callr C hS (q_runV C hP (c_X7_thingAt (l := l) C.2.2.1 hg1) (ci := 6) (As := [.int x1]) (rest := []) ⟨gd_V k_405 k_340 k_341 k_45 k_342, ⟨rfl, rfl⟩, kd_X7_thingAt, ⟨Nat.le_trans (Nat.le_of_ble_eq_true rfl) hR.1, Nat.le_trans (Nat.le_of_ble_eq_true rfl) hR.2⟩⟩ (o := 2) rfl rfl rfl rfl rfl (Nat.le_of_ble_eq_true rfl) hl.1 dX3_standInFor_8) (fun H locs hP hS => ?_)
  refine q_astoreq (lv' := [(5, va_rf (Option.map (fun t => ad (4 + t)) r2)), (4, .null), (0, .ref (ad 19)), (1, .int x1), (2, .int x2), (3, .int x3)]) C dX3_standInFor_11 hl (by decide) rfl (fun ls hl => ?_)
  refine lv_iconst (v := 1) hx hb dX3_standInFor_13 (by decide) ?_
  refine lv_iload_n hx hb dX3_standInFor_14 rfl (lv_at hl 3 rfl) ?_
  refine lv_ishl hx hb dX3_standInFor_15 ?_
  refine lv_istore (lv' := [(6, .int ((1 : Int32) <<< (x1 &&& 31))), (5, va_rf (Option.map (fun t => ad (4 + t)) r2)), (4, .null), (0, .ref (ad 19)), (1, .int x1), (2, .int x2), (3, .int x3)]) hx hb dX3_standInFor_16 hl (by decide) (by cases r2 <;> rfl) (fun ls hl => ?_)
  refine lv_iconst (v := 0) hx hb dX3_standInFor_18 (by decide) ?_
  refine lv_istore (lv' := [(7, .int 0), (6, .int ((1 : Int32) <<< (x1 &&& 31))), (5, va_rf (Option.map (fun t => ad (4 + t)) r2)), (4, .null), (0, .ref (ad 19)), (1, .int x1), (2, .int x2), (3, .int x3)]) hx hb dX3_standInFor_19 hl (by decide) rfl (fun ls hl => ?_)
  exact wl_X3_standInFor_21 C hr hlk hR fu _ _ _ _ _ _ _ hf hP hS (lv_sub hl [4, 5, 6, 7, 3, 2, 1, 0] rfl)
theorem kd_X3_standInFor : yX3_standInFor.cls = RX3 ∧ yX3_standInFor.cls ≠ "java/lang/invoke/MethodHandle" ∧ yX3_standInFor.cls ≠ "java/lang/invoke/VarHandle" ∧ (parseMethodDescriptor yX3_standInFor.desc).map (fun d => d.parameters.length) = some 3 := by decide +kernel
def r_X3_standInFor : Room := { frames := 1, cells := 0, slots := 0, locals := 24 }
set_option maxRecDepth 100000 in
set_option maxHeartbeats 4000000 in
theorem c_X3_standInFor {l : Launch} {D : va_G} {ad : Nat → Nat} {cs : Nat → ClassId} (hD : ∀ σ, va_D (AX ad) (WX ad cs σ)) {σ : Sg} {x1 : Int32} {x2 : Int32} {x3 : Int32} {res : Int32} (hf : f_X3_standInFor σ x1 x2 x3 = some res) : Met l yX3_standInFor (wm yX3_standInFor cX3_standInFor 9 (some .int)) r_X3_standInFor (va_Pc [.ref (ad 19), .int x1, .int x2, .int x3] (BW D (TYX cs) (WX ad cs) σ)) (QI D (TYX cs) (WX ad cs) (AX ad) res σ) 0 0 (AX ad) := by
  refine q_enter (by decide) hD (Nat.le_of_ble_eq_true rfl) ?_
  intro p e s m below meth c C hr hlk hP hS ls hl
  exact w_X3_standInFor C hr hlk ⟨Nat.le_of_ble_eq_true rfl, Nat.le_of_ble_eq_true rfl⟩ hf hP hS hl

set_option maxRecDepth 100000 in
set_option maxHeartbeats 4000000 in
theorem w_X3_workHour_121 (C : CX p m c cX3_workHour 6 s args RX3 D (TYX cs) (WX ad cs) (AX ad)) (hr : meth.sig.returnType = none) (hlk : meth.locks = false) (hR : 2 ≤ R.frames ∧ 52 ≤ R.locals) {σ : Sg} {x1 : Int32} {x2 : Int32} {x3 : Int32} {x5 : Int32} {res : Sg} {ag7 : Int32 → Sg → Option (Sg)} (hag7 : ∀ (x3 : Int32) (σ : Sg) (H : Heap) (locs : List Loc) (ls : Array Slot), ag7 x3 σ = some res → va_P D vwCl (WX ad cs σ) H → va_S (AX ad) s.heap H locs → lv_has ls 6 [(0, .ref (ad 19)), (1, .int x1), (2, .int x2), (3, .int x3)] → W p l e R s m args below meth c H locs 0 0 (MQ below (QV D (TYX cs) (WX ad cs) (AX ad) res) args s 0 0 (AX ad)) (F0 m 7 ls [])) (hf : f_X3_workHour_121 ag7 σ x1 x2 x3 x5 = some res) {H : Heap} {locs : List Loc} (hP : va_P D vwCl (WX ad cs σ) H) (hS : va_S (AX ad) s.heap H locs) {ls : Array Slot} (hl : lv_has ls 6 [(0, .ref (ad 19)), (1, .int x1), (2, .int x2), (3, .int x3), (5, .int x5)]) : W p l e R s m args below meth c H locs 0 0 (MQ below (QV D (TYX cs) (WX ad cs) (AX ad) res) args s 0 0 (AX ad)) (F0 m 121 ls []) := by
  have hx := C.1.1
  have hb := C.1.2.1
  unfold f_X3_workHour_121 at hf
  refine lv_aload_n hx hb dX3_workHour_121 rfl (lv_at hl 0 rfl) ?_
  refine gX3_1 C hP k_176 dX3_workHour_122 ?_
  refine lv_iload_n hx hb dX3_workHour_125 rfl (lv_at hl 3 rfl) ?_
  refine lv_iload hx hb dX3_workHour_126 (lv_at hl 4 rfl) ?_
  obtain ⟨h1, hf⟩ := zc hf
  refine astX C hP hS (n := 8) rfl h1 dX3_workHour_128 (fun H locs hP hS => ?_)
  refine lv_iinc (v := x3 + 1) (lv' := [(3, .int (x3 + 1)), (0, .ref (ad 19)), (1, .int x1), (2, .int x2), (5, .int x5)]) hx hb dX3_workHour_129 hl (k := 3) rfl rfl (by decide) rfl (fun ls hl => ?_)
  refine lv_goto (tgt := 7) hx hb dX3_workHour_132 (by decide) ?_
  exact hag7 _ _ _ _ _ hf hP hS (lv_sub hl [1, 2, 3, 0] rfl)
set_option maxRecDepth 100000 in
set_option maxHeartbeats 4000000 in
theorem w_X3_workHour_69 (C : CX p m c cX3_workHour 6 s args RX3 D (TYX cs) (WX ad cs) (AX ad)) (hr : meth.sig.returnType = none) (hlk : meth.locks = false) (hR : 2 ≤ R.frames ∧ 52 ≤ R.locals) {σ : Sg} {x1 : Int32} {x2 : Int32} {x3 : Int32} {x5 : Int32} {res : Sg} {ag7 : Int32 → Sg → Option (Sg)} (hag7 : ∀ (x3 : Int32) (σ : Sg) (H : Heap) (locs : List Loc) (ls : Array Slot), ag7 x3 σ = some res → va_P D vwCl (WX ad cs σ) H → va_S (AX ad) s.heap H locs → lv_has ls 6 [(0, .ref (ad 19)), (1, .int x1), (2, .int x2), (3, .int x3)] → W p l e R s m args below meth c H locs 0 0 (MQ below (QV D (TYX cs) (WX ad cs) (AX ad) res) args s 0 0 (AX ad)) (F0 m 7 ls [])) (hf : f_X3_workHour_69 ag7 σ x1 x2 x3 x5 = some res) {H : Heap} {locs : List Loc} (hP : va_P D vwCl (WX ad cs σ) H) (hS : va_S (AX ad) s.heap H locs) {ls : Array Slot} (hl : lv_has ls 6 [(0, .ref (ad 19)), (1, .int x1), (2, .int x2), (3, .int x3), (5, .int x5)]) : W p l e R s m args below meth c H locs 0 0 (MQ below (QV D (TYX cs) (WX ad cs) (AX ad) res) args s 0 0 (AX ad)) (F0 m 69 ls []) := by
  have hx := C.1.1
  have hb := C.1.2.1
  unfold f_X3_workHour_69 at hf
  refine lv_aload_n hx hb dX3_workHour_69 rfl (lv_at hl 0 rfl) ?_
  refine gX3_2 C hP k_177 dX3_workHour_70 ?_
  refine lv_iload_n hx hb dX3_workHour_73 rfl (lv_at hl 3 rfl) ?_
  refine lv_iconst (v := 0) hx hb dX3_workHour_74 (by decide) ?_
  obtain ⟨h1, hf⟩ := zc hf
  refine astX C hP hS (n := 8) rfl h1 dX3_workHour_75 (fun H locs hP hS => ?_)
  refine lv_goto (tgt := 121) hx hb dX3_workHour_76 (by decide) ?_
  exact w_X3_workHour_121 C hr hlk hR hag7 hf hP hS (lv_sub hl [0, 1, 2, 3, 4] rfl)
set_option maxRecDepth 100000 in
set_option maxHeartbeats 4000000 in
theorem w_X3_workHour_107 (C : CX p m c cX3_workHour 6 s args RX3 D (TYX cs) (WX ad cs) (AX ad)) (hr : meth.sig.returnType = none) (hlk : meth.locks = false) (hR : 2 ≤ R.frames ∧ 52 ≤ R.locals) {σ : Sg} {x1 : Int32} {x2 : Int32} {x3 : Int32} {x5 : Int32} {s0 : Int32} {s1 : Int32} {res : Sg} {ag7 : Int32 → Sg → Option (Sg)} (hag7 : ∀ (x3 : Int32) (σ : Sg) (H : Heap) (locs : List Loc) (ls : Array Slot), ag7 x3 σ = some res → va_P D vwCl (WX ad cs σ) H → va_S (AX ad) s.heap H locs → lv_has ls 6 [(0, .ref (ad 19)), (1, .int x1), (2, .int x2), (3, .int x3)] → W p l e R s m args below meth c H locs 0 0 (MQ below (QV D (TYX cs) (WX ad cs) (AX ad) res) args s 0 0 (AX ad)) (F0 m 7 ls [])) (hf : f_X3_workHour_107 ag7 σ x1 x2 x3 x5 s0 s1 = some res) {H : Heap} {locs : List Loc} (hP : va_P D vwCl (WX ad cs σ) H) (hS : va_S (AX ad) s.heap H locs) {ls : Array Slot} (hl : lv_has ls 6 [(0, .ref (ad 19)), (1, .int x1), (2, .int x2), (3, .int x3), (5, .int x5)]) : W p l e R s m args below meth c H locs 0 0 (MQ below (QV D (TYX cs) (WX ad cs) (AX ad) res) args s 0 0 (AX ad)) (F0 m 107 ls [.int s0, .int s1, .ref (ad 21)]) := by
  have hx := C.1.1
  have hb := C.1.2.1
  unfold f_X3_workHour_107 at hf
  obtain ⟨h1, hf⟩ := zc hf
  refine astX C hP hS (n := 8) rfl h1 dX3_workHour_107 (fun H locs hP hS => ?_)
  refine lv_aload_n hx hb dX3_workHour_108 rfl (lv_at hl 0 rfl) ?_
  refine lv_dup hx hb dX3_workHour_109 rfl ?_
  refine gX3_3 C hP k_178 dX3_workHour_110 ?_
  refine lv_iconst (v := 1) hx hb dX3_workHour_113 (by decide) ?_
  refine lv_iload hx hb dX3_workHour_114 (lv_at hl 4 rfl) ?_
  refine lv_ishl hx hb dX3_workHour_116 ?_
  refine lv_ior hx hb dX3_workHour_117 ?_
  refine pX3_3 C hP hS k_178 dX3_workHour_118 (fun H locs hP hS => ?_)
  exact w_X3_workHour_121 C hr hlk hR hag7 hf hP hS (lv_sub hl [0, 1, 2, 3, 4] rfl)
set_option maxRecDepth 100000 in
set_option maxHeartbeats 4000000 in
theorem w_X3_workHour_55 (C : CX p m c cX3_workHour 6 s args RX3 D (TYX cs) (WX ad cs) (AX ad)) (hr : meth.sig.returnType = none) (hlk : meth.locks = false) (hR : 2 ≤ R.frames ∧ 52 ≤ R.locals) {σ : Sg} {x1 : Int32} {x2 : Int32} {x3 : Int32} {x4 : Int32} {s0 : Int32} {res : Sg} {ag7 : Int32 → Sg → Option (Sg)} (hag7 : ∀ (x3 : Int32) (σ : Sg) (H : Heap) (locs : List Loc) (ls : Array Slot), ag7 x3 σ = some res → va_P D vwCl (WX ad cs σ) H → va_S (AX ad) s.heap H locs → lv_has ls 6 [(0, .ref (ad 19)), (1, .int x1), (2, .int x2), (3, .int x3)] → W p l e R s m args below meth c H locs 0 0 (MQ below (QV D (TYX cs) (WX ad cs) (AX ad) res) args s 0 0 (AX ad)) (F0 m 7 ls [])) (hf : f_X3_workHour_55 ag7 σ x1 x2 x3 x4 s0 = some res) {H : Heap} {locs : List Loc} (hP : va_P D vwCl (WX ad cs σ) H) (hS : va_S (AX ad) s.heap H locs) {ls : Array Slot} (hl : lv_has ls 6 [(0, .ref (ad 19)), (1, .int x1), (2, .int x2), (3, .int x3), (4, .int x4)]) : W p l e R s m args below meth c H locs 0 0 (MQ below (QV D (TYX cs) (WX ad cs) (AX ad) res) args s 0 0 (AX ad)) (F0 m 55 ls [.int s0]) := by
  have hx := C.1.1
  have hb := C.1.2.1
  unfold f_X3_workHour_55 at hf
  refine lv_istore (lv' := [(5, .int s0), (0, .ref (ad 19)), (1, .int x1), (2, .int x2), (3, .int x3), (4, .int x4)]) hx hb dX3_workHour_55 hl (by decide) rfl (fun ls hl => ?_)
  refine lv_iload hx hb dX3_workHour_57 (lv_at hl 5 rfl) ?_
  refine lv_if_ne (tgt := 69) hx hb dX3_workHour_59 (by decide) (fun c1 => ?_) (fun c1 => ?_)
  · replace hf := zf c1 hf
    exact w_X3_workHour_69 C hr hlk hR hag7 hf hP hS (lv_sub hl [1, 2, 3, 4, 0] rfl)
  · replace hf := zt c1 hf
    refine lv_iload hx hb dX3_workHour_62 (lv_at hl 0 rfl) ?_
    refine lv_bipush (v := (-9)) hx hb dX3_workHour_64 (by decide) ?_
    refine lv_icmp_ne (tgt := 79) hx hb dX3_workHour_66 (by decide) (fun c2 => ?_) (fun c2 => ?_)
    · replace hf := zf c2 hf
      refine lv_aload_n hx hb dX3_workHour_79 rfl (lv_at hl 1 rfl) ?_
      refine gX3_2 C hP k_177 dX3_workHour_80 ?_
      refine lv_iload_n hx hb dX3_workHour_83 rfl (lv_at hl 4 rfl) ?_
      refine lv_iload hx hb dX3_workHour_84 (lv_at hl 0 rfl) ?_
      refine lv_aload_n hx hb dX3_workHour_86 rfl (lv_at hl 1 rfl) ?_
      refine gX3_1 C hP k_176 dX3_workHour_87 ?_
      refine lv_iload_n hx hb dX3_workHour_90 rfl (lv_at hl 4 rfl) ?_
      obtain ⟨h3, hf⟩ := zc hf
      refine aldX C hP (n := 8) rfl h3 dX3_workHour_91 ?_
      refine lv_icmp_ne (tgt := 106) hx hb dX3_workHour_92 (by decide) (fun c4 => ?_) (fun c4 => ?_)
      · replace hf := zf c4 hf
        refine lv_iconst (v := 1) hx hb dX3_workHour_106 (by decide) ?_
        exact w_X3_workHour_107 C hr hlk hR hag7 hf hP hS (lv_sub hl [1, 2, 3, 4, 0] rfl)
      · replace hf := zt c4 hf
        refine lv_aload_n hx hb dX3_workHour_95 rfl (lv_at hl 1 rfl) ?_
        refine gX3_2 C hP k_177 dX3_workHour_96 ?_
        refine lv_iload_n hx hb dX3_workHour_99 rfl (lv_at hl 4 rfl) ?_
        refine aldX C hP (n := 8) rfl h3 dX3_workHour_100 ?_
        refine lv_iconst (v := 1) hx hb dX3_workHour_101 (by decide) ?_
        refine lv_iadd hx hb dX3_workHour_102 ?_
        refine lv_goto (tgt := 107) hx hb dX3_workHour_103 (by decide) ?_
        exact w_X3_workHour_107 C hr hlk hR hag7 hf hP hS (lv_sub hl [1, 2, 3, 4, 0] rfl)
    · replace hf := zt c2 hf
      exact w_X3_workHour_69 C hr hlk hR hag7 hf hP hS (lv_sub hl [1, 2, 3, 4, 0] rfl)
set_option maxRecDepth 100000 in
set_option maxHeartbeats 4000000 in
theorem w_X3_workHour_37 (C : CX p m c cX3_workHour 6 s args RX3 D (TYX cs) (WX ad cs) (AX ad)) (hr : meth.sig.returnType = none) (hlk : meth.locks = false) (hR : 2 ≤ R.frames ∧ 52 ≤ R.locals) {σ : Sg} {x1 : Int32} {x2 : Int32} {x3 : Int32} {s0 : Int32} {res : Sg} {ag7 : Int32 → Sg → Option (Sg)} (hag7 : ∀ (x3 : Int32) (σ : Sg) (H : Heap) (locs : List Loc) (ls : Array Slot), ag7 x3 σ = some res → va_P D vwCl (WX ad cs σ) H → va_S (AX ad) s.heap H locs → lv_has ls 6 [(0, .ref (ad 19)), (1, .int x1), (2, .int x2), (3, .int x3)] → W p l e R s m args below meth c H locs 0 0 (MQ below (QV D (TYX cs) (WX ad cs) (AX ad) res) args s 0 0 (AX ad)) (F0 m 7 ls [])) (hf : f_X3_workHour_37 ag7 σ x1 x2 x3 s0 = some res) {H : Heap} {locs : List Loc} (hP : va_P D vwCl (WX ad cs σ) H) (hS : va_S (AX ad) s.heap H locs) {ls : Array Slot} (hl : lv_has ls 6 [(0, .ref (ad 19)), (1, .int x1), (2, .int x2), (3, .int x3)]) : W p l e R s m args below meth c H locs 0 0 (MQ below (QV D (TYX cs) (WX ad cs) (AX ad) res) args s 0 0 (AX ad)) (F0 m 37 ls [.int s0]) := by
  have hx := C.1.1
  have hb := C.1.2.1
  unfold f_X3_workHour_37 at hf
  refine lv_istore (lv' := [(4, .int s0), (0, .ref (ad 19)), (1, .int x1), (2, .int x2), (3, .int x3)]) hx hb dX3_workHour_37 hl (by decide) rfl (fun ls hl => ?_)
  refine lv_iload hx hb dX3_workHour_39 (lv_at hl 0 rfl) ?_
  refine lv_if_eq (tgt := 48) hx hb dX3_workHour_41 (by decide) (fun c1 => ?_) (fun c1 => ?_)
  · replace hf := zt c1 hf
    refine lv_aload_n hx hb dX3_workHour_48 rfl (lv_at hl 1 rfl) ?_
    refine lv_iload_n hx hb dX3_workHour_49 rfl (lv_at hl 4 rfl) ?_
    refine lv_iload_n hx hb dX3_workHour_50 rfl (lv_at hl 2 rfl) ?_
    refine lv_iload_n hx hb dX3_workHour_51 rfl (lv_at hl 3 rfl) ?_
    obtain ⟨r3, hg2, hf⟩ := zb hf
    try dsimp only at hf
    refine q_calli C hS (q_runV C hP (c_X3_standInFor (l := l) C.2.2.1 hg2) (ci := 3) (As := [.int x3, .int x1, .int x2]) (rest := []) ⟨gd_V k_401 k_403 k_2 k_49 k_404, ⟨rfl, rfl⟩, kd_X3_standInFor, ⟨Nat.le_trans (Nat.le_of_ble_eq_true rfl) hR.1, Nat.le_trans (Nat.le_of_ble_eq_true rfl) hR.2⟩⟩ (o := 19) rfl rfl rfl rfl rfl (Nat.le_of_ble_eq_true rfl) hl.1 dX3_workHour_52) (fun H locs hP hS => ?_)
    exact w_X3_workHour_55 C hr hlk hR hag7 hf hP hS (lv_sub hl [1, 2, 3, 4, 0] rfl)
  · replace hf := zf c1 hf
    refine lv_iload_n hx hb dX3_workHour_44 rfl (lv_at hl 4 rfl) ?_
    refine lv_goto (tgt := 55) hx hb dX3_workHour_45 (by decide) ?_
    exact w_X3_workHour_55 C hr hlk hR hag7 hf hP hS (lv_sub hl [1, 2, 3, 4, 0] rfl)
set_option maxRecDepth 100000 in
set_option maxHeartbeats 4000000 in
theorem w_X3_workHour_7 (C : CX p m c cX3_workHour 6 s args RX3 D (TYX cs) (WX ad cs) (AX ad)) (hr : meth.sig.returnType = none) (hlk : meth.locks = false) (hR : 2 ≤ R.frames ∧ 52 ≤ R.locals) {σ : Sg} {x1 : Int32} {x2 : Int32} {x3 : Int32} {res : Sg} {ag7 : Int32 → Sg → Option (Sg)} (hag7 : ∀ (x3 : Int32) (σ : Sg) (H : Heap) (locs : List Loc) (ls : Array Slot), ag7 x3 σ = some res → va_P D vwCl (WX ad cs σ) H → va_S (AX ad) s.heap H locs → lv_has ls 6 [(0, .ref (ad 19)), (1, .int x1), (2, .int x2), (3, .int x3)] → W p l e R s m args below meth c H locs 0 0 (MQ below (QV D (TYX cs) (WX ad cs) (AX ad) res) args s 0 0 (AX ad)) (F0 m 7 ls [])) (hf : f_X3_workHour_7 ag7 σ x1 x2 x3 = some res) {H : Heap} {locs : List Loc} (hP : va_P D vwCl (WX ad cs σ) H) (hS : va_S (AX ad) s.heap H locs) {ls : Array Slot} (hl : lv_has ls 6 [(0, .ref (ad 19)), (1, .int x1), (2, .int x2), (3, .int x3)]) : W p l e R s m args below meth c H locs 0 0 (MQ below (QV D (TYX cs) (WX ad cs) (AX ad) res) args s 0 0 (AX ad)) (F0 m 7 ls []) := by
  have hx := C.1.1
  have hb := C.1.2.1
  unfold f_X3_workHour_7 at hf
  refine lv_iload_n hx hb dX3_workHour_7 rfl (lv_at hl 3 rfl) ?_
  refine lv_aload_n hx hb dX3_workHour_8 rfl (lv_at hl 0 rfl) ?_
  refine gX3_0 C hP k_175 dX3_workHour_9 ?_
  refine gX7_1N C hP k_119 dX3_workHour_12 ?_
  refine lv_icmp_ge (tgt := 135) hx hb dX3_workHour_15 (by decide) (fun c1 => ?_) (fun c1 => ?_)
  · replace hf := zt c1 hf
    exact q_vret C hr hlk hP hS (Option.some.inj hf) dX3_workHour_135
  · replace hf := zf c1 hf
    refine lv_iload_n hx hb dX3_workHour_18 rfl (lv_at hl 3 rfl) ?_
    refine lv_bipush (v := 8) hx hb dX3_workHour_19 (by decide) ?_
    refine lv_icmp_ge (tgt := 135) hx hb dX3_workHour_21 (by decide) (fun c2 => ?_) (fun c2 => ?_)
    · replace hf := zt c2 hf
      exact q_vret C hr hlk hP hS (Option.some.inj hf) dX3_workHour_135
    · replace hf := zf c2 hf
      refine lv_iload_n hx hb dX3_workHour_24 rfl (lv_at hl 2 rfl) ?_
      refine lv_iload_n hx hb dX3_workHour_25 rfl (lv_at hl 3 rfl) ?_
      refine lv_ishr hx hb dX3_workHour_26 ?_
      refine lv_iconst (v := 1) hx hb dX3_workHour_27 (by decide) ?_
      refine lv_iand hx hb dX3_workHour_28 ?_
      refine lv_if_ne (tgt := 36) hx hb dX3_workHour_29 (by decide) (fun c3 => ?_) (fun c3 => ?_)
      · replace hf := zf c3 hf
        refine lv_iconst (v := 0) hx hb dX3_workHour_36 (by decide) ?_
        exact w_X3_workHour_37 C hr hlk hR hag7 hf hP hS (lv_sub hl [0, 1, 2, 3] rfl)
      · replace hf := zt c3 hf
        refine lv_iconst (v := 1) hx hb dX3_workHour_32 (by decide) ?_
        refine lv_goto (tgt := 37) hx hb dX3_workHour_33 (by decide) ?_
        exact w_X3_workHour_37 C hr hlk hR hag7 hf hP hS (lv_sub hl [0, 1, 2, 3] rfl)
set_option maxRecDepth 100000 in
set_option maxHeartbeats 4000000 in
theorem wl_X3_workHour_7 (C : CX p m c cX3_workHour 6 s args RX3 D (TYX cs) (WX ad cs) (AX ad)) (hr : meth.sig.returnType = none) (hlk : meth.locks = false) (hR : 2 ≤ R.frames ∧ 52 ≤ R.locals) {x1 : Int32} {x2 : Int32} {res : Sg} : ∀ n : Nat, ∀ (x3 : Int32) (σ : Sg) (H : Heap) (locs : List Loc) (ls : Array Slot), l_X3_workHour_7 x1 x2 n x3 σ = some res → va_P D vwCl (WX ad cs σ) H → va_S (AX ad) s.heap H locs → lv_has ls 6 [(0, .ref (ad 19)), (1, .int x1), (2, .int x2), (3, .int x3)] → W p l e R s m args below meth c H locs 0 0 (MQ below (QV D (TYX cs) (WX ad cs) (AX ad) res) args s 0 0 (AX ad)) (F0 m 7 ls []) := by
  intro n
  induction n with
  | zero => intro x3 σ H locs ls hf; cases hf
  | succ n ih =>
    intro x3 σ H locs ls hf hP hS hl
    exact w_X3_workHour_7 C hr hlk hR (ag7 := l_X3_workHour_7 x1 x2 n) ih hf hP hS hl
set_option maxRecDepth 100000 in
set_option maxHeartbeats 4000000 in
theorem w_X3_workHour (C : CX p m c cX3_workHour 6 s args RX3 D (TYX cs) (WX ad cs) (AX ad)) (hr : meth.sig.returnType = none) (hlk : meth.locks = false) (hR : 2 ≤ R.frames ∧ 52 ≤ R.locals) {σ : Sg} {x1 : Int32} {x2 : Int32} {res : Sg} (hf : f_X3_workHour σ x1 x2 = some res) {H : Heap} {locs : List Loc} (hP : va_P D vwCl (WX ad cs σ) H) (hS : va_S (AX ad) s.heap H locs) {ls : Array Slot} (hl : lv_has ls 6 [(0, .ref (ad 19)), (1, .int x1), (2, .int x2)]) : W p l e R s m args below meth c H locs 0 0 (MQ below (QV D (TYX cs) (WX ad cs) (AX ad) res) args s 0 0 (AX ad)) (F0 m 0 ls []) := by
  have hx := C.1.1
  have hb := C.1.2.1
  unfold f_X3_workHour at hf
  refine lv_aload_n hx hb dX3_workHour_0 rfl (lv_at hl 0 rfl) ?_
  refine lv_iconst (v := 0) hx hb dX3_workHour_1 (by decide) ?_
  refine pX3_3 C hP hS k_178 dX3_workHour_2 (fun H locs hP hS => ?_)
  refine lv_iconst (v := 0) hx hb dX3_workHour_5 (by decide) ?_
  refine lv_istore_n (lv' := [(3, .int 0), (0, .ref (ad 19)), (1, .int x1), (2, .int x2)]) hx hb dX3_workHour_6 rfl hl (by decide) rfl (fun ls hl => ?_)
  exact wl_X3_workHour_7 C hr hlk hR fu _ _ _ _ _ hf hP hS (lv_sub hl [1, 2, 3, 0] rfl)
theorem kd_X3_workHour : yX3_workHour.cls = RX3 ∧ yX3_workHour.cls ≠ "java/lang/invoke/MethodHandle" ∧ yX3_workHour.cls ≠ "java/lang/invoke/VarHandle" ∧ (parseMethodDescriptor yX3_workHour.desc).map (fun d => d.parameters.length) = some 2 := by decide +kernel
def r_X3_workHour : Room := { frames := 2, cells := 0, slots := 0, locals := 52 }
set_option maxRecDepth 100000 in
set_option maxHeartbeats 4000000 in
theorem c_X3_workHour {l : Launch} {D : va_G} {ad : Nat → Nat} {cs : Nat → ClassId} (hD : ∀ σ, va_D (AX ad) (WX ad cs σ)) {σ : Sg} {x1 : Int32} {x2 : Int32} {res : Sg} (hf : f_X3_workHour σ x1 x2 = some res) : Met l yX3_workHour (wm yX3_workHour cX3_workHour 6 none) r_X3_workHour (va_Pc [.ref (ad 19), .int x1, .int x2] (BW D (TYX cs) (WX ad cs) σ)) (QV D (TYX cs) (WX ad cs) (AX ad) res) 0 0 (AX ad) := by
  refine q_enter (by decide) hD (Nat.le_of_ble_eq_true rfl) ?_
  intro p e s m below meth c C hr hlk hP hS ls hl
  exact w_X3_workHour C hr hlk ⟨Nat.le_of_ble_eq_true rfl, Nat.le_of_ble_eq_true rfl⟩ hf hP hS hl

end

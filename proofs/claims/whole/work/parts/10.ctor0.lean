def r_X6_init : Room := { frames := 1, cells := 0, slots := 0, locals := 20 }
set_option maxRecDepth 100000 in
set_option maxHeartbeats 16000000 in
theorem c_X6_init (l : Launch) (D : va_G) (h0 sz : Nat) (p1 : Int32) : Met l yX6_init (wm yX6_init cX6_init 2 none) r_X6_init (va_Pc [.ref h0, .int p1] (fun U => U.heap.size = sz ∧ va_P D vwCl [(h0, .inr (5, [.int 0, .int 0, .int 0, .int 0, .int 0, .int 0]))] U.heap ∧ va_K D vwCl [] U ∧ va_D (fun _ => True) [(h0, .inr (5, [.int 0, .int 0, .int 0, .int 0, .int 0, .int 0]))] ∧ NW U)) (va_Qv (fun _ : Unit => True) (fun _ U => va_P D vwCl [(h0, .inr (5, [.int p1, .int 0, .int 0, .int 0, .int 0, .int 0]))] U.heap ∧ va_K D vwCl [] U ∧ va_D (va_A [(h0, .inr (5, [.int 0, .int 0, .int 0, .int 0, .int 0, .int 0]))] sz) [(h0, .inr (5, [.int p1, .int 0, .int 0, .int 0, .int 0, .int 0]))]) (va_A [(h0, .inr (5, [.int 0, .int 0, .int 0, .int 0, .int 0, .int 0]))] sz)) 0 0 (va_A [(h0, .inr (5, [.int 0, .int 0, .int 0, .int 0, .int 0, .int 0]))] sz) := by
  refine Met.ofW (cc := cX6_init) (maxL := 2) (ret := none) (by decide) rfl ?_
  intro p e s m args below meth c s₁ B hml hv
  obtain ⟨rfl, hsz, hP, hK, hD0, hN⟩ := hv
  have hx := B.exec
  have hb := B.bytes
  have hr := B.returns
  have hts0 := atoms_spec (ws := wm yX6_init cX6_init 2 none) B.pre
  have hts : ∀ w ∈ lw_tg, w.before ([.ref h0, .int p1] : List Value).toArray s = true := fun w h => hts0 w (List.mem_cons_of_mem _ h)
  have hown : s.vm.findClass RX6 = some m.cls := findClass_of_methodNamed B.named
  have hlocks := B.notSynchronized
  have hin : meth.name = "<init>" := (name_of_methodNamed B.named B.method).1
  subst hsz
  have hD := hD0.self (sz := s.heap.size)
  generalize hAe : va_A [(h0, .inr (5, [.int 0, .int 0, .int 0, .int 0, .int 0, .int 0]))] s.heap.size = A at hD ⊢
  have hA : ∀ q : Nat, s.heap.size ≤ q → A q := fun q h => by rw [← hAe]; exact Or.inr h
  have hS : va_S A s.heap s.heap [] := va_S.rf
  have hP : va_P D vwCl [(h0, .inr (5, [.int 0, .int 0, .int 0, .int 0, .int 0, .int 0]))] s.heap := hP
  have hl := lv_entry ([.ref h0, .int p1]) (n := 2) (Nat.le_of_ble_eq_true rfl)
  rw [lg_entry_eq]
  generalize (lg_sl ([.ref h0, .int p1]) ++ List.replicate (2 - (lg_sl ([.ref h0, .int p1])).length) Slot.unset).toArray = ls at hl ⊢
  have hl : lv_has ls 2 [(0, .ref h0), (1, .int p1)] := hl
  refine lv_aload_n hx hb dX6_init_0 rfl (lv_at hl 0 rfl) ?_
  refine W.objInit hx hb hown (hts _ k_81) (hts _ k_65) (hts _ k_66) rfl (by rw [hml]; exact hl.1) rfl dX6_init_1 (Nat.le_of_ble_eq_true rfl) (Nat.le_of_ble_eq_true rfl) ?_
  refine W.eq (g2 := F0 m 4 ls []) rfl ?_
  refine lv_aload_n hx hb dX6_init_4 rfl (lv_at hl 0 rfl) ?_
  refine lv_iconst (v := 0) hx hb dX6_init_5 (by decide) ?_
  refine va_put (D := D) (ci := 5) (v := .int 0) (ty := .int) (C := RX6) (T := TX6) (N := 6) hx hb hts inX6 tyX6 tyX6_ok nmX6 hown hK hP hD hS 0 rfl rfl 1 (by decide) (hts _ k_85) (fun _ h9 => h9) rfl (by decide +kernel) rfl rfl (Nat.le_of_ble_eq_true rfl) dX6_init_6 (fun H locs hP hD hS => ?_)
  have hP : va_P D vwCl [(h0, .inr (5, [.int 0, .int 0, .int 0, .int 0, .int 0, .int 0]))] H := hP
  have hD : va_D A [(h0, .inr (5, [.int 0, .int 0, .int 0, .int 0, .int 0, .int 0]))] := hD
  refine lv_aload_n hx hb dX6_init_9 rfl (lv_at hl 0 rfl) ?_
  refine lv_iconst (v := 0) hx hb dX6_init_10 (by decide) ?_
  refine va_put (D := D) (ci := 5) (v := .int 0) (ty := .int) (C := RX6) (T := TX6) (N := 6) hx hb hts inX6 tyX6 tyX6_ok nmX6 hown hK hP hD hS 0 rfl rfl 2 (by decide) (hts _ k_88) (fun _ h9 => h9) rfl (by decide +kernel) rfl rfl (Nat.le_of_ble_eq_true rfl) dX6_init_11 (fun H locs hP hD hS => ?_)
  have hP : va_P D vwCl [(h0, .inr (5, [.int 0, .int 0, .int 0, .int 0, .int 0, .int 0]))] H := hP
  have hD : va_D A [(h0, .inr (5, [.int 0, .int 0, .int 0, .int 0, .int 0, .int 0]))] := hD
  refine lv_aload_n hx hb dX6_init_14 rfl (lv_at hl 0 rfl) ?_
  refine lv_iconst (v := 0) hx hb dX6_init_15 (by decide) ?_
  refine va_put (D := D) (ci := 5) (v := .int 0) (ty := .int) (C := RX6) (T := TX6) (N := 6) hx hb hts inX6 tyX6 tyX6_ok nmX6 hown hK hP hD hS 0 rfl rfl 3 (by decide) (hts _ k_93) (fun _ h9 => h9) rfl (by decide +kernel) rfl rfl (Nat.le_of_ble_eq_true rfl) dX6_init_16 (fun H locs hP hD hS => ?_)
  have hP : va_P D vwCl [(h0, .inr (5, [.int 0, .int 0, .int 0, .int 0, .int 0, .int 0]))] H := hP
  have hD : va_D A [(h0, .inr (5, [.int 0, .int 0, .int 0, .int 0, .int 0, .int 0]))] := hD
  refine lv_aload_n hx hb dX6_init_19 rfl (lv_at hl 0 rfl) ?_
  refine lv_iconst (v := 0) hx hb dX6_init_20 (by decide) ?_
  refine va_put (D := D) (ci := 5) (v := .int 0) (ty := .int) (C := RX6) (T := TX6) (N := 6) hx hb hts inX6 tyX6 tyX6_ok nmX6 hown hK hP hD hS 0 rfl rfl 4 (by decide) (hts _ k_96) (fun _ h9 => h9) rfl (by decide +kernel) rfl rfl (Nat.le_of_ble_eq_true rfl) dX6_init_21 (fun H locs hP hD hS => ?_)
  have hP : va_P D vwCl [(h0, .inr (5, [.int 0, .int 0, .int 0, .int 0, .int 0, .int 0]))] H := hP
  have hD : va_D A [(h0, .inr (5, [.int 0, .int 0, .int 0, .int 0, .int 0, .int 0]))] := hD
  refine lv_aload_n hx hb dX6_init_24 rfl (lv_at hl 0 rfl) ?_
  refine lv_iconst (v := 0) hx hb dX6_init_25 (by decide) ?_
  refine va_put (D := D) (ci := 5) (v := .int 0) (ty := .int) (C := RX6) (T := TX6) (N := 6) hx hb hts inX6 tyX6 tyX6_ok nmX6 hown hK hP hD hS 0 rfl rfl 5 (by decide) (hts _ k_99) (fun _ h9 => h9) rfl (by decide +kernel) rfl rfl (Nat.le_of_ble_eq_true rfl) dX6_init_26 (fun H locs hP hD hS => ?_)
  have hP : va_P D vwCl [(h0, .inr (5, [.int 0, .int 0, .int 0, .int 0, .int 0, .int 0]))] H := hP
  have hD : va_D A [(h0, .inr (5, [.int 0, .int 0, .int 0, .int 0, .int 0, .int 0]))] := hD
  refine lv_aload_n hx hb dX6_init_29 rfl (lv_at hl 0 rfl) ?_
  refine lv_iload_n hx hb dX6_init_30 rfl (lv_at hl 1 rfl) ?_
  refine va_putF (D := D) (ci := 5) (v := .int p1) (ty := .int) (C := RX6) (T := TX6) (N := 6) hx hb hts inX6 tyX6 tyX6_ok nmX6 hown hK hP hD hS 0 rfl rfl 0 (by decide) (hts _ k_82) (fun _ h9 => h9) rfl hin rfl (by decide +kernel) rfl rfl (Nat.le_of_ble_eq_true rfl) dX6_init_31 (fun H locs hP hD hS => ?_)
  have hP : va_P D vwCl [(h0, .inr (5, [.int p1, .int 0, .int 0, .int 0, .int 0, .int 0]))] H := hP
  have hD : va_D A [(h0, .inr (5, [.int p1, .int 0, .int 0, .int 0, .int 0, .int 0]))] := hD
  exact W.vret hx hb hr (fun t ht hW => ⟨⟨(), rfl, trivial, by rw [ht]; exact hP, va_K.moved hW.alike hK, hD⟩, hS.F ht⟩) hS.2.2 dX6_init_34

def r_X1_init : Room := { frames := 1, cells := 3, slots := 24, locals := 20 }
set_option maxRecDepth 100000 in
set_option maxHeartbeats 16000000 in
theorem c_X1_init (l : Launch) (D : va_G) (h0 sz : Nat)  : Met l yX1_init (wm yX1_init cX1_init 1 none) r_X1_init (va_Pc [.ref h0] (fun U => U.heap.size = sz ∧ va_P D vwCl [(h0, .inr (1, [.null, .null, .null, .int 0]))] U.heap ∧ va_K D vwCl [] U ∧ va_D (fun _ => True) [(h0, .inr (1, [.null, .null, .null, .int 0]))] ∧ NW U)) (va_Qv (fun _ : Unit => True) (fun _ U => ∃ (q1 : Nat) (q3 : Nat) (q5 : Nat), ∃ (c2 : ClassId) (c4 : ClassId) (c6 : ClassId), va_P D vwCl [(h0, .inr (1, [.ref q1, .ref q3, .ref q5, .int 0])), (q1, .inl (c2, 8, .inl (fun _ => 0))), (q3, .inl (c4, 8, .inl (fun _ => 0))), (q5, .inl (c6, 8, .inl (fun _ => 0)))] U.heap ∧ va_K D vwCl [(c2, .int), (c4, .int), (c6, .int)] U ∧ va_D (va_A [(h0, .inr (1, [.null, .null, .null, .int 0]))] sz) [(h0, .inr (1, [.ref q1, .ref q3, .ref q5, .int 0])), (q1, .inl (c2, 8, .inl (fun _ => 0))), (q3, .inl (c4, 8, .inl (fun _ => 0))), (q5, .inl (c6, 8, .inl (fun _ => 0)))]) (va_A [(h0, .inr (1, [.null, .null, .null, .int 0]))] sz)) 3 24 (va_A [(h0, .inr (1, [.null, .null, .null, .int 0]))] sz) := by
  refine Met.ofW (cc := cX1_init) (maxL := 1) (ret := none) (by decide) rfl ?_
  intro p e s m args below meth c s₁ B hml hv
  obtain ⟨rfl, hsz, hP, hK, hD0, hN⟩ := hv
  have hx := B.exec
  have hb := B.bytes
  have hr := B.returns
  have hts0 := atoms_spec (ws := wm yX1_init cX1_init 1 none) B.pre
  have hts : ∀ w ∈ lw_tg, w.before ([.ref h0] : List Value).toArray s = true := fun w h => hts0 w (List.mem_cons_of_mem _ h)
  have hown : s.vm.findClass RX1 = some m.cls := findClass_of_methodNamed B.named
  have hlocks := B.notSynchronized
  have hin : meth.name = "<init>" := (name_of_methodNamed B.named B.method).1
  subst hsz
  have hD := hD0.self (sz := s.heap.size)
  generalize hAe : va_A [(h0, .inr (1, [.null, .null, .null, .int 0]))] s.heap.size = A at hD ⊢
  have hA : ∀ q : Nat, s.heap.size ≤ q → A q := fun q h => by rw [← hAe]; exact Or.inr h
  have hS : va_S A s.heap s.heap [] := va_S.rf
  have hP : va_P D vwCl [(h0, .inr (1, [.null, .null, .null, .int 0]))] s.heap := hP
  have hl := lv_entry ([.ref h0]) (n := 1) (Nat.le_of_ble_eq_true rfl)
  rw [lg_entry_eq]
  generalize (lg_sl ([.ref h0]) ++ List.replicate (1 - (lg_sl ([.ref h0])).length) Slot.unset).toArray = ls at hl ⊢
  have hl : lv_has ls 1 [(0, .ref h0)] := hl
  refine lv_aload_n hx hb dX1_init_0 rfl (lv_at hl 0 rfl) ?_
  refine W.objInit hx hb hown (hts _ k_136) (hts _ k_65) (hts _ k_66) rfl (by rw [hml]; exact hl.1) rfl dX1_init_1 (Nat.le_of_ble_eq_true rfl) (Nat.le_of_ble_eq_true rfl) ?_
  refine W.eq (g2 := F0 m 4 ls []) rfl ?_
  refine lv_aload_n hx hb dX1_init_4 rfl (lv_at hl 0 rfl) ?_
  refine lv_bipush (v := 8) hx hb dX1_init_5 (by decide) ?_
  refine va_newa (atype := .int) (ty := .int) (N' := 8) (a0 := (8, .inl (fun _ => 0))) hx hb (hts _ k_151) rfl hK hP hD hS hA (fun _ => rfl) (by decide) (by decide) (Nat.le_of_ble_eq_true rfl) (Nat.le_of_ble_eq_true rfl) (Nat.le_of_ble_eq_true rfl) dX1_init_7 (fun q1 c2 H hK hP hD hS => ?_)
  have hP : va_P D vwCl [(h0, .inr (1, [.null, .null, .null, .int 0])), (q1, .inl (c2, 8, .inl (fun _ => 0)))] H := hP
  have hD : va_D A [(h0, .inr (1, [.null, .null, .null, .int 0])), (q1, .inl (c2, 8, .inl (fun _ => 0)))] := hD
  have hK : va_K D vwCl [(c2, .int)] s := hK
  refine W.widen (k := 1) (n := 8) (Nat.le_of_ble_eq_true rfl) (Nat.le_of_ble_eq_true rfl) ?_
  refine va_putF (D := D) (ci := 1) (v := .ref q1) (ty := (.array .int)) (C := RX1) (T := TX1) (N := 4) hx hb hts inX1 tyX1 tyX1_ok nmX1 hown hK hP hD hS 0 rfl rfl 0 (by decide) (hts _ k_137) (fun _ h9 => h9) rfl hin rfl (by decide +kernel) rfl rfl (Nat.le_of_ble_eq_true rfl) dX1_init_9 (fun H locs hP hD hS => ?_)
  have hP : va_P D vwCl [(h0, .inr (1, [.ref q1, .null, .null, .int 0])), (q1, .inl (c2, 8, .inl (fun _ => 0)))] H := hP
  have hD : va_D A [(h0, .inr (1, [.ref q1, .null, .null, .int 0])), (q1, .inl (c2, 8, .inl (fun _ => 0)))] := hD
  refine lv_aload_n hx hb dX1_init_12 rfl (lv_at hl 0 rfl) ?_
  refine lv_bipush (v := 8) hx hb dX1_init_13 (by decide) ?_
  refine va_newa (atype := .int) (ty := .int) (N' := 8) (a0 := (8, .inl (fun _ => 0))) hx hb (hts _ k_151) rfl hK hP hD hS hA (fun _ => rfl) (by decide) (by decide) (Nat.le_of_ble_eq_true rfl) (Nat.le_of_ble_eq_true rfl) (Nat.le_of_ble_eq_true rfl) dX1_init_15 (fun q3 c4 H hK hP hD hS => ?_)
  have hP : va_P D vwCl [(h0, .inr (1, [.ref q1, .null, .null, .int 0])), (q1, .inl (c2, 8, .inl (fun _ => 0))), (q3, .inl (c4, 8, .inl (fun _ => 0)))] H := hP
  have hD : va_D A [(h0, .inr (1, [.ref q1, .null, .null, .int 0])), (q1, .inl (c2, 8, .inl (fun _ => 0))), (q3, .inl (c4, 8, .inl (fun _ => 0)))] := hD
  have hK : va_K D vwCl [(c2, .int), (c4, .int)] s := hK
  refine W.widen (k := 2) (n := 16) (Nat.le_of_ble_eq_true rfl) (Nat.le_of_ble_eq_true rfl) ?_
  refine va_putF (D := D) (ci := 1) (v := .ref q3) (ty := (.array .int)) (C := RX1) (T := TX1) (N := 4) hx hb hts inX1 tyX1 tyX1_ok nmX1 hown hK hP hD hS 0 rfl rfl 1 (by decide) (hts _ k_138) (fun _ h9 => h9) rfl hin rfl (by decide +kernel) rfl rfl (Nat.le_of_ble_eq_true rfl) dX1_init_17 (fun H locs hP hD hS => ?_)
  have hP : va_P D vwCl [(h0, .inr (1, [.ref q1, .ref q3, .null, .int 0])), (q1, .inl (c2, 8, .inl (fun _ => 0))), (q3, .inl (c4, 8, .inl (fun _ => 0)))] H := hP
  have hD : va_D A [(h0, .inr (1, [.ref q1, .ref q3, .null, .int 0])), (q1, .inl (c2, 8, .inl (fun _ => 0))), (q3, .inl (c4, 8, .inl (fun _ => 0)))] := hD
  refine lv_aload_n hx hb dX1_init_20 rfl (lv_at hl 0 rfl) ?_
  refine lv_bipush (v := 8) hx hb dX1_init_21 (by decide) ?_
  refine va_newa (atype := .int) (ty := .int) (N' := 8) (a0 := (8, .inl (fun _ => 0))) hx hb (hts _ k_151) rfl hK hP hD hS hA (fun _ => rfl) (by decide) (by decide) (Nat.le_of_ble_eq_true rfl) (Nat.le_of_ble_eq_true rfl) (Nat.le_of_ble_eq_true rfl) dX1_init_23 (fun q5 c6 H hK hP hD hS => ?_)
  have hP : va_P D vwCl [(h0, .inr (1, [.ref q1, .ref q3, .null, .int 0])), (q1, .inl (c2, 8, .inl (fun _ => 0))), (q3, .inl (c4, 8, .inl (fun _ => 0))), (q5, .inl (c6, 8, .inl (fun _ => 0)))] H := hP
  have hD : va_D A [(h0, .inr (1, [.ref q1, .ref q3, .null, .int 0])), (q1, .inl (c2, 8, .inl (fun _ => 0))), (q3, .inl (c4, 8, .inl (fun _ => 0))), (q5, .inl (c6, 8, .inl (fun _ => 0)))] := hD
  have hK : va_K D vwCl [(c2, .int), (c4, .int), (c6, .int)] s := hK
  refine W.widen (k := 3) (n := 24) (Nat.le_of_ble_eq_true rfl) (Nat.le_of_ble_eq_true rfl) ?_
  refine va_putF (D := D) (ci := 1) (v := .ref q5) (ty := (.array .int)) (C := RX1) (T := TX1) (N := 4) hx hb hts inX1 tyX1 tyX1_ok nmX1 hown hK hP hD hS 0 rfl rfl 2 (by decide) (hts _ k_139) (fun _ h9 => h9) rfl hin rfl (by decide +kernel) rfl rfl (Nat.le_of_ble_eq_true rfl) dX1_init_25 (fun H locs hP hD hS => ?_)
  have hP : va_P D vwCl [(h0, .inr (1, [.ref q1, .ref q3, .ref q5, .int 0])), (q1, .inl (c2, 8, .inl (fun _ => 0))), (q3, .inl (c4, 8, .inl (fun _ => 0))), (q5, .inl (c6, 8, .inl (fun _ => 0)))] H := hP
  have hD : va_D A [(h0, .inr (1, [.ref q1, .ref q3, .ref q5, .int 0])), (q1, .inl (c2, 8, .inl (fun _ => 0))), (q3, .inl (c4, 8, .inl (fun _ => 0))), (q5, .inl (c6, 8, .inl (fun _ => 0)))] := hD
  refine lv_aload_n hx hb dX1_init_28 rfl (lv_at hl 0 rfl) ?_
  refine lv_iconst (v := 0) hx hb dX1_init_29 (by decide) ?_
  refine va_put (D := D) (ci := 1) (v := .int 0) (ty := .int) (C := RX1) (T := TX1) (N := 4) hx hb hts inX1 tyX1 tyX1_ok nmX1 hown hK hP hD hS 0 rfl rfl 3 (by decide) (hts _ k_140) (fun _ h9 => h9) rfl (by decide +kernel) rfl rfl (Nat.le_of_ble_eq_true rfl) dX1_init_30 (fun H locs hP hD hS => ?_)
  have hP : va_P D vwCl [(h0, .inr (1, [.ref q1, .ref q3, .ref q5, .int 0])), (q1, .inl (c2, 8, .inl (fun _ => 0))), (q3, .inl (c4, 8, .inl (fun _ => 0))), (q5, .inl (c6, 8, .inl (fun _ => 0)))] H := hP
  have hD : va_D A [(h0, .inr (1, [.ref q1, .ref q3, .ref q5, .int 0])), (q1, .inl (c2, 8, .inl (fun _ => 0))), (q3, .inl (c4, 8, .inl (fun _ => 0))), (q5, .inl (c6, 8, .inl (fun _ => 0)))] := hD
  exact W.vret hx hb hr (fun t ht hW => ⟨⟨(), rfl, trivial, q1, q3, q5, c2, c4, c6, by rw [ht]; exact hP, va_K.moved hW.alike hK, hD⟩, hS.F ht⟩) hS.2.2 dX1_init_33

def r_X2_init : Room := { frames := 1, cells := 2, slots := 16, locals := 20 }
set_option maxRecDepth 100000 in
set_option maxHeartbeats 16000000 in
theorem c_X2_init (l : Launch) (D : va_G) (h0 sz : Nat)  : Met l yX2_init (wm yX2_init cX2_init 1 none) r_X2_init (va_Pc [.ref h0] (fun U => U.heap.size = sz ∧ va_P D vwCl [(h0, .inr (2, [.null, .null, .int 0]))] U.heap ∧ va_K D vwCl [] U ∧ va_D (fun _ => True) [(h0, .inr (2, [.null, .null, .int 0]))] ∧ NW U)) (va_Qv (fun _ : Unit => True) (fun _ U => ∃ (q1 : Nat) (q3 : Nat), ∃ (c2 : ClassId) (c4 : ClassId), va_P D vwCl [(h0, .inr (2, [.ref q1, .ref q3, .int 0])), (q1, .inl (c2, 8, .inl (fun _ => 0))), (q3, .inl (c4, 8, .inl (fun _ => 0)))] U.heap ∧ va_K D vwCl [(c2, .int), (c4, .int)] U ∧ va_D (va_A [(h0, .inr (2, [.null, .null, .int 0]))] sz) [(h0, .inr (2, [.ref q1, .ref q3, .int 0])), (q1, .inl (c2, 8, .inl (fun _ => 0))), (q3, .inl (c4, 8, .inl (fun _ => 0)))]) (va_A [(h0, .inr (2, [.null, .null, .int 0]))] sz)) 2 16 (va_A [(h0, .inr (2, [.null, .null, .int 0]))] sz) := by
  refine Met.ofW (cc := cX2_init) (maxL := 1) (ret := none) (by decide) rfl ?_
  intro p e s m args below meth c s₁ B hml hv
  obtain ⟨rfl, hsz, hP, hK, hD0, hN⟩ := hv
  have hx := B.exec
  have hb := B.bytes
  have hr := B.returns
  have hts0 := atoms_spec (ws := wm yX2_init cX2_init 1 none) B.pre
  have hts : ∀ w ∈ lw_tg, w.before ([.ref h0] : List Value).toArray s = true := fun w h => hts0 w (List.mem_cons_of_mem _ h)
  have hown : s.vm.findClass RX2 = some m.cls := findClass_of_methodNamed B.named
  have hlocks := B.notSynchronized
  have hin : meth.name = "<init>" := (name_of_methodNamed B.named B.method).1
  subst hsz
  have hD := hD0.self (sz := s.heap.size)
  generalize hAe : va_A [(h0, .inr (2, [.null, .null, .int 0]))] s.heap.size = A at hD ⊢
  have hA : ∀ q : Nat, s.heap.size ≤ q → A q := fun q h => by rw [← hAe]; exact Or.inr h
  have hS : va_S A s.heap s.heap [] := va_S.rf
  have hP : va_P D vwCl [(h0, .inr (2, [.null, .null, .int 0]))] s.heap := hP
  have hl := lv_entry ([.ref h0]) (n := 1) (Nat.le_of_ble_eq_true rfl)
  rw [lg_entry_eq]
  generalize (lg_sl ([.ref h0]) ++ List.replicate (1 - (lg_sl ([.ref h0])).length) Slot.unset).toArray = ls at hl ⊢
  have hl : lv_has ls 1 [(0, .ref h0)] := hl
  refine lv_aload_n hx hb dX2_init_0 rfl (lv_at hl 0 rfl) ?_
  refine W.objInit hx hb hown (hts _ k_157) (hts _ k_65) (hts _ k_66) rfl (by rw [hml]; exact hl.1) rfl dX2_init_1 (Nat.le_of_ble_eq_true rfl) (Nat.le_of_ble_eq_true rfl) ?_
  refine W.eq (g2 := F0 m 4 ls []) rfl ?_
  refine lv_aload_n hx hb dX2_init_4 rfl (lv_at hl 0 rfl) ?_
  refine lv_bipush (v := 8) hx hb dX2_init_5 (by decide) ?_
  refine va_newa (atype := .int) (ty := .int) (N' := 8) (a0 := (8, .inl (fun _ => 0))) hx hb (hts _ k_151) rfl hK hP hD hS hA (fun _ => rfl) (by decide) (by decide) (Nat.le_of_ble_eq_true rfl) (Nat.le_of_ble_eq_true rfl) (Nat.le_of_ble_eq_true rfl) dX2_init_7 (fun q1 c2 H hK hP hD hS => ?_)
  have hP : va_P D vwCl [(h0, .inr (2, [.null, .null, .int 0])), (q1, .inl (c2, 8, .inl (fun _ => 0)))] H := hP
  have hD : va_D A [(h0, .inr (2, [.null, .null, .int 0])), (q1, .inl (c2, 8, .inl (fun _ => 0)))] := hD
  have hK : va_K D vwCl [(c2, .int)] s := hK
  refine W.widen (k := 1) (n := 8) (Nat.le_of_ble_eq_true rfl) (Nat.le_of_ble_eq_true rfl) ?_
  refine va_putF (D := D) (ci := 2) (v := .ref q1) (ty := (.array .int)) (C := RX2) (T := TX2) (N := 3) hx hb hts inX2 tyX2 tyX2_ok nmX2 hown hK hP hD hS 0 rfl rfl 0 (by decide) (hts _ k_158) (fun _ h9 => h9) rfl hin rfl (by decide +kernel) rfl rfl (Nat.le_of_ble_eq_true rfl) dX2_init_9 (fun H locs hP hD hS => ?_)
  have hP : va_P D vwCl [(h0, .inr (2, [.ref q1, .null, .int 0])), (q1, .inl (c2, 8, .inl (fun _ => 0)))] H := hP
  have hD : va_D A [(h0, .inr (2, [.ref q1, .null, .int 0])), (q1, .inl (c2, 8, .inl (fun _ => 0)))] := hD
  refine lv_aload_n hx hb dX2_init_12 rfl (lv_at hl 0 rfl) ?_
  refine lv_bipush (v := 8) hx hb dX2_init_13 (by decide) ?_
  refine va_newa (atype := .int) (ty := .int) (N' := 8) (a0 := (8, .inl (fun _ => 0))) hx hb (hts _ k_151) rfl hK hP hD hS hA (fun _ => rfl) (by decide) (by decide) (Nat.le_of_ble_eq_true rfl) (Nat.le_of_ble_eq_true rfl) (Nat.le_of_ble_eq_true rfl) dX2_init_15 (fun q3 c4 H hK hP hD hS => ?_)
  have hP : va_P D vwCl [(h0, .inr (2, [.ref q1, .null, .int 0])), (q1, .inl (c2, 8, .inl (fun _ => 0))), (q3, .inl (c4, 8, .inl (fun _ => 0)))] H := hP
  have hD : va_D A [(h0, .inr (2, [.ref q1, .null, .int 0])), (q1, .inl (c2, 8, .inl (fun _ => 0))), (q3, .inl (c4, 8, .inl (fun _ => 0)))] := hD
  have hK : va_K D vwCl [(c2, .int), (c4, .int)] s := hK
  refine W.widen (k := 2) (n := 16) (Nat.le_of_ble_eq_true rfl) (Nat.le_of_ble_eq_true rfl) ?_
  refine va_putF (D := D) (ci := 2) (v := .ref q3) (ty := (.array .int)) (C := RX2) (T := TX2) (N := 3) hx hb hts inX2 tyX2 tyX2_ok nmX2 hown hK hP hD hS 0 rfl rfl 1 (by decide) (hts _ k_159) (fun _ h9 => h9) rfl hin rfl (by decide +kernel) rfl rfl (Nat.le_of_ble_eq_true rfl) dX2_init_17 (fun H locs hP hD hS => ?_)
  have hP : va_P D vwCl [(h0, .inr (2, [.ref q1, .ref q3, .int 0])), (q1, .inl (c2, 8, .inl (fun _ => 0))), (q3, .inl (c4, 8, .inl (fun _ => 0)))] H := hP
  have hD : va_D A [(h0, .inr (2, [.ref q1, .ref q3, .int 0])), (q1, .inl (c2, 8, .inl (fun _ => 0))), (q3, .inl (c4, 8, .inl (fun _ => 0)))] := hD
  refine lv_aload_n hx hb dX2_init_20 rfl (lv_at hl 0 rfl) ?_
  refine lv_iconst (v := 0) hx hb dX2_init_21 (by decide) ?_
  refine va_put (D := D) (ci := 2) (v := .int 0) (ty := .int) (C := RX2) (T := TX2) (N := 3) hx hb hts inX2 tyX2 tyX2_ok nmX2 hown hK hP hD hS 0 rfl rfl 2 (by decide) (hts _ k_160) (fun _ h9 => h9) rfl (by decide +kernel) rfl rfl (Nat.le_of_ble_eq_true rfl) dX2_init_22 (fun H locs hP hD hS => ?_)
  have hP : va_P D vwCl [(h0, .inr (2, [.ref q1, .ref q3, .int 0])), (q1, .inl (c2, 8, .inl (fun _ => 0))), (q3, .inl (c4, 8, .inl (fun _ => 0)))] H := hP
  have hD : va_D A [(h0, .inr (2, [.ref q1, .ref q3, .int 0])), (q1, .inl (c2, 8, .inl (fun _ => 0))), (q3, .inl (c4, 8, .inl (fun _ => 0)))] := hD
  exact W.vret hx hb hr (fun t ht hW => ⟨⟨(), rfl, trivial, q1, q3, c2, c4, by rw [ht]; exact hP, va_K.moved hW.alike hK, hD⟩, hS.F ht⟩) hS.2.2 dX2_init_25

def r_X0_init : Room := { frames := 1, cells := 0, slots := 0, locals := 20 }
set_option maxRecDepth 100000 in
set_option maxHeartbeats 16000000 in
theorem c_X0_init (l : Launch) (D : va_G) (h0 sz : Nat)  : Met l yX0_init (wm yX0_init cX0_init 1 none) r_X0_init (va_Pc [.ref h0] (fun U => U.heap.size = sz ∧ va_P D vwCl [(h0, .inr (0, [.int 0]))] U.heap ∧ va_K D vwCl [] U ∧ va_D (fun _ => True) [(h0, .inr (0, [.int 0]))] ∧ NW U)) (va_Qv (fun _ : Unit => True) (fun _ U => va_P D vwCl [(h0, .inr (0, [.int 0]))] U.heap ∧ va_K D vwCl [] U ∧ va_D (va_A [(h0, .inr (0, [.int 0]))] sz) [(h0, .inr (0, [.int 0]))]) (va_A [(h0, .inr (0, [.int 0]))] sz)) 0 0 (va_A [(h0, .inr (0, [.int 0]))] sz) := by
  refine Met.ofW (cc := cX0_init) (maxL := 1) (ret := none) (by decide) rfl ?_
  intro p e s m args below meth c s₁ B hml hv
  obtain ⟨rfl, hsz, hP, hK, hD0, hN⟩ := hv
  have hx := B.exec
  have hb := B.bytes
  have hr := B.returns
  have hts0 := atoms_spec (ws := wm yX0_init cX0_init 1 none) B.pre
  have hts : ∀ w ∈ lw_tg, w.before ([.ref h0] : List Value).toArray s = true := fun w h => hts0 w (List.mem_cons_of_mem _ h)
  have hown : s.vm.findClass RX0 = some m.cls := findClass_of_methodNamed B.named
  have hlocks := B.notSynchronized
  have hin : meth.name = "<init>" := (name_of_methodNamed B.named B.method).1
  subst hsz
  have hD := hD0.self (sz := s.heap.size)
  generalize hAe : va_A [(h0, .inr (0, [.int 0]))] s.heap.size = A at hD ⊢
  have hA : ∀ q : Nat, s.heap.size ≤ q → A q := fun q h => by rw [← hAe]; exact Or.inr h
  have hS : va_S A s.heap s.heap [] := va_S.rf
  have hP : va_P D vwCl [(h0, .inr (0, [.int 0]))] s.heap := hP
  have hl := lv_entry ([.ref h0]) (n := 1) (Nat.le_of_ble_eq_true rfl)
  rw [lg_entry_eq]
  generalize (lg_sl ([.ref h0]) ++ List.replicate (1 - (lg_sl ([.ref h0])).length) Slot.unset).toArray = ls at hl ⊢
  have hl : lv_has ls 1 [(0, .ref h0)] := hl
  refine lv_aload_n hx hb dX0_init_0 rfl (lv_at hl 0 rfl) ?_
  refine W.objInit hx hb hown (hts _ k_234) (hts _ k_65) (hts _ k_66) rfl (by rw [hml]; exact hl.1) rfl dX0_init_1 (Nat.le_of_ble_eq_true rfl) (Nat.le_of_ble_eq_true rfl) ?_
  refine W.eq (g2 := F0 m 4 ls []) rfl ?_
  refine lv_aload_n hx hb dX0_init_4 rfl (lv_at hl 0 rfl) ?_
  refine lv_iconst (v := 0) hx hb dX0_init_5 (by decide) ?_
  refine va_put (D := D) (ci := 0) (v := .int 0) (ty := .int) (C := RX0) (T := TX0) (N := 1) hx hb hts inX0 tyX0 tyX0_ok nmX0 hown hK hP hD hS 0 rfl rfl 0 (by decide) (hts _ k_235) (fun _ h9 => h9) rfl (by decide +kernel) rfl rfl (Nat.le_of_ble_eq_true rfl) dX0_init_6 (fun H locs hP hD hS => ?_)
  have hP : va_P D vwCl [(h0, .inr (0, [.int 0]))] H := hP
  have hD : va_D A [(h0, .inr (0, [.int 0]))] := hD
  exact W.vret hx hb hr (fun t ht hW => ⟨⟨(), rfl, trivial, by rw [ht]; exact hP, va_K.moved hW.alike hK, hD⟩, hS.F ht⟩) hS.2.2 dX0_init_9

def r_X4_init : Room := { frames := 1, cells := 1, slots := 60, locals := 20 }
set_option maxRecDepth 100000 in
set_option maxHeartbeats 16000000 in
theorem c_X4_init (l : Launch) (D : va_G) (h0 sz : Nat)  : Met l yX4_init (wm yX4_init cX4_init 1 none) r_X4_init (va_Pc [.ref h0] (fun U => U.heap.size = sz ∧ va_P D vwCl [(h0, .inr (4, [.null, .int 0, .int 0, .int 0]))] U.heap ∧ va_K D vwCl [] U ∧ va_D (fun _ => True) [(h0, .inr (4, [.null, .int 0, .int 0, .int 0]))] ∧ NW U)) (va_Qv (fun _ : Unit => True) (fun _ U => ∃ (q1 : Nat), ∃ (c2 : ClassId), va_P D vwCl [(h0, .inr (4, [.ref q1, .int 0, .int 0, .int 0])), (q1, .inl (c2, 60, .inl (fun _ => 0)))] U.heap ∧ va_K D vwCl [(c2, .int)] U ∧ va_D (va_A [(h0, .inr (4, [.null, .int 0, .int 0, .int 0]))] sz) [(h0, .inr (4, [.ref q1, .int 0, .int 0, .int 0])), (q1, .inl (c2, 60, .inl (fun _ => 0)))]) (va_A [(h0, .inr (4, [.null, .int 0, .int 0, .int 0]))] sz)) 1 60 (va_A [(h0, .inr (4, [.null, .int 0, .int 0, .int 0]))] sz) := by
  refine Met.ofW (cc := cX4_init) (maxL := 1) (ret := none) (by decide) rfl ?_
  intro p e s m args below meth c s₁ B hml hv
  obtain ⟨rfl, hsz, hP, hK, hD0, hN⟩ := hv
  have hx := B.exec
  have hb := B.bytes
  have hr := B.returns
  have hts0 := atoms_spec (ws := wm yX4_init cX4_init 1 none) B.pre
  have hts : ∀ w ∈ lw_tg, w.before ([.ref h0] : List Value).toArray s = true := fun w h => hts0 w (List.mem_cons_of_mem _ h)
  have hown : s.vm.findClass RX4 = some m.cls := findClass_of_methodNamed B.named
  have hlocks := B.notSynchronized
  have hin : meth.name = "<init>" := (name_of_methodNamed B.named B.method).1
  subst hsz
  have hD := hD0.self (sz := s.heap.size)
  generalize hAe : va_A [(h0, .inr (4, [.null, .int 0, .int 0, .int 0]))] s.heap.size = A at hD ⊢
  have hA : ∀ q : Nat, s.heap.size ≤ q → A q := fun q h => by rw [← hAe]; exact Or.inr h
  have hS : va_S A s.heap s.heap [] := va_S.rf
  have hP : va_P D vwCl [(h0, .inr (4, [.null, .int 0, .int 0, .int 0]))] s.heap := hP
  have hl := lv_entry ([.ref h0]) (n := 1) (Nat.le_of_ble_eq_true rfl)
  rw [lg_entry_eq]
  generalize (lg_sl ([.ref h0]) ++ List.replicate (1 - (lg_sl ([.ref h0])).length) Slot.unset).toArray = ls at hl ⊢
  have hl : lv_has ls 1 [(0, .ref h0)] := hl
  refine lv_aload_n hx hb dX4_init_0 rfl (lv_at hl 0 rfl) ?_
  refine W.objInit hx hb hown (hts _ k_244) (hts _ k_65) (hts _ k_66) rfl (by rw [hml]; exact hl.1) rfl dX4_init_1 (Nat.le_of_ble_eq_true rfl) (Nat.le_of_ble_eq_true rfl) ?_
  refine W.eq (g2 := F0 m 4 ls []) rfl ?_
  refine lv_aload_n hx hb dX4_init_4 rfl (lv_at hl 0 rfl) ?_
  refine lv_bipush (v := 60) hx hb dX4_init_5 (by decide) ?_
  refine va_newa (atype := .int) (ty := .int) (N' := 60) (a0 := (60, .inl (fun _ => 0))) hx hb (hts _ k_151) rfl hK hP hD hS hA (fun _ => rfl) (by decide) (by decide) (Nat.le_of_ble_eq_true rfl) (Nat.le_of_ble_eq_true rfl) (Nat.le_of_ble_eq_true rfl) dX4_init_7 (fun q1 c2 H hK hP hD hS => ?_)
  have hP : va_P D vwCl [(h0, .inr (4, [.null, .int 0, .int 0, .int 0])), (q1, .inl (c2, 60, .inl (fun _ => 0)))] H := hP
  have hD : va_D A [(h0, .inr (4, [.null, .int 0, .int 0, .int 0])), (q1, .inl (c2, 60, .inl (fun _ => 0)))] := hD
  have hK : va_K D vwCl [(c2, .int)] s := hK
  refine W.widen (k := 1) (n := 60) (Nat.le_of_ble_eq_true rfl) (Nat.le_of_ble_eq_true rfl) ?_
  refine va_putF (D := D) (ci := 4) (v := .ref q1) (ty := (.array .int)) (C := RX4) (T := TX4) (N := 4) hx hb hts inX4 tyX4 tyX4_ok nmX4 hown hK hP hD hS 0 rfl rfl 0 (by decide) (hts _ k_245) (fun _ h9 => h9) rfl hin rfl (by decide +kernel) rfl rfl (Nat.le_of_ble_eq_true rfl) dX4_init_9 (fun H locs hP hD hS => ?_)
  have hP : va_P D vwCl [(h0, .inr (4, [.ref q1, .int 0, .int 0, .int 0])), (q1, .inl (c2, 60, .inl (fun _ => 0)))] H := hP
  have hD : va_D A [(h0, .inr (4, [.ref q1, .int 0, .int 0, .int 0])), (q1, .inl (c2, 60, .inl (fun _ => 0)))] := hD
  refine lv_aload_n hx hb dX4_init_12 rfl (lv_at hl 0 rfl) ?_
  refine lv_iconst (v := 0) hx hb dX4_init_13 (by decide) ?_
  refine va_put (D := D) (ci := 4) (v := .int 0) (ty := .boolean) (C := RX4) (T := TX4) (N := 4) hx hb hts inX4 tyX4 tyX4_ok nmX4 hown hK hP hD hS 0 rfl rfl 1 (by decide) (hts _ k_247) (fun _ h9 => h9) rfl (by decide +kernel) rfl rfl (Nat.le_of_ble_eq_true rfl) dX4_init_14 (fun H locs hP hD hS => ?_)
  have hP : va_P D vwCl [(h0, .inr (4, [.ref q1, .int 0, .int 0, .int 0])), (q1, .inl (c2, 60, .inl (fun _ => 0)))] H := hP
  have hD : va_D A [(h0, .inr (4, [.ref q1, .int 0, .int 0, .int 0])), (q1, .inl (c2, 60, .inl (fun _ => 0)))] := hD
  refine lv_aload_n hx hb dX4_init_17 rfl (lv_at hl 0 rfl) ?_
  refine lv_iconst (v := 0) hx hb dX4_init_18 (by decide) ?_
  refine va_put (D := D) (ci := 4) (v := .int 0) (ty := .int) (C := RX4) (T := TX4) (N := 4) hx hb hts inX4 tyX4 tyX4_ok nmX4 hown hK hP hD hS 0 rfl rfl 2 (by decide) (hts _ k_249) (fun _ h9 => h9) rfl (by decide +kernel) rfl rfl (Nat.le_of_ble_eq_true rfl) dX4_init_19 (fun H locs hP hD hS => ?_)
  have hP : va_P D vwCl [(h0, .inr (4, [.ref q1, .int 0, .int 0, .int 0])), (q1, .inl (c2, 60, .inl (fun _ => 0)))] H := hP
  have hD : va_D A [(h0, .inr (4, [.ref q1, .int 0, .int 0, .int 0])), (q1, .inl (c2, 60, .inl (fun _ => 0)))] := hD
  refine lv_aload_n hx hb dX4_init_22 rfl (lv_at hl 0 rfl) ?_
  refine lv_iconst (v := 0) hx hb dX4_init_23 (by decide) ?_
  refine va_put (D := D) (ci := 4) (v := .int 0) (ty := .int) (C := RX4) (T := TX4) (N := 4) hx hb hts inX4 tyX4 tyX4_ok nmX4 hown hK hP hD hS 0 rfl rfl 3 (by decide) (hts _ k_251) (fun _ h9 => h9) rfl (by decide +kernel) rfl rfl (Nat.le_of_ble_eq_true rfl) dX4_init_24 (fun H locs hP hD hS => ?_)
  have hP : va_P D vwCl [(h0, .inr (4, [.ref q1, .int 0, .int 0, .int 0])), (q1, .inl (c2, 60, .inl (fun _ => 0)))] H := hP
  have hD : va_D A [(h0, .inr (4, [.ref q1, .int 0, .int 0, .int 0])), (q1, .inl (c2, 60, .inl (fun _ => 0)))] := hD
  exact W.vret hx hb hr (fun t ht hW => ⟨⟨(), rfl, trivial, q1, c2, by rw [ht]; exact hP, va_K.moved hW.alike hK, hD⟩, hS.F ht⟩) hS.2.2 dX4_init_27

def r_X3_init : Room := { frames := 1, cells := 2, slots := 16, locals := 20 }
set_option maxRecDepth 100000 in
set_option maxHeartbeats 16000000 in
theorem c_X3_init (l : Launch) (D : va_G) (h0 sz : Nat) (p1 : Nat) : Met l yX3_init (wm yX3_init cX3_init 2 none) r_X3_init (va_Pc [.ref h0, .ref p1] (fun U => U.heap.size = sz ∧ va_P D vwCl [(h0, .inr (3, [.null, .null, .null, .int 0]))] U.heap ∧ va_K D vwCl [] U ∧ va_D (fun _ => True) [(h0, .inr (3, [.null, .null, .null, .int 0]))] ∧ NW U)) (va_Qv (fun _ : Unit => True) (fun _ U => ∃ (q1 : Nat) (q3 : Nat), ∃ (c2 : ClassId) (c4 : ClassId), va_P D vwCl [(h0, .inr (3, [.ref p1, .ref q1, .ref q3, .int 0])), (q1, .inl (c2, 8, .inl (fun _ => 0))), (q3, .inl (c4, 8, .inl (fun _ => 0)))] U.heap ∧ va_K D vwCl [(c2, .int), (c4, .int)] U ∧ va_D (va_A [(h0, .inr (3, [.null, .null, .null, .int 0]))] sz) [(h0, .inr (3, [.ref p1, .ref q1, .ref q3, .int 0])), (q1, .inl (c2, 8, .inl (fun _ => 0))), (q3, .inl (c4, 8, .inl (fun _ => 0)))]) (va_A [(h0, .inr (3, [.null, .null, .null, .int 0]))] sz)) 2 16 (va_A [(h0, .inr (3, [.null, .null, .null, .int 0]))] sz) := by
  refine Met.ofW (cc := cX3_init) (maxL := 2) (ret := none) (by decide) rfl ?_
  intro p e s m args below meth c s₁ B hml hv
  obtain ⟨rfl, hsz, hP, hK, hD0, hN⟩ := hv
  have hx := B.exec
  have hb := B.bytes
  have hr := B.returns
  have hts0 := atoms_spec (ws := wm yX3_init cX3_init 2 none) B.pre
  have hts : ∀ w ∈ lw_tg, w.before ([.ref h0, .ref p1] : List Value).toArray s = true := fun w h => hts0 w (List.mem_cons_of_mem _ h)
  have hown : s.vm.findClass RX3 = some m.cls := findClass_of_methodNamed B.named
  have hlocks := B.notSynchronized
  have hin : meth.name = "<init>" := (name_of_methodNamed B.named B.method).1
  subst hsz
  have hD := hD0.self (sz := s.heap.size)
  generalize hAe : va_A [(h0, .inr (3, [.null, .null, .null, .int 0]))] s.heap.size = A at hD ⊢
  have hA : ∀ q : Nat, s.heap.size ≤ q → A q := fun q h => by rw [← hAe]; exact Or.inr h
  have hS : va_S A s.heap s.heap [] := va_S.rf
  have hP : va_P D vwCl [(h0, .inr (3, [.null, .null, .null, .int 0]))] s.heap := hP
  have hl := lv_entry ([.ref h0, .ref p1]) (n := 2) (Nat.le_of_ble_eq_true rfl)
  rw [lg_entry_eq]
  generalize (lg_sl ([.ref h0, .ref p1]) ++ List.replicate (2 - (lg_sl ([.ref h0, .ref p1])).length) Slot.unset).toArray = ls at hl ⊢
  have hl : lv_has ls 2 [(0, .ref h0), (1, .ref p1)] := hl
  refine lv_aload_n hx hb dX3_init_0 rfl (lv_at hl 0 rfl) ?_
  refine W.objInit hx hb hown (hts _ k_174) (hts _ k_65) (hts _ k_66) rfl (by rw [hml]; exact hl.1) rfl dX3_init_1 (Nat.le_of_ble_eq_true rfl) (Nat.le_of_ble_eq_true rfl) ?_
  refine W.eq (g2 := F0 m 4 ls []) rfl ?_
  refine lv_aload_n hx hb dX3_init_4 rfl (lv_at hl 0 rfl) ?_
  refine lv_bipush (v := 8) hx hb dX3_init_5 (by decide) ?_
  refine va_newa (atype := .int) (ty := .int) (N' := 8) (a0 := (8, .inl (fun _ => 0))) hx hb (hts _ k_151) rfl hK hP hD hS hA (fun _ => rfl) (by decide) (by decide) (Nat.le_of_ble_eq_true rfl) (Nat.le_of_ble_eq_true rfl) (Nat.le_of_ble_eq_true rfl) dX3_init_7 (fun q1 c2 H hK hP hD hS => ?_)
  have hP : va_P D vwCl [(h0, .inr (3, [.null, .null, .null, .int 0])), (q1, .inl (c2, 8, .inl (fun _ => 0)))] H := hP
  have hD : va_D A [(h0, .inr (3, [.null, .null, .null, .int 0])), (q1, .inl (c2, 8, .inl (fun _ => 0)))] := hD
  have hK : va_K D vwCl [(c2, .int)] s := hK
  refine W.widen (k := 1) (n := 8) (Nat.le_of_ble_eq_true rfl) (Nat.le_of_ble_eq_true rfl) ?_
  refine va_putF (D := D) (ci := 3) (v := .ref q1) (ty := (.array .int)) (C := RX3) (T := TX3) (N := 4) hx hb hts inX3 tyX3 tyX3_ok nmX3 hown hK hP hD hS 0 rfl rfl 1 (by decide) (hts _ k_176) (fun _ h9 => h9) rfl hin rfl (by decide +kernel) rfl rfl (Nat.le_of_ble_eq_true rfl) dX3_init_9 (fun H locs hP hD hS => ?_)
  have hP : va_P D vwCl [(h0, .inr (3, [.null, .ref q1, .null, .int 0])), (q1, .inl (c2, 8, .inl (fun _ => 0)))] H := hP
  have hD : va_D A [(h0, .inr (3, [.null, .ref q1, .null, .int 0])), (q1, .inl (c2, 8, .inl (fun _ => 0)))] := hD
  refine lv_aload_n hx hb dX3_init_12 rfl (lv_at hl 0 rfl) ?_
  refine lv_bipush (v := 8) hx hb dX3_init_13 (by decide) ?_
  refine va_newa (atype := .int) (ty := .int) (N' := 8) (a0 := (8, .inl (fun _ => 0))) hx hb (hts _ k_151) rfl hK hP hD hS hA (fun _ => rfl) (by decide) (by decide) (Nat.le_of_ble_eq_true rfl) (Nat.le_of_ble_eq_true rfl) (Nat.le_of_ble_eq_true rfl) dX3_init_15 (fun q3 c4 H hK hP hD hS => ?_)
  have hP : va_P D vwCl [(h0, .inr (3, [.null, .ref q1, .null, .int 0])), (q1, .inl (c2, 8, .inl (fun _ => 0))), (q3, .inl (c4, 8, .inl (fun _ => 0)))] H := hP
  have hD : va_D A [(h0, .inr (3, [.null, .ref q1, .null, .int 0])), (q1, .inl (c2, 8, .inl (fun _ => 0))), (q3, .inl (c4, 8, .inl (fun _ => 0)))] := hD
  have hK : va_K D vwCl [(c2, .int), (c4, .int)] s := hK
  refine W.widen (k := 2) (n := 16) (Nat.le_of_ble_eq_true rfl) (Nat.le_of_ble_eq_true rfl) ?_
  refine va_putF (D := D) (ci := 3) (v := .ref q3) (ty := (.array .int)) (C := RX3) (T := TX3) (N := 4) hx hb hts inX3 tyX3 tyX3_ok nmX3 hown hK hP hD hS 0 rfl rfl 2 (by decide) (hts _ k_177) (fun _ h9 => h9) rfl hin rfl (by decide +kernel) rfl rfl (Nat.le_of_ble_eq_true rfl) dX3_init_17 (fun H locs hP hD hS => ?_)
  have hP : va_P D vwCl [(h0, .inr (3, [.null, .ref q1, .ref q3, .int 0])), (q1, .inl (c2, 8, .inl (fun _ => 0))), (q3, .inl (c4, 8, .inl (fun _ => 0)))] H := hP
  have hD : va_D A [(h0, .inr (3, [.null, .ref q1, .ref q3, .int 0])), (q1, .inl (c2, 8, .inl (fun _ => 0))), (q3, .inl (c4, 8, .inl (fun _ => 0)))] := hD
  refine lv_aload_n hx hb dX3_init_20 rfl (lv_at hl 0 rfl) ?_
  refine lv_iconst (v := 0) hx hb dX3_init_21 (by decide) ?_
  refine va_put (D := D) (ci := 3) (v := .int 0) (ty := .int) (C := RX3) (T := TX3) (N := 4) hx hb hts inX3 tyX3 tyX3_ok nmX3 hown hK hP hD hS 0 rfl rfl 3 (by decide) (hts _ k_178) (fun _ h9 => h9) rfl (by decide +kernel) rfl rfl (Nat.le_of_ble_eq_true rfl) dX3_init_22 (fun H locs hP hD hS => ?_)
  have hP : va_P D vwCl [(h0, .inr (3, [.null, .ref q1, .ref q3, .int 0])), (q1, .inl (c2, 8, .inl (fun _ => 0))), (q3, .inl (c4, 8, .inl (fun _ => 0)))] H := hP
  have hD : va_D A [(h0, .inr (3, [.null, .ref q1, .ref q3, .int 0])), (q1, .inl (c2, 8, .inl (fun _ => 0))), (q3, .inl (c4, 8, .inl (fun _ => 0)))] := hD
  refine lv_aload_n hx hb dX3_init_25 rfl (lv_at hl 0 rfl) ?_
  refine lv_aload_n hx hb dX3_init_26 rfl (lv_at hl 1 rfl) ?_
  refine va_putF (D := D) (ci := 3) (v := .ref p1) (ty := (.object "DeputyTown$Town")) (C := RX3) (T := TX3) (N := 4) hx hb hts inX3 tyX3 tyX3_ok nmX3 hown hK hP hD hS 0 rfl rfl 0 (by decide) (hts _ k_175) (fun _ h9 => h9) rfl hin rfl (by decide +kernel) rfl rfl (Nat.le_of_ble_eq_true rfl) dX3_init_27 (fun H locs hP hD hS => ?_)
  have hP : va_P D vwCl [(h0, .inr (3, [.ref p1, .ref q1, .ref q3, .int 0])), (q1, .inl (c2, 8, .inl (fun _ => 0))), (q3, .inl (c4, 8, .inl (fun _ => 0)))] H := hP
  have hD : va_D A [(h0, .inr (3, [.ref p1, .ref q1, .ref q3, .int 0])), (q1, .inl (c2, 8, .inl (fun _ => 0))), (q3, .inl (c4, 8, .inl (fun _ => 0)))] := hD
  exact W.vret hx hb hr (fun t ht hW => ⟨⟨(), rfl, trivial, q1, q3, c2, c4, by rw [ht]; exact hP, va_K.moved hW.alike hK, hD⟩, hS.F ht⟩) hS.2.2 dX3_init_30

def r_X8_init : Room := { frames := 1, cells := 0, slots := 0, locals := 20 }
set_option maxRecDepth 100000 in
set_option maxHeartbeats 16000000 in
theorem c_X8_init (l : Launch) (D : va_G) (h0 sz : Nat) (p1 : Nat) (p2 : Nat) : Met l yX8_init (wm yX8_init cX8_init 3 none) r_X8_init (va_Pc [.ref h0, .ref p1, .ref p2] (fun U => U.heap.size = sz ∧ va_P D vwCl [(h0, .inr (7, [.null, .null, .int 0, .int 0, .int 0, .int 0, .int 0, .int 0, .int 0]))] U.heap ∧ va_K D vwCl [] U ∧ va_D (fun _ => True) [(h0, .inr (7, [.null, .null, .int 0, .int 0, .int 0, .int 0, .int 0, .int 0, .int 0]))] ∧ NW U)) (va_Qv (fun _ : Unit => True) (fun _ U => va_P D vwCl [(h0, .inr (7, [.ref p1, .ref p2, .int 0, .int 0, .int (-9), .int 0, .int 0, .int (-9), .int (-9)]))] U.heap ∧ va_K D vwCl [] U ∧ va_D (va_A [(h0, .inr (7, [.null, .null, .int 0, .int 0, .int 0, .int 0, .int 0, .int 0, .int 0]))] sz) [(h0, .inr (7, [.ref p1, .ref p2, .int 0, .int 0, .int (-9), .int 0, .int 0, .int (-9), .int (-9)]))]) (va_A [(h0, .inr (7, [.null, .null, .int 0, .int 0, .int 0, .int 0, .int 0, .int 0, .int 0]))] sz)) 0 0 (va_A [(h0, .inr (7, [.null, .null, .int 0, .int 0, .int 0, .int 0, .int 0, .int 0, .int 0]))] sz) := by
  refine Met.ofW (cc := cX8_init) (maxL := 3) (ret := none) (by decide) rfl ?_
  intro p e s m args below meth c s₁ B hml hv
  obtain ⟨rfl, hsz, hP, hK, hD0, hN⟩ := hv
  have hx := B.exec
  have hb := B.bytes
  have hr := B.returns
  have hts0 := atoms_spec (ws := wm yX8_init cX8_init 3 none) B.pre
  have hts : ∀ w ∈ lw_tg, w.before ([.ref h0, .ref p1, .ref p2] : List Value).toArray s = true := fun w h => hts0 w (List.mem_cons_of_mem _ h)
  have hown : s.vm.findClass RX8 = some m.cls := findClass_of_methodNamed B.named
  have hlocks := B.notSynchronized
  have hin : meth.name = "<init>" := (name_of_methodNamed B.named B.method).1
  subst hsz
  have hD := hD0.self (sz := s.heap.size)
  generalize hAe : va_A [(h0, .inr (7, [.null, .null, .int 0, .int 0, .int 0, .int 0, .int 0, .int 0, .int 0]))] s.heap.size = A at hD ⊢
  have hA : ∀ q : Nat, s.heap.size ≤ q → A q := fun q h => by rw [← hAe]; exact Or.inr h
  have hS : va_S A s.heap s.heap [] := va_S.rf
  have hP : va_P D vwCl [(h0, .inr (7, [.null, .null, .int 0, .int 0, .int 0, .int 0, .int 0, .int 0, .int 0]))] s.heap := hP
  have hl := lv_entry ([.ref h0, .ref p1, .ref p2]) (n := 3) (Nat.le_of_ble_eq_true rfl)
  rw [lg_entry_eq]
  generalize (lg_sl ([.ref h0, .ref p1, .ref p2]) ++ List.replicate (3 - (lg_sl ([.ref h0, .ref p1, .ref p2])).length) Slot.unset).toArray = ls at hl ⊢
  have hl : lv_has ls 3 [(0, .ref h0), (1, .ref p1), (2, .ref p2)] := hl
  refine lv_aload_n hx hb dX8_init_0 rfl (lv_at hl 0 rfl) ?_
  refine W.objInit hx hb hown (hts _ k_193) (hts _ k_65) (hts _ k_66) rfl (by rw [hml]; exact hl.1) rfl dX8_init_1 (Nat.le_of_ble_eq_true rfl) (Nat.le_of_ble_eq_true rfl) ?_
  refine W.eq (g2 := F0 m 4 ls []) rfl ?_
  refine lv_aload_n hx hb dX8_init_4 rfl (lv_at hl 0 rfl) ?_
  refine lv_iconst (v := 0) hx hb dX8_init_5 (by decide) ?_
  refine va_put (D := D) (ci := 7) (v := .int 0) (ty := .int) (C := RX8) (T := TX8) (N := 9) hx hb hts inX8 tyX8 tyX8_ok nmX8 hown hK hP hD hS 0 rfl rfl 2 (by decide) (hts _ k_196) (fun _ h9 => h9) rfl (by decide +kernel) rfl rfl (Nat.le_of_ble_eq_true rfl) dX8_init_6 (fun H locs hP hD hS => ?_)
  have hP : va_P D vwCl [(h0, .inr (7, [.null, .null, .int 0, .int 0, .int 0, .int 0, .int 0, .int 0, .int 0]))] H := hP
  have hD : va_D A [(h0, .inr (7, [.null, .null, .int 0, .int 0, .int 0, .int 0, .int 0, .int 0, .int 0]))] := hD
  refine lv_aload_n hx hb dX8_init_9 rfl (lv_at hl 0 rfl) ?_
  refine lv_iconst (v := 0) hx hb dX8_init_10 (by decide) ?_
  refine va_put (D := D) (ci := 7) (v := .int 0) (ty := .int) (C := RX8) (T := TX8) (N := 9) hx hb hts inX8 tyX8 tyX8_ok nmX8 hown hK hP hD hS 0 rfl rfl 3 (by decide) (hts _ k_198) (fun _ h9 => h9) rfl (by decide +kernel) rfl rfl (Nat.le_of_ble_eq_true rfl) dX8_init_11 (fun H locs hP hD hS => ?_)
  have hP : va_P D vwCl [(h0, .inr (7, [.null, .null, .int 0, .int 0, .int 0, .int 0, .int 0, .int 0, .int 0]))] H := hP
  have hD : va_D A [(h0, .inr (7, [.null, .null, .int 0, .int 0, .int 0, .int 0, .int 0, .int 0, .int 0]))] := hD
  refine lv_aload_n hx hb dX8_init_14 rfl (lv_at hl 0 rfl) ?_
  refine lv_bipush (v := (-9)) hx hb dX8_init_15 (by decide) ?_
  refine va_put (D := D) (ci := 7) (v := .int (-9)) (ty := .int) (C := RX8) (T := TX8) (N := 9) hx hb hts inX8 tyX8 tyX8_ok nmX8 hown hK hP hD hS 0 rfl rfl 4 (by decide) (hts _ k_200) (fun _ h9 => h9) rfl (by decide +kernel) rfl rfl (Nat.le_of_ble_eq_true rfl) dX8_init_17 (fun H locs hP hD hS => ?_)
  have hP : va_P D vwCl [(h0, .inr (7, [.null, .null, .int 0, .int 0, .int (-9), .int 0, .int 0, .int 0, .int 0]))] H := hP
  have hD : va_D A [(h0, .inr (7, [.null, .null, .int 0, .int 0, .int (-9), .int 0, .int 0, .int 0, .int 0]))] := hD
  refine lv_aload_n hx hb dX8_init_20 rfl (lv_at hl 0 rfl) ?_
  refine lv_iconst (v := 0) hx hb dX8_init_21 (by decide) ?_
  refine va_put (D := D) (ci := 7) (v := .int 0) (ty := .int) (C := RX8) (T := TX8) (N := 9) hx hb hts inX8 tyX8 tyX8_ok nmX8 hown hK hP hD hS 0 rfl rfl 5 (by decide) (hts _ k_202) (fun _ h9 => h9) rfl (by decide +kernel) rfl rfl (Nat.le_of_ble_eq_true rfl) dX8_init_22 (fun H locs hP hD hS => ?_)
  have hP : va_P D vwCl [(h0, .inr (7, [.null, .null, .int 0, .int 0, .int (-9), .int 0, .int 0, .int 0, .int 0]))] H := hP
  have hD : va_D A [(h0, .inr (7, [.null, .null, .int 0, .int 0, .int (-9), .int 0, .int 0, .int 0, .int 0]))] := hD
  refine lv_aload_n hx hb dX8_init_25 rfl (lv_at hl 0 rfl) ?_
  refine lv_iconst (v := 0) hx hb dX8_init_26 (by decide) ?_
  refine va_put (D := D) (ci := 7) (v := .int 0) (ty := .int) (C := RX8) (T := TX8) (N := 9) hx hb hts inX8 tyX8 tyX8_ok nmX8 hown hK hP hD hS 0 rfl rfl 6 (by decide) (hts _ k_204) (fun _ h9 => h9) rfl (by decide +kernel) rfl rfl (Nat.le_of_ble_eq_true rfl) dX8_init_27 (fun H locs hP hD hS => ?_)
  have hP : va_P D vwCl [(h0, .inr (7, [.null, .null, .int 0, .int 0, .int (-9), .int 0, .int 0, .int 0, .int 0]))] H := hP
  have hD : va_D A [(h0, .inr (7, [.null, .null, .int 0, .int 0, .int (-9), .int 0, .int 0, .int 0, .int 0]))] := hD
  refine lv_aload_n hx hb dX8_init_30 rfl (lv_at hl 0 rfl) ?_
  refine lv_bipush (v := (-9)) hx hb dX8_init_31 (by decide) ?_
  refine va_put (D := D) (ci := 7) (v := .int (-9)) (ty := .int) (C := RX8) (T := TX8) (N := 9) hx hb hts inX8 tyX8 tyX8_ok nmX8 hown hK hP hD hS 0 rfl rfl 7 (by decide) (hts _ k_206) (fun _ h9 => h9) rfl (by decide +kernel) rfl rfl (Nat.le_of_ble_eq_true rfl) dX8_init_33 (fun H locs hP hD hS => ?_)
  have hP : va_P D vwCl [(h0, .inr (7, [.null, .null, .int 0, .int 0, .int (-9), .int 0, .int 0, .int (-9), .int 0]))] H := hP
  have hD : va_D A [(h0, .inr (7, [.null, .null, .int 0, .int 0, .int (-9), .int 0, .int 0, .int (-9), .int 0]))] := hD
  refine lv_aload_n hx hb dX8_init_36 rfl (lv_at hl 0 rfl) ?_
  refine lv_bipush (v := (-9)) hx hb dX8_init_37 (by decide) ?_
  refine va_put (D := D) (ci := 7) (v := .int (-9)) (ty := .int) (C := RX8) (T := TX8) (N := 9) hx hb hts inX8 tyX8 tyX8_ok nmX8 hown hK hP hD hS 0 rfl rfl 8 (by decide) (hts _ k_208) (fun _ h9 => h9) rfl (by decide +kernel) rfl rfl (Nat.le_of_ble_eq_true rfl) dX8_init_39 (fun H locs hP hD hS => ?_)
  have hP : va_P D vwCl [(h0, .inr (7, [.null, .null, .int 0, .int 0, .int (-9), .int 0, .int 0, .int (-9), .int (-9)]))] H := hP
  have hD : va_D A [(h0, .inr (7, [.null, .null, .int 0, .int 0, .int (-9), .int 0, .int 0, .int (-9), .int (-9)]))] := hD
  refine lv_aload_n hx hb dX8_init_42 rfl (lv_at hl 0 rfl) ?_
  refine lv_aload_n hx hb dX8_init_43 rfl (lv_at hl 1 rfl) ?_
  refine va_putF (D := D) (ci := 7) (v := .ref p1) (ty := (.object "DeputyTown$Town")) (C := RX8) (T := TX8) (N := 9) hx hb hts inX8 tyX8 tyX8_ok nmX8 hown hK hP hD hS 0 rfl rfl 0 (by decide) (hts _ k_194) (fun _ h9 => h9) rfl hin rfl (by decide +kernel) rfl rfl (Nat.le_of_ble_eq_true rfl) dX8_init_44 (fun H locs hP hD hS => ?_)
  have hP : va_P D vwCl [(h0, .inr (7, [.ref p1, .null, .int 0, .int 0, .int (-9), .int 0, .int 0, .int (-9), .int (-9)]))] H := hP
  have hD : va_D A [(h0, .inr (7, [.ref p1, .null, .int 0, .int 0, .int (-9), .int 0, .int 0, .int (-9), .int (-9)]))] := hD
  refine lv_aload_n hx hb dX8_init_47 rfl (lv_at hl 0 rfl) ?_
  refine lv_aload_n hx hb dX8_init_48 rfl (lv_at hl 2 rfl) ?_
  refine va_putF (D := D) (ci := 7) (v := .ref p2) (ty := (.object "DeputyTown$Service")) (C := RX8) (T := TX8) (N := 9) hx hb hts inX8 tyX8 tyX8_ok nmX8 hown hK hP hD hS 0 rfl rfl 1 (by decide) (hts _ k_195) (fun _ h9 => h9) rfl hin rfl (by decide +kernel) rfl rfl (Nat.le_of_ble_eq_true rfl) dX8_init_49 (fun H locs hP hD hS => ?_)
  have hP : va_P D vwCl [(h0, .inr (7, [.ref p1, .ref p2, .int 0, .int 0, .int (-9), .int 0, .int 0, .int (-9), .int (-9)]))] H := hP
  have hD : va_D A [(h0, .inr (7, [.ref p1, .ref p2, .int 0, .int 0, .int (-9), .int 0, .int 0, .int (-9), .int (-9)]))] := hD
  exact W.vret hx hb hr (fun t ht hW => ⟨⟨(), rfl, trivial, by rw [ht]; exact hP, va_K.moved hW.alike hK, hD⟩, hS.F ht⟩) hS.2.2 dX8_init_52

def r_X7_init : Room := { frames := 2, cells := 9, slots := 56, locals := 41 }
set_option maxRecDepth 100000 in
set_option maxHeartbeats 16000000 in
theorem c_X7_init (l : Launch) (D : va_G) (h0 sz : Nat)  : Met l yX7_init (wm yX7_init cX7_init 2 none) r_X7_init (va_Pc [.ref h0] (fun U => U.heap.size = sz ∧ va_P D vwCl [(h0, .inr (6, [.null, .int 0, .int 0]))] U.heap ∧ va_K D vwCl [] U ∧ va_D (fun _ => True) [(h0, .inr (6, [.null, .int 0, .int 0]))] ∧ NW U)) (va_Qv (fun _ : Unit => True) (fun _ U => ∃ (q1 : Nat) (q3 : Nat) (q4 : Nat) (q5 : Nat) (q6 : Nat) (q7 : Nat) (q8 : Nat) (q9 : Nat) (q10 : Nat), ∃ (c2 : ClassId), va_P D vwCl [(h0, .inr (6, [.ref q1, .int 0, .int 0])), (q1, .inl (c2, 8, .inr (.inr (.inr (.inr (va_up (va_up (va_up (va_up (va_up (va_up (va_up (va_up (fun _ => none) 0 (some q3)) 1 (some q4)) 2 (some q5)) 3 (some q6)) 4 (some q7)) 5 (some q8)) 6 (some q9)) 7 (some q10))))))), (q3, .inr (5, [.int 0, .int 0, .int 0, .int 0, .int 0, .int 0])), (q4, .inr (5, [.int 1, .int 0, .int 0, .int 0, .int 0, .int 0])), (q5, .inr (5, [.int 2, .int 0, .int 0, .int 0, .int 0, .int 0])), (q6, .inr (5, [.int 3, .int 0, .int 0, .int 0, .int 0, .int 0])), (q7, .inr (5, [.int 4, .int 0, .int 0, .int 0, .int 0, .int 0])), (q8, .inr (5, [.int 5, .int 0, .int 0, .int 0, .int 0, .int 0])), (q9, .inr (5, [.int 6, .int 0, .int 0, .int 0, .int 0, .int 0])), (q10, .inr (5, [.int 7, .int 0, .int 0, .int 0, .int 0, .int 0]))] U.heap ∧ va_K D vwCl [(c2, .object "DeputyTown$Thing")] U ∧ va_D (va_A [(h0, .inr (6, [.null, .int 0, .int 0]))] sz) [(h0, .inr (6, [.ref q1, .int 0, .int 0])), (q1, .inl (c2, 8, .inr (.inr (.inr (.inr (va_up (va_up (va_up (va_up (va_up (va_up (va_up (va_up (fun _ => none) 0 (some q3)) 1 (some q4)) 2 (some q5)) 3 (some q6)) 4 (some q7)) 5 (some q8)) 6 (some q9)) 7 (some q10))))))), (q3, .inr (5, [.int 0, .int 0, .int 0, .int 0, .int 0, .int 0])), (q4, .inr (5, [.int 1, .int 0, .int 0, .int 0, .int 0, .int 0])), (q5, .inr (5, [.int 2, .int 0, .int 0, .int 0, .int 0, .int 0])), (q6, .inr (5, [.int 3, .int 0, .int 0, .int 0, .int 0, .int 0])), (q7, .inr (5, [.int 4, .int 0, .int 0, .int 0, .int 0, .int 0])), (q8, .inr (5, [.int 5, .int 0, .int 0, .int 0, .int 0, .int 0])), (q9, .inr (5, [.int 6, .int 0, .int 0, .int 0, .int 0, .int 0])), (q10, .inr (5, [.int 7, .int 0, .int 0, .int 0, .int 0, .int 0]))]) (va_A [(h0, .inr (6, [.null, .int 0, .int 0]))] sz)) 9 56 (va_A [(h0, .inr (6, [.null, .int 0, .int 0]))] sz) := by
  refine Met.ofW (cc := cX7_init) (maxL := 2) (ret := none) (by decide) rfl ?_
  intro p e s m args below meth c s₁ B hml hv
  obtain ⟨rfl, hsz, hP, hK, hD0, hN⟩ := hv
  have hx := B.exec
  have hb := B.bytes
  have hr := B.returns
  have hts0 := atoms_spec (ws := wm yX7_init cX7_init 2 none) B.pre
  have hts : ∀ w ∈ lw_tg, w.before ([.ref h0] : List Value).toArray s = true := fun w h => hts0 w (List.mem_cons_of_mem _ h)
  have hown : s.vm.findClass RX7 = some m.cls := findClass_of_methodNamed B.named
  have hlocks := B.notSynchronized
  have hin : meth.name = "<init>" := (name_of_methodNamed B.named B.method).1
  subst hsz
  have hD := hD0.self (sz := s.heap.size)
  generalize hAe : va_A [(h0, .inr (6, [.null, .int 0, .int 0]))] s.heap.size = A at hD ⊢
  have hA : ∀ q : Nat, s.heap.size ≤ q → A q := fun q h => by rw [← hAe]; exact Or.inr h
  have hS : va_S A s.heap s.heap [] := va_S.rf
  have hP : va_P D vwCl [(h0, .inr (6, [.null, .int 0, .int 0]))] s.heap := hP
  have hl := lv_entry ([.ref h0]) (n := 2) (Nat.le_of_ble_eq_true rfl)
  rw [lg_entry_eq]
  generalize (lg_sl ([.ref h0]) ++ List.replicate (2 - (lg_sl ([.ref h0])).length) Slot.unset).toArray = ls at hl ⊢
  have hl : lv_has ls 2 [(0, .ref h0)] := hl
  refine lv_aload_n hx hb dX7_init_0 rfl (lv_at hl 0 rfl) ?_
  refine W.objInit hx hb hown (hts _ k_74) (hts _ k_65) (hts _ k_66) rfl (by rw [hml]; exact hl.1) rfl dX7_init_1 (Nat.le_of_ble_eq_true rfl) (Nat.le_of_ble_eq_true rfl) ?_
  refine W.eq (g2 := F0 m 4 ls []) rfl ?_
  refine lv_aload_n hx hb dX7_init_4 rfl (lv_at hl 0 rfl) ?_
  refine lv_bipush (v := 8) hx hb dX7_init_5 (by decide) ?_
  refine va_newq (N' := 8) hx hb hown (hts _ k_75) (hN _ k_76) hK hP hD hS hA (by decide) (by decide) (Nat.le_of_ble_eq_true rfl) (Nat.le_of_ble_eq_true rfl) (Nat.le_of_ble_eq_true rfl) dX7_init_7 (fun q1 c2 H hK hP hD hS => ?_)
  have hP : va_P D vwCl [(h0, .inr (6, [.null, .int 0, .int 0])), (q1, .inl (c2, 8, .inr (.inr (.inr (.inr (fun _ => none))))))] H := hP
  have hD : va_D A [(h0, .inr (6, [.null, .int 0, .int 0])), (q1, .inl (c2, 8, .inr (.inr (.inr (.inr (fun _ => none))))))] := hD
  have hK : va_K D vwCl [(c2, .object "DeputyTown$Thing")] s := hK
  refine W.widen (k := 1) (n := 8) (Nat.le_of_ble_eq_true rfl) (Nat.le_of_ble_eq_true rfl) ?_
  refine va_putF (D := D) (ci := 6) (v := .ref q1) (ty := (.array (.object "DeputyTown$Thing"))) (C := RX7) (T := TX7) (N := 3) hx hb hts inX7 tyX7 tyX7_ok nmX7 hown hK hP hD hS 0 rfl rfl 0 (by decide) (hts _ k_115) (fun _ h9 => h9) rfl hin rfl (by decide +kernel) rfl rfl (Nat.le_of_ble_eq_true rfl) dX7_init_10 (fun H locs hP hD hS => ?_)
  have hP : va_P D vwCl [(h0, .inr (6, [.ref q1, .int 0, .int 0])), (q1, .inl (c2, 8, .inr (.inr (.inr (.inr (fun _ => none))))))] H := hP
  have hD : va_D A [(h0, .inr (6, [.ref q1, .int 0, .int 0])), (q1, .inl (c2, 8, .inr (.inr (.inr (.inr (fun _ => none))))))] := hD
  refine lv_aload_n hx hb dX7_init_13 rfl (lv_at hl 0 rfl) ?_
  refine lv_iconst (v := 0) hx hb dX7_init_14 (by decide) ?_
  refine va_put (D := D) (ci := 6) (v := .int 0) (ty := .int) (C := RX7) (T := TX7) (N := 3) hx hb hts inX7 tyX7 tyX7_ok nmX7 hown hK hP hD hS 0 rfl rfl 1 (by decide) (hts _ k_116) (fun _ h9 => h9) rfl (by decide +kernel) rfl rfl (Nat.le_of_ble_eq_true rfl) dX7_init_15 (fun H locs hP hD hS => ?_)
  have hP : va_P D vwCl [(h0, .inr (6, [.ref q1, .int 0, .int 0])), (q1, .inl (c2, 8, .inr (.inr (.inr (.inr (fun _ => none))))))] H := hP
  have hD : va_D A [(h0, .inr (6, [.ref q1, .int 0, .int 0])), (q1, .inl (c2, 8, .inr (.inr (.inr (.inr (fun _ => none))))))] := hD
  refine lv_aload_n hx hb dX7_init_18 rfl (lv_at hl 0 rfl) ?_
  refine lv_iconst (v := 0) hx hb dX7_init_19 (by decide) ?_
  refine va_put (D := D) (ci := 6) (v := .int 0) (ty := .int) (C := RX7) (T := TX7) (N := 3) hx hb hts inX7 tyX7 tyX7_ok nmX7 hown hK hP hD hS 0 rfl rfl 2 (by decide) (hts _ k_120) (fun _ h9 => h9) rfl (by decide +kernel) rfl rfl (Nat.le_of_ble_eq_true rfl) dX7_init_20 (fun H locs hP hD hS => ?_)
  have hP : va_P D vwCl [(h0, .inr (6, [.ref q1, .int 0, .int 0])), (q1, .inl (c2, 8, .inr (.inr (.inr (.inr (fun _ => none))))))] H := hP
  have hD : va_D A [(h0, .inr (6, [.ref q1, .int 0, .int 0])), (q1, .inl (c2, 8, .inr (.inr (.inr (.inr (fun _ => none))))))] := hD
  refine lv_iconst (v := 0) hx hb dX7_init_23 (by decide) ?_
  refine lv_istore_n (lv' := [(1, .int 0), (0, .ref h0)]) hx hb dX7_init_24 rfl hl (by decide) rfl (fun ls hl => ?_)
  refine lv_iload_n hx hb dX7_init_25 rfl (lv_at hl 0 rfl) ?_
  refine lv_bipush (v := 8) hx hb dX7_init_26 (by decide) ?_
  refine lv_icmp_ge (tgt := 51) hx hb dX7_init_28 (by decide) (fun cc0 => absurd cc0 (by decide)) (fun cc0 => ?_)
  refine lv_aload_n hx hb dX7_init_31 rfl (lv_at hl 1 rfl) ?_
  refine va_get (D := D) (ci := 6) (v := .ref q1) (C := RX7) (T := TX7) (N := 3) hx hb hts inX7 hown hK hP 0 rfl rfl 0 (by decide) (hts _ k_115) (fun _ h9 => h9) rfl dX7_init_32 ?_
  refine lv_iload_n hx hb dX7_init_35 rfl (lv_at hl 0 rfl) ?_
  refine va_new (ci := 5) (fs := [.int 0, .int 0, .int 0, .int 0, .int 0, .int 0]) (C := RX6) (T := TX6) (N := 6) hx hb hts inX6 tyX6 tyX6_ok hown (hts _ k_75) (hts _ k_77) (hts _ k_46) hK hP hD hS hA rfl (fun j hj => by rcases (show j = 0 ∨ j = 1 ∨ j = 2 ∨ j = 3 ∨ j = 4 ∨ j = 5 by omega) with rfl | rfl | rfl | rfl | rfl | rfl <;> rfl) (Nat.le_of_ble_eq_true rfl) (Nat.le_of_ble_eq_true rfl) dX7_init_36 (fun q3 H hP hD hS => ?_)
  have hP : va_P D vwCl [(h0, .inr (6, [.ref q1, .int 0, .int 0])), (q1, .inl (c2, 8, .inr (.inr (.inr (.inr (fun _ => none)))))), (q3, .inr (5, [.int 0, .int 0, .int 0, .int 0, .int 0, .int 0]))] H := hP
  have hD : va_D A [(h0, .inr (6, [.ref q1, .int 0, .int 0])), (q1, .inl (c2, 8, .inr (.inr (.inr (.inr (fun _ => none)))))), (q3, .inr (5, [.int 0, .int 0, .int 0, .int 0, .int 0, .int 0]))] := hD
  refine W.widen (k := 2) (n := 14) (Nat.le_of_ble_eq_true rfl) (Nat.le_of_ble_eq_true rfl) ?_
  refine lv_dup hx hb dX7_init_39 rfl ?_
  refine lv_iload_n hx hb dX7_init_40 rfl (lv_at hl 0 rfl) ?_
  have hPc := hP.sub (ws' := [(q3, .inr (5, [.int 0, .int 0, .int 0, .int 0, .int 0, .int 0]))]) [2] rfl
  have hDc := hD.sub (ws' := [(q3, .inr (5, [.int 0, .int 0, .int 0, .int 0, .int 0, .int 0]))]) [2] (by decide) rfl
  have hKc := hK.sub (tys' := []) [] rfl
  have hFc := va_free (wc := [(q3, .inr (5, [.int 0, .int 0, .int 0, .int 0, .int 0, .int 0]))]) hD hS hA [2] rfl
  refine va_callv (va_runI (As := [.int 0]) (rest := [.ref q3, .int 0, .ref q1]) ⟨hx, hb, hml, hown, hts⟩ (c_X6_init l D q3 H.size (0)) (cwI 1 hts (gd_wm k_80) rfl rfl rfl (hts _ k_46) (hts _ k_78) (hts _ k_79) rfl ⟨by decide +kernel, by decide +kernel, by decide +kernel⟩ ⟨Nat.le_of_ble_eq_true rfl, Nat.le_of_ble_eq_true rfl⟩) ⟨fun a U g mk q => by obtain ⟨q0, q1, qP, qK, qD, qN⟩ := q; exact ⟨q0, q1, qP, va_K.moved (u := U) (U := U.calling g mk a) (Vm.Alike.refl U.vm) qK, qD, NW.same (u := U) (U := U.calling g mk a) rfl qN⟩, fun U hU hW => ⟨rfl, by rw [hU], by rw [hU]; exact hPc, va_K.moved hW.alike hKc, hDc.weaken (fun _ _ _ _ => trivial), NW.warm hW hN⟩⟩ rfl rfl hl.1 rfl (lv_room (Nat.le_of_ble_eq_true rfl)) dX7_init_41 ⟨Nat.le_of_ble_eq_true rfl, Nat.le_of_ble_eq_true rfl⟩) hS (fun q _ h => hFc q h) hFc (fun u t H1 locs ht hvm hw hB hz1 hk1 hS => ?_)
  obtain ⟨hP1, hK1, hD1⟩ := hB
  rw [ht] at hP1
  have hK1 := va_K.moved hvm.symm hK1
  obtain ⟨hP, hD⟩ := va_join (wr := [(h0, .inr (6, [.ref q1, .int 0, .int 0])), (q1, .inl (c2, 8, .inr (.inr (.inr (.inr (fun _ => none))))))]) (w1 := [(q3, .inr (5, [.int 0, .int 0, .int 0, .int 0, .int 0, .int 0]))]) hP hD [2] [0, 1] rfl rfl (by decide) (by decide) hk1 hFc hP1 hD1
  have hK := (hK.sub (tys' := [(c2, .object "DeputyTown$Thing")]) [0] rfl).app hK1
  generalize H1 = H at hP hS ⊢
  have hP : va_P D vwCl [(h0, .inr (6, [.ref q1, .int 0, .int 0])), (q1, .inl (c2, 8, .inr (.inr (.inr (.inr (fun _ => none)))))), (q3, .inr (5, [.int 0, .int 0, .int 0, .int 0, .int 0, .int 0]))] H := hP
  have hD : va_D A [(h0, .inr (6, [.ref q1, .int 0, .int 0])), (q1, .inl (c2, 8, .inr (.inr (.inr (.inr (fun _ => none)))))), (q3, .inr (5, [.int 0, .int 0, .int 0, .int 0, .int 0, .int 0]))] := hD
  have hK : va_K D vwCl [(c2, .object "DeputyTown$Thing")] s := hK
  refine W.widen (k := 2) (n := 14) (Nat.le_of_ble_eq_true rfl) (Nat.le_of_ble_eq_true rfl) ?_
  refine va_astq hx hb hK hP hD hS 1 0 2 5 rfl rfl rfl rfl (by rw [vp_in_iff]; decide) dX7_init_44 (fun H locs hP hD hS => ?_)
  have hP : va_P D vwCl [(h0, .inr (6, [.ref q1, .int 0, .int 0])), (q1, .inl (c2, 8, .inr (.inr (.inr (.inr (va_up (fun _ => none) 0 (some q3))))))), (q3, .inr (5, [.int 0, .int 0, .int 0, .int 0, .int 0, .int 0]))] H := hP
  have hD : va_D A [(h0, .inr (6, [.ref q1, .int 0, .int 0])), (q1, .inl (c2, 8, .inr (.inr (.inr (.inr (va_up (fun _ => none) 0 (some q3))))))), (q3, .inr (5, [.int 0, .int 0, .int 0, .int 0, .int 0, .int 0]))] := hD
  refine lv_iinc (v := 1) (lv' := [(1, .int 1), (0, .ref h0)]) hx hb dX7_init_45 hl (k := 0) rfl (by decide) (by decide) rfl (fun ls hl => ?_)
  refine lv_goto (tgt := 25) hx hb dX7_init_48 (by decide) ?_
  refine lv_iload_n hx hb dX7_init_25 rfl (lv_at hl 0 rfl) ?_
  refine lv_bipush (v := 8) hx hb dX7_init_26 (by decide) ?_
  refine lv_icmp_ge (tgt := 51) hx hb dX7_init_28 (by decide) (fun cc0 => absurd cc0 (by decide)) (fun cc0 => ?_)
  refine lv_aload_n hx hb dX7_init_31 rfl (lv_at hl 1 rfl) ?_
  refine va_get (D := D) (ci := 6) (v := .ref q1) (C := RX7) (T := TX7) (N := 3) hx hb hts inX7 hown hK hP 0 rfl rfl 0 (by decide) (hts _ k_115) (fun _ h9 => h9) rfl dX7_init_32 ?_
  refine lv_iload_n hx hb dX7_init_35 rfl (lv_at hl 0 rfl) ?_
  refine va_new (ci := 5) (fs := [.int 0, .int 0, .int 0, .int 0, .int 0, .int 0]) (C := RX6) (T := TX6) (N := 6) hx hb hts inX6 tyX6 tyX6_ok hown (hts _ k_75) (hts _ k_77) (hts _ k_46) hK hP hD hS hA rfl (fun j hj => by rcases (show j = 0 ∨ j = 1 ∨ j = 2 ∨ j = 3 ∨ j = 4 ∨ j = 5 by omega) with rfl | rfl | rfl | rfl | rfl | rfl <;> rfl) (Nat.le_of_ble_eq_true rfl) (Nat.le_of_ble_eq_true rfl) dX7_init_36 (fun q4 H hP hD hS => ?_)
  have hP : va_P D vwCl [(h0, .inr (6, [.ref q1, .int 0, .int 0])), (q1, .inl (c2, 8, .inr (.inr (.inr (.inr (va_up (fun _ => none) 0 (some q3))))))), (q3, .inr (5, [.int 0, .int 0, .int 0, .int 0, .int 0, .int 0])), (q4, .inr (5, [.int 0, .int 0, .int 0, .int 0, .int 0, .int 0]))] H := hP
  have hD : va_D A [(h0, .inr (6, [.ref q1, .int 0, .int 0])), (q1, .inl (c2, 8, .inr (.inr (.inr (.inr (va_up (fun _ => none) 0 (some q3))))))), (q3, .inr (5, [.int 0, .int 0, .int 0, .int 0, .int 0, .int 0])), (q4, .inr (5, [.int 0, .int 0, .int 0, .int 0, .int 0, .int 0]))] := hD
  refine W.widen (k := 3) (n := 20) (Nat.le_of_ble_eq_true rfl) (Nat.le_of_ble_eq_true rfl) ?_
  refine lv_dup hx hb dX7_init_39 rfl ?_
  refine lv_iload_n hx hb dX7_init_40 rfl (lv_at hl 0 rfl) ?_
  have hPc := hP.sub (ws' := [(q4, .inr (5, [.int 0, .int 0, .int 0, .int 0, .int 0, .int 0]))]) [3] rfl
  have hDc := hD.sub (ws' := [(q4, .inr (5, [.int 0, .int 0, .int 0, .int 0, .int 0, .int 0]))]) [3] (by decide) rfl
  have hKc := hK.sub (tys' := []) [] rfl
  have hFc := va_free (wc := [(q4, .inr (5, [.int 0, .int 0, .int 0, .int 0, .int 0, .int 0]))]) hD hS hA [3] rfl
  refine va_callv (va_runI (As := [.int 1]) (rest := [.ref q4, .int 1, .ref q1]) ⟨hx, hb, hml, hown, hts⟩ (c_X6_init l D q4 H.size (1)) (cwI 1 hts (gd_wm k_80) rfl rfl rfl (hts _ k_46) (hts _ k_78) (hts _ k_79) rfl ⟨by decide +kernel, by decide +kernel, by decide +kernel⟩ ⟨Nat.le_of_ble_eq_true rfl, Nat.le_of_ble_eq_true rfl⟩) ⟨fun a U g mk q => by obtain ⟨q0, q1, qP, qK, qD, qN⟩ := q; exact ⟨q0, q1, qP, va_K.moved (u := U) (U := U.calling g mk a) (Vm.Alike.refl U.vm) qK, qD, NW.same (u := U) (U := U.calling g mk a) rfl qN⟩, fun U hU hW => ⟨rfl, by rw [hU], by rw [hU]; exact hPc, va_K.moved hW.alike hKc, hDc.weaken (fun _ _ _ _ => trivial), NW.warm hW hN⟩⟩ rfl rfl hl.1 rfl (lv_room (Nat.le_of_ble_eq_true rfl)) dX7_init_41 ⟨Nat.le_of_ble_eq_true rfl, Nat.le_of_ble_eq_true rfl⟩) hS (fun q _ h => hFc q h) hFc (fun u t H1 locs ht hvm hw hB hz1 hk1 hS => ?_)
  obtain ⟨hP1, hK1, hD1⟩ := hB
  rw [ht] at hP1
  have hK1 := va_K.moved hvm.symm hK1
  obtain ⟨hP, hD⟩ := va_join (wr := [(h0, .inr (6, [.ref q1, .int 0, .int 0])), (q1, .inl (c2, 8, .inr (.inr (.inr (.inr (va_up (fun _ => none) 0 (some q3))))))), (q3, .inr (5, [.int 0, .int 0, .int 0, .int 0, .int 0, .int 0]))]) (w1 := [(q4, .inr (5, [.int 1, .int 0, .int 0, .int 0, .int 0, .int 0]))]) hP hD [3] [0, 1, 2] rfl rfl (by decide) (by decide) hk1 hFc hP1 hD1
  have hK := (hK.sub (tys' := [(c2, .object "DeputyTown$Thing")]) [0] rfl).app hK1
  generalize H1 = H at hP hS ⊢
  have hP : va_P D vwCl [(h0, .inr (6, [.ref q1, .int 0, .int 0])), (q1, .inl (c2, 8, .inr (.inr (.inr (.inr (va_up (fun _ => none) 0 (some q3))))))), (q3, .inr (5, [.int 0, .int 0, .int 0, .int 0, .int 0, .int 0])), (q4, .inr (5, [.int 1, .int 0, .int 0, .int 0, .int 0, .int 0]))] H := hP
  have hD : va_D A [(h0, .inr (6, [.ref q1, .int 0, .int 0])), (q1, .inl (c2, 8, .inr (.inr (.inr (.inr (va_up (fun _ => none) 0 (some q3))))))), (q3, .inr (5, [.int 0, .int 0, .int 0, .int 0, .int 0, .int 0])), (q4, .inr (5, [.int 1, .int 0, .int 0, .int 0, .int 0, .int 0]))] := hD
  have hK : va_K D vwCl [(c2, .object "DeputyTown$Thing")] s := hK
  refine W.widen (k := 3) (n := 20) (Nat.le_of_ble_eq_true rfl) (Nat.le_of_ble_eq_true rfl) ?_
  refine va_astq hx hb hK hP hD hS 1 0 3 5 rfl rfl rfl rfl (by rw [vp_in_iff]; decide) dX7_init_44 (fun H locs hP hD hS => ?_)
  have hP : va_P D vwCl [(h0, .inr (6, [.ref q1, .int 0, .int 0])), (q1, .inl (c2, 8, .inr (.inr (.inr (.inr (va_up (va_up (fun _ => none) 0 (some q3)) 1 (some q4))))))), (q3, .inr (5, [.int 0, .int 0, .int 0, .int 0, .int 0, .int 0])), (q4, .inr (5, [.int 1, .int 0, .int 0, .int 0, .int 0, .int 0]))] H := hP
  have hD : va_D A [(h0, .inr (6, [.ref q1, .int 0, .int 0])), (q1, .inl (c2, 8, .inr (.inr (.inr (.inr (va_up (va_up (fun _ => none) 0 (some q3)) 1 (some q4))))))), (q3, .inr (5, [.int 0, .int 0, .int 0, .int 0, .int 0, .int 0])), (q4, .inr (5, [.int 1, .int 0, .int 0, .int 0, .int 0, .int 0]))] := hD
  refine lv_iinc (v := 2) (lv' := [(1, .int 2), (0, .ref h0)]) hx hb dX7_init_45 hl (k := 0) rfl (by decide) (by decide) rfl (fun ls hl => ?_)
  refine lv_goto (tgt := 25) hx hb dX7_init_48 (by decide) ?_
  refine lv_iload_n hx hb dX7_init_25 rfl (lv_at hl 0 rfl) ?_
  refine lv_bipush (v := 8) hx hb dX7_init_26 (by decide) ?_
  refine lv_icmp_ge (tgt := 51) hx hb dX7_init_28 (by decide) (fun cc0 => absurd cc0 (by decide)) (fun cc0 => ?_)
  refine lv_aload_n hx hb dX7_init_31 rfl (lv_at hl 1 rfl) ?_
  refine va_get (D := D) (ci := 6) (v := .ref q1) (C := RX7) (T := TX7) (N := 3) hx hb hts inX7 hown hK hP 0 rfl rfl 0 (by decide) (hts _ k_115) (fun _ h9 => h9) rfl dX7_init_32 ?_
  refine lv_iload_n hx hb dX7_init_35 rfl (lv_at hl 0 rfl) ?_
  refine va_new (ci := 5) (fs := [.int 0, .int 0, .int 0, .int 0, .int 0, .int 0]) (C := RX6) (T := TX6) (N := 6) hx hb hts inX6 tyX6 tyX6_ok hown (hts _ k_75) (hts _ k_77) (hts _ k_46) hK hP hD hS hA rfl (fun j hj => by rcases (show j = 0 ∨ j = 1 ∨ j = 2 ∨ j = 3 ∨ j = 4 ∨ j = 5 by omega) with rfl | rfl | rfl | rfl | rfl | rfl <;> rfl) (Nat.le_of_ble_eq_true rfl) (Nat.le_of_ble_eq_true rfl) dX7_init_36 (fun q5 H hP hD hS => ?_)
  have hP : va_P D vwCl [(h0, .inr (6, [.ref q1, .int 0, .int 0])), (q1, .inl (c2, 8, .inr (.inr (.inr (.inr (va_up (va_up (fun _ => none) 0 (some q3)) 1 (some q4))))))), (q3, .inr (5, [.int 0, .int 0, .int 0, .int 0, .int 0, .int 0])), (q4, .inr (5, [.int 1, .int 0, .int 0, .int 0, .int 0, .int 0])), (q5, .inr (5, [.int 0, .int 0, .int 0, .int 0, .int 0, .int 0]))] H := hP
  have hD : va_D A [(h0, .inr (6, [.ref q1, .int 0, .int 0])), (q1, .inl (c2, 8, .inr (.inr (.inr (.inr (va_up (va_up (fun _ => none) 0 (some q3)) 1 (some q4))))))), (q3, .inr (5, [.int 0, .int 0, .int 0, .int 0, .int 0, .int 0])), (q4, .inr (5, [.int 1, .int 0, .int 0, .int 0, .int 0, .int 0])), (q5, .inr (5, [.int 0, .int 0, .int 0, .int 0, .int 0, .int 0]))] := hD
  refine W.widen (k := 4) (n := 26) (Nat.le_of_ble_eq_true rfl) (Nat.le_of_ble_eq_true rfl) ?_
  refine lv_dup hx hb dX7_init_39 rfl ?_
  refine lv_iload_n hx hb dX7_init_40 rfl (lv_at hl 0 rfl) ?_
  have hPc := hP.sub (ws' := [(q5, .inr (5, [.int 0, .int 0, .int 0, .int 0, .int 0, .int 0]))]) [4] rfl
  have hDc := hD.sub (ws' := [(q5, .inr (5, [.int 0, .int 0, .int 0, .int 0, .int 0, .int 0]))]) [4] (by decide) rfl
  have hKc := hK.sub (tys' := []) [] rfl
  have hFc := va_free (wc := [(q5, .inr (5, [.int 0, .int 0, .int 0, .int 0, .int 0, .int 0]))]) hD hS hA [4] rfl
  refine va_callv (va_runI (As := [.int 2]) (rest := [.ref q5, .int 2, .ref q1]) ⟨hx, hb, hml, hown, hts⟩ (c_X6_init l D q5 H.size (2)) (cwI 1 hts (gd_wm k_80) rfl rfl rfl (hts _ k_46) (hts _ k_78) (hts _ k_79) rfl ⟨by decide +kernel, by decide +kernel, by decide +kernel⟩ ⟨Nat.le_of_ble_eq_true rfl, Nat.le_of_ble_eq_true rfl⟩) ⟨fun a U g mk q => by obtain ⟨q0, q1, qP, qK, qD, qN⟩ := q; exact ⟨q0, q1, qP, va_K.moved (u := U) (U := U.calling g mk a) (Vm.Alike.refl U.vm) qK, qD, NW.same (u := U) (U := U.calling g mk a) rfl qN⟩, fun U hU hW => ⟨rfl, by rw [hU], by rw [hU]; exact hPc, va_K.moved hW.alike hKc, hDc.weaken (fun _ _ _ _ => trivial), NW.warm hW hN⟩⟩ rfl rfl hl.1 rfl (lv_room (Nat.le_of_ble_eq_true rfl)) dX7_init_41 ⟨Nat.le_of_ble_eq_true rfl, Nat.le_of_ble_eq_true rfl⟩) hS (fun q _ h => hFc q h) hFc (fun u t H1 locs ht hvm hw hB hz1 hk1 hS => ?_)
  obtain ⟨hP1, hK1, hD1⟩ := hB
  rw [ht] at hP1
  have hK1 := va_K.moved hvm.symm hK1
  obtain ⟨hP, hD⟩ := va_join (wr := [(h0, .inr (6, [.ref q1, .int 0, .int 0])), (q1, .inl (c2, 8, .inr (.inr (.inr (.inr (va_up (va_up (fun _ => none) 0 (some q3)) 1 (some q4))))))), (q3, .inr (5, [.int 0, .int 0, .int 0, .int 0, .int 0, .int 0])), (q4, .inr (5, [.int 1, .int 0, .int 0, .int 0, .int 0, .int 0]))]) (w1 := [(q5, .inr (5, [.int 2, .int 0, .int 0, .int 0, .int 0, .int 0]))]) hP hD [4] [0, 1, 2, 3] rfl rfl (by decide) (by decide) hk1 hFc hP1 hD1
  have hK := (hK.sub (tys' := [(c2, .object "DeputyTown$Thing")]) [0] rfl).app hK1
  generalize H1 = H at hP hS ⊢
  have hP : va_P D vwCl [(h0, .inr (6, [.ref q1, .int 0, .int 0])), (q1, .inl (c2, 8, .inr (.inr (.inr (.inr (va_up (va_up (fun _ => none) 0 (some q3)) 1 (some q4))))))), (q3, .inr (5, [.int 0, .int 0, .int 0, .int 0, .int 0, .int 0])), (q4, .inr (5, [.int 1, .int 0, .int 0, .int 0, .int 0, .int 0])), (q5, .inr (5, [.int 2, .int 0, .int 0, .int 0, .int 0, .int 0]))] H := hP
  have hD : va_D A [(h0, .inr (6, [.ref q1, .int 0, .int 0])), (q1, .inl (c2, 8, .inr (.inr (.inr (.inr (va_up (va_up (fun _ => none) 0 (some q3)) 1 (some q4))))))), (q3, .inr (5, [.int 0, .int 0, .int 0, .int 0, .int 0, .int 0])), (q4, .inr (5, [.int 1, .int 0, .int 0, .int 0, .int 0, .int 0])), (q5, .inr (5, [.int 2, .int 0, .int 0, .int 0, .int 0, .int 0]))] := hD
  have hK : va_K D vwCl [(c2, .object "DeputyTown$Thing")] s := hK
  refine W.widen (k := 4) (n := 26) (Nat.le_of_ble_eq_true rfl) (Nat.le_of_ble_eq_true rfl) ?_
  refine va_astq hx hb hK hP hD hS 1 0 4 5 rfl rfl rfl rfl (by rw [vp_in_iff]; decide) dX7_init_44 (fun H locs hP hD hS => ?_)
  have hP : va_P D vwCl [(h0, .inr (6, [.ref q1, .int 0, .int 0])), (q1, .inl (c2, 8, .inr (.inr (.inr (.inr (va_up (va_up (va_up (fun _ => none) 0 (some q3)) 1 (some q4)) 2 (some q5))))))), (q3, .inr (5, [.int 0, .int 0, .int 0, .int 0, .int 0, .int 0])), (q4, .inr (5, [.int 1, .int 0, .int 0, .int 0, .int 0, .int 0])), (q5, .inr (5, [.int 2, .int 0, .int 0, .int 0, .int 0, .int 0]))] H := hP
  have hD : va_D A [(h0, .inr (6, [.ref q1, .int 0, .int 0])), (q1, .inl (c2, 8, .inr (.inr (.inr (.inr (va_up (va_up (va_up (fun _ => none) 0 (some q3)) 1 (some q4)) 2 (some q5))))))), (q3, .inr (5, [.int 0, .int 0, .int 0, .int 0, .int 0, .int 0])), (q4, .inr (5, [.int 1, .int 0, .int 0, .int 0, .int 0, .int 0])), (q5, .inr (5, [.int 2, .int 0, .int 0, .int 0, .int 0, .int 0]))] := hD
  refine lv_iinc (v := 3) (lv' := [(1, .int 3), (0, .ref h0)]) hx hb dX7_init_45 hl (k := 0) rfl (by decide) (by decide) rfl (fun ls hl => ?_)
  refine lv_goto (tgt := 25) hx hb dX7_init_48 (by decide) ?_
  refine lv_iload_n hx hb dX7_init_25 rfl (lv_at hl 0 rfl) ?_
  refine lv_bipush (v := 8) hx hb dX7_init_26 (by decide) ?_
  refine lv_icmp_ge (tgt := 51) hx hb dX7_init_28 (by decide) (fun cc0 => absurd cc0 (by decide)) (fun cc0 => ?_)
  refine lv_aload_n hx hb dX7_init_31 rfl (lv_at hl 1 rfl) ?_
  refine va_get (D := D) (ci := 6) (v := .ref q1) (C := RX7) (T := TX7) (N := 3) hx hb hts inX7 hown hK hP 0 rfl rfl 0 (by decide) (hts _ k_115) (fun _ h9 => h9) rfl dX7_init_32 ?_
  refine lv_iload_n hx hb dX7_init_35 rfl (lv_at hl 0 rfl) ?_
  refine va_new (ci := 5) (fs := [.int 0, .int 0, .int 0, .int 0, .int 0, .int 0]) (C := RX6) (T := TX6) (N := 6) hx hb hts inX6 tyX6 tyX6_ok hown (hts _ k_75) (hts _ k_77) (hts _ k_46) hK hP hD hS hA rfl (fun j hj => by rcases (show j = 0 ∨ j = 1 ∨ j = 2 ∨ j = 3 ∨ j = 4 ∨ j = 5 by omega) with rfl | rfl | rfl | rfl | rfl | rfl <;> rfl) (Nat.le_of_ble_eq_true rfl) (Nat.le_of_ble_eq_true rfl) dX7_init_36 (fun q6 H hP hD hS => ?_)
  have hP : va_P D vwCl [(h0, .inr (6, [.ref q1, .int 0, .int 0])), (q1, .inl (c2, 8, .inr (.inr (.inr (.inr (va_up (va_up (va_up (fun _ => none) 0 (some q3)) 1 (some q4)) 2 (some q5))))))), (q3, .inr (5, [.int 0, .int 0, .int 0, .int 0, .int 0, .int 0])), (q4, .inr (5, [.int 1, .int 0, .int 0, .int 0, .int 0, .int 0])), (q5, .inr (5, [.int 2, .int 0, .int 0, .int 0, .int 0, .int 0])), (q6, .inr (5, [.int 0, .int 0, .int 0, .int 0, .int 0, .int 0]))] H := hP
  have hD : va_D A [(h0, .inr (6, [.ref q1, .int 0, .int 0])), (q1, .inl (c2, 8, .inr (.inr (.inr (.inr (va_up (va_up (va_up (fun _ => none) 0 (some q3)) 1 (some q4)) 2 (some q5))))))), (q3, .inr (5, [.int 0, .int 0, .int 0, .int 0, .int 0, .int 0])), (q4, .inr (5, [.int 1, .int 0, .int 0, .int 0, .int 0, .int 0])), (q5, .inr (5, [.int 2, .int 0, .int 0, .int 0, .int 0, .int 0])), (q6, .inr (5, [.int 0, .int 0, .int 0, .int 0, .int 0, .int 0]))] := hD
  refine W.widen (k := 5) (n := 32) (Nat.le_of_ble_eq_true rfl) (Nat.le_of_ble_eq_true rfl) ?_
  refine lv_dup hx hb dX7_init_39 rfl ?_
  refine lv_iload_n hx hb dX7_init_40 rfl (lv_at hl 0 rfl) ?_
  have hPc := hP.sub (ws' := [(q6, .inr (5, [.int 0, .int 0, .int 0, .int 0, .int 0, .int 0]))]) [5] rfl
  have hDc := hD.sub (ws' := [(q6, .inr (5, [.int 0, .int 0, .int 0, .int 0, .int 0, .int 0]))]) [5] (by decide) rfl
  have hKc := hK.sub (tys' := []) [] rfl
  have hFc := va_free (wc := [(q6, .inr (5, [.int 0, .int 0, .int 0, .int 0, .int 0, .int 0]))]) hD hS hA [5] rfl
  refine va_callv (va_runI (As := [.int 3]) (rest := [.ref q6, .int 3, .ref q1]) ⟨hx, hb, hml, hown, hts⟩ (c_X6_init l D q6 H.size (3)) (cwI 1 hts (gd_wm k_80) rfl rfl rfl (hts _ k_46) (hts _ k_78) (hts _ k_79) rfl ⟨by decide +kernel, by decide +kernel, by decide +kernel⟩ ⟨Nat.le_of_ble_eq_true rfl, Nat.le_of_ble_eq_true rfl⟩) ⟨fun a U g mk q => by obtain ⟨q0, q1, qP, qK, qD, qN⟩ := q; exact ⟨q0, q1, qP, va_K.moved (u := U) (U := U.calling g mk a) (Vm.Alike.refl U.vm) qK, qD, NW.same (u := U) (U := U.calling g mk a) rfl qN⟩, fun U hU hW => ⟨rfl, by rw [hU], by rw [hU]; exact hPc, va_K.moved hW.alike hKc, hDc.weaken (fun _ _ _ _ => trivial), NW.warm hW hN⟩⟩ rfl rfl hl.1 rfl (lv_room (Nat.le_of_ble_eq_true rfl)) dX7_init_41 ⟨Nat.le_of_ble_eq_true rfl, Nat.le_of_ble_eq_true rfl⟩) hS (fun q _ h => hFc q h) hFc (fun u t H1 locs ht hvm hw hB hz1 hk1 hS => ?_)
  obtain ⟨hP1, hK1, hD1⟩ := hB
  rw [ht] at hP1
  have hK1 := va_K.moved hvm.symm hK1
  obtain ⟨hP, hD⟩ := va_join (wr := [(h0, .inr (6, [.ref q1, .int 0, .int 0])), (q1, .inl (c2, 8, .inr (.inr (.inr (.inr (va_up (va_up (va_up (fun _ => none) 0 (some q3)) 1 (some q4)) 2 (some q5))))))), (q3, .inr (5, [.int 0, .int 0, .int 0, .int 0, .int 0, .int 0])), (q4, .inr (5, [.int 1, .int 0, .int 0, .int 0, .int 0, .int 0])), (q5, .inr (5, [.int 2, .int 0, .int 0, .int 0, .int 0, .int 0]))]) (w1 := [(q6, .inr (5, [.int 3, .int 0, .int 0, .int 0, .int 0, .int 0]))]) hP hD [5] [0, 1, 2, 3, 4] rfl rfl (by decide) (by decide) hk1 hFc hP1 hD1
  have hK := (hK.sub (tys' := [(c2, .object "DeputyTown$Thing")]) [0] rfl).app hK1
  generalize H1 = H at hP hS ⊢
  have hP : va_P D vwCl [(h0, .inr (6, [.ref q1, .int 0, .int 0])), (q1, .inl (c2, 8, .inr (.inr (.inr (.inr (va_up (va_up (va_up (fun _ => none) 0 (some q3)) 1 (some q4)) 2 (some q5))))))), (q3, .inr (5, [.int 0, .int 0, .int 0, .int 0, .int 0, .int 0])), (q4, .inr (5, [.int 1, .int 0, .int 0, .int 0, .int 0, .int 0])), (q5, .inr (5, [.int 2, .int 0, .int 0, .int 0, .int 0, .int 0])), (q6, .inr (5, [.int 3, .int 0, .int 0, .int 0, .int 0, .int 0]))] H := hP
  have hD : va_D A [(h0, .inr (6, [.ref q1, .int 0, .int 0])), (q1, .inl (c2, 8, .inr (.inr (.inr (.inr (va_up (va_up (va_up (fun _ => none) 0 (some q3)) 1 (some q4)) 2 (some q5))))))), (q3, .inr (5, [.int 0, .int 0, .int 0, .int 0, .int 0, .int 0])), (q4, .inr (5, [.int 1, .int 0, .int 0, .int 0, .int 0, .int 0])), (q5, .inr (5, [.int 2, .int 0, .int 0, .int 0, .int 0, .int 0])), (q6, .inr (5, [.int 3, .int 0, .int 0, .int 0, .int 0, .int 0]))] := hD
  have hK : va_K D vwCl [(c2, .object "DeputyTown$Thing")] s := hK
  refine W.widen (k := 5) (n := 32) (Nat.le_of_ble_eq_true rfl) (Nat.le_of_ble_eq_true rfl) ?_
  refine va_astq hx hb hK hP hD hS 1 0 5 5 rfl rfl rfl rfl (by rw [vp_in_iff]; decide) dX7_init_44 (fun H locs hP hD hS => ?_)
  have hP : va_P D vwCl [(h0, .inr (6, [.ref q1, .int 0, .int 0])), (q1, .inl (c2, 8, .inr (.inr (.inr (.inr (va_up (va_up (va_up (va_up (fun _ => none) 0 (some q3)) 1 (some q4)) 2 (some q5)) 3 (some q6))))))), (q3, .inr (5, [.int 0, .int 0, .int 0, .int 0, .int 0, .int 0])), (q4, .inr (5, [.int 1, .int 0, .int 0, .int 0, .int 0, .int 0])), (q5, .inr (5, [.int 2, .int 0, .int 0, .int 0, .int 0, .int 0])), (q6, .inr (5, [.int 3, .int 0, .int 0, .int 0, .int 0, .int 0]))] H := hP
  have hD : va_D A [(h0, .inr (6, [.ref q1, .int 0, .int 0])), (q1, .inl (c2, 8, .inr (.inr (.inr (.inr (va_up (va_up (va_up (va_up (fun _ => none) 0 (some q3)) 1 (some q4)) 2 (some q5)) 3 (some q6))))))), (q3, .inr (5, [.int 0, .int 0, .int 0, .int 0, .int 0, .int 0])), (q4, .inr (5, [.int 1, .int 0, .int 0, .int 0, .int 0, .int 0])), (q5, .inr (5, [.int 2, .int 0, .int 0, .int 0, .int 0, .int 0])), (q6, .inr (5, [.int 3, .int 0, .int 0, .int 0, .int 0, .int 0]))] := hD
  refine lv_iinc (v := 4) (lv' := [(1, .int 4), (0, .ref h0)]) hx hb dX7_init_45 hl (k := 0) rfl (by decide) (by decide) rfl (fun ls hl => ?_)
  refine lv_goto (tgt := 25) hx hb dX7_init_48 (by decide) ?_
  refine lv_iload_n hx hb dX7_init_25 rfl (lv_at hl 0 rfl) ?_
  refine lv_bipush (v := 8) hx hb dX7_init_26 (by decide) ?_
  refine lv_icmp_ge (tgt := 51) hx hb dX7_init_28 (by decide) (fun cc0 => absurd cc0 (by decide)) (fun cc0 => ?_)
  refine lv_aload_n hx hb dX7_init_31 rfl (lv_at hl 1 rfl) ?_
  refine va_get (D := D) (ci := 6) (v := .ref q1) (C := RX7) (T := TX7) (N := 3) hx hb hts inX7 hown hK hP 0 rfl rfl 0 (by decide) (hts _ k_115) (fun _ h9 => h9) rfl dX7_init_32 ?_
  refine lv_iload_n hx hb dX7_init_35 rfl (lv_at hl 0 rfl) ?_
  refine va_new (ci := 5) (fs := [.int 0, .int 0, .int 0, .int 0, .int 0, .int 0]) (C := RX6) (T := TX6) (N := 6) hx hb hts inX6 tyX6 tyX6_ok hown (hts _ k_75) (hts _ k_77) (hts _ k_46) hK hP hD hS hA rfl (fun j hj => by rcases (show j = 0 ∨ j = 1 ∨ j = 2 ∨ j = 3 ∨ j = 4 ∨ j = 5 by omega) with rfl | rfl | rfl | rfl | rfl | rfl <;> rfl) (Nat.le_of_ble_eq_true rfl) (Nat.le_of_ble_eq_true rfl) dX7_init_36 (fun q7 H hP hD hS => ?_)
  have hP : va_P D vwCl [(h0, .inr (6, [.ref q1, .int 0, .int 0])), (q1, .inl (c2, 8, .inr (.inr (.inr (.inr (va_up (va_up (va_up (va_up (fun _ => none) 0 (some q3)) 1 (some q4)) 2 (some q5)) 3 (some q6))))))), (q3, .inr (5, [.int 0, .int 0, .int 0, .int 0, .int 0, .int 0])), (q4, .inr (5, [.int 1, .int 0, .int 0, .int 0, .int 0, .int 0])), (q5, .inr (5, [.int 2, .int 0, .int 0, .int 0, .int 0, .int 0])), (q6, .inr (5, [.int 3, .int 0, .int 0, .int 0, .int 0, .int 0])), (q7, .inr (5, [.int 0, .int 0, .int 0, .int 0, .int 0, .int 0]))] H := hP
  have hD : va_D A [(h0, .inr (6, [.ref q1, .int 0, .int 0])), (q1, .inl (c2, 8, .inr (.inr (.inr (.inr (va_up (va_up (va_up (va_up (fun _ => none) 0 (some q3)) 1 (some q4)) 2 (some q5)) 3 (some q6))))))), (q3, .inr (5, [.int 0, .int 0, .int 0, .int 0, .int 0, .int 0])), (q4, .inr (5, [.int 1, .int 0, .int 0, .int 0, .int 0, .int 0])), (q5, .inr (5, [.int 2, .int 0, .int 0, .int 0, .int 0, .int 0])), (q6, .inr (5, [.int 3, .int 0, .int 0, .int 0, .int 0, .int 0])), (q7, .inr (5, [.int 0, .int 0, .int 0, .int 0, .int 0, .int 0]))] := hD
  refine W.widen (k := 6) (n := 38) (Nat.le_of_ble_eq_true rfl) (Nat.le_of_ble_eq_true rfl) ?_
  refine lv_dup hx hb dX7_init_39 rfl ?_
  refine lv_iload_n hx hb dX7_init_40 rfl (lv_at hl 0 rfl) ?_
  have hPc := hP.sub (ws' := [(q7, .inr (5, [.int 0, .int 0, .int 0, .int 0, .int 0, .int 0]))]) [6] rfl
  have hDc := hD.sub (ws' := [(q7, .inr (5, [.int 0, .int 0, .int 0, .int 0, .int 0, .int 0]))]) [6] (by decide) rfl
  have hKc := hK.sub (tys' := []) [] rfl
  have hFc := va_free (wc := [(q7, .inr (5, [.int 0, .int 0, .int 0, .int 0, .int 0, .int 0]))]) hD hS hA [6] rfl
  refine va_callv (va_runI (As := [.int 4]) (rest := [.ref q7, .int 4, .ref q1]) ⟨hx, hb, hml, hown, hts⟩ (c_X6_init l D q7 H.size (4)) (cwI 1 hts (gd_wm k_80) rfl rfl rfl (hts _ k_46) (hts _ k_78) (hts _ k_79) rfl ⟨by decide +kernel, by decide +kernel, by decide +kernel⟩ ⟨Nat.le_of_ble_eq_true rfl, Nat.le_of_ble_eq_true rfl⟩) ⟨fun a U g mk q => by obtain ⟨q0, q1, qP, qK, qD, qN⟩ := q; exact ⟨q0, q1, qP, va_K.moved (u := U) (U := U.calling g mk a) (Vm.Alike.refl U.vm) qK, qD, NW.same (u := U) (U := U.calling g mk a) rfl qN⟩, fun U hU hW => ⟨rfl, by rw [hU], by rw [hU]; exact hPc, va_K.moved hW.alike hKc, hDc.weaken (fun _ _ _ _ => trivial), NW.warm hW hN⟩⟩ rfl rfl hl.1 rfl (lv_room (Nat.le_of_ble_eq_true rfl)) dX7_init_41 ⟨Nat.le_of_ble_eq_true rfl, Nat.le_of_ble_eq_true rfl⟩) hS (fun q _ h => hFc q h) hFc (fun u t H1 locs ht hvm hw hB hz1 hk1 hS => ?_)
  obtain ⟨hP1, hK1, hD1⟩ := hB
  rw [ht] at hP1
  have hK1 := va_K.moved hvm.symm hK1
  obtain ⟨hP, hD⟩ := va_join (wr := [(h0, .inr (6, [.ref q1, .int 0, .int 0])), (q1, .inl (c2, 8, .inr (.inr (.inr (.inr (va_up (va_up (va_up (va_up (fun _ => none) 0 (some q3)) 1 (some q4)) 2 (some q5)) 3 (some q6))))))), (q3, .inr (5, [.int 0, .int 0, .int 0, .int 0, .int 0, .int 0])), (q4, .inr (5, [.int 1, .int 0, .int 0, .int 0, .int 0, .int 0])), (q5, .inr (5, [.int 2, .int 0, .int 0, .int 0, .int 0, .int 0])), (q6, .inr (5, [.int 3, .int 0, .int 0, .int 0, .int 0, .int 0]))]) (w1 := [(q7, .inr (5, [.int 4, .int 0, .int 0, .int 0, .int 0, .int 0]))]) hP hD [6] [0, 1, 2, 3, 4, 5] rfl rfl (by decide) (by decide) hk1 hFc hP1 hD1
  have hK := (hK.sub (tys' := [(c2, .object "DeputyTown$Thing")]) [0] rfl).app hK1
  generalize H1 = H at hP hS ⊢
  have hP : va_P D vwCl [(h0, .inr (6, [.ref q1, .int 0, .int 0])), (q1, .inl (c2, 8, .inr (.inr (.inr (.inr (va_up (va_up (va_up (va_up (fun _ => none) 0 (some q3)) 1 (some q4)) 2 (some q5)) 3 (some q6))))))), (q3, .inr (5, [.int 0, .int 0, .int 0, .int 0, .int 0, .int 0])), (q4, .inr (5, [.int 1, .int 0, .int 0, .int 0, .int 0, .int 0])), (q5, .inr (5, [.int 2, .int 0, .int 0, .int 0, .int 0, .int 0])), (q6, .inr (5, [.int 3, .int 0, .int 0, .int 0, .int 0, .int 0])), (q7, .inr (5, [.int 4, .int 0, .int 0, .int 0, .int 0, .int 0]))] H := hP
  have hD : va_D A [(h0, .inr (6, [.ref q1, .int 0, .int 0])), (q1, .inl (c2, 8, .inr (.inr (.inr (.inr (va_up (va_up (va_up (va_up (fun _ => none) 0 (some q3)) 1 (some q4)) 2 (some q5)) 3 (some q6))))))), (q3, .inr (5, [.int 0, .int 0, .int 0, .int 0, .int 0, .int 0])), (q4, .inr (5, [.int 1, .int 0, .int 0, .int 0, .int 0, .int 0])), (q5, .inr (5, [.int 2, .int 0, .int 0, .int 0, .int 0, .int 0])), (q6, .inr (5, [.int 3, .int 0, .int 0, .int 0, .int 0, .int 0])), (q7, .inr (5, [.int 4, .int 0, .int 0, .int 0, .int 0, .int 0]))] := hD
  have hK : va_K D vwCl [(c2, .object "DeputyTown$Thing")] s := hK
  refine W.widen (k := 6) (n := 38) (Nat.le_of_ble_eq_true rfl) (Nat.le_of_ble_eq_true rfl) ?_
  refine va_astq hx hb hK hP hD hS 1 0 6 5 rfl rfl rfl rfl (by rw [vp_in_iff]; decide) dX7_init_44 (fun H locs hP hD hS => ?_)
  have hP : va_P D vwCl [(h0, .inr (6, [.ref q1, .int 0, .int 0])), (q1, .inl (c2, 8, .inr (.inr (.inr (.inr (va_up (va_up (va_up (va_up (va_up (fun _ => none) 0 (some q3)) 1 (some q4)) 2 (some q5)) 3 (some q6)) 4 (some q7))))))), (q3, .inr (5, [.int 0, .int 0, .int 0, .int 0, .int 0, .int 0])), (q4, .inr (5, [.int 1, .int 0, .int 0, .int 0, .int 0, .int 0])), (q5, .inr (5, [.int 2, .int 0, .int 0, .int 0, .int 0, .int 0])), (q6, .inr (5, [.int 3, .int 0, .int 0, .int 0, .int 0, .int 0])), (q7, .inr (5, [.int 4, .int 0, .int 0, .int 0, .int 0, .int 0]))] H := hP
  have hD : va_D A [(h0, .inr (6, [.ref q1, .int 0, .int 0])), (q1, .inl (c2, 8, .inr (.inr (.inr (.inr (va_up (va_up (va_up (va_up (va_up (fun _ => none) 0 (some q3)) 1 (some q4)) 2 (some q5)) 3 (some q6)) 4 (some q7))))))), (q3, .inr (5, [.int 0, .int 0, .int 0, .int 0, .int 0, .int 0])), (q4, .inr (5, [.int 1, .int 0, .int 0, .int 0, .int 0, .int 0])), (q5, .inr (5, [.int 2, .int 0, .int 0, .int 0, .int 0, .int 0])), (q6, .inr (5, [.int 3, .int 0, .int 0, .int 0, .int 0, .int 0])), (q7, .inr (5, [.int 4, .int 0, .int 0, .int 0, .int 0, .int 0]))] := hD
  refine lv_iinc (v := 5) (lv' := [(1, .int 5), (0, .ref h0)]) hx hb dX7_init_45 hl (k := 0) rfl (by decide) (by decide) rfl (fun ls hl => ?_)
  refine lv_goto (tgt := 25) hx hb dX7_init_48 (by decide) ?_
  refine lv_iload_n hx hb dX7_init_25 rfl (lv_at hl 0 rfl) ?_
  refine lv_bipush (v := 8) hx hb dX7_init_26 (by decide) ?_
  refine lv_icmp_ge (tgt := 51) hx hb dX7_init_28 (by decide) (fun cc0 => absurd cc0 (by decide)) (fun cc0 => ?_)
  refine lv_aload_n hx hb dX7_init_31 rfl (lv_at hl 1 rfl) ?_
  refine va_get (D := D) (ci := 6) (v := .ref q1) (C := RX7) (T := TX7) (N := 3) hx hb hts inX7 hown hK hP 0 rfl rfl 0 (by decide) (hts _ k_115) (fun _ h9 => h9) rfl dX7_init_32 ?_
  refine lv_iload_n hx hb dX7_init_35 rfl (lv_at hl 0 rfl) ?_
  refine va_new (ci := 5) (fs := [.int 0, .int 0, .int 0, .int 0, .int 0, .int 0]) (C := RX6) (T := TX6) (N := 6) hx hb hts inX6 tyX6 tyX6_ok hown (hts _ k_75) (hts _ k_77) (hts _ k_46) hK hP hD hS hA rfl (fun j hj => by rcases (show j = 0 ∨ j = 1 ∨ j = 2 ∨ j = 3 ∨ j = 4 ∨ j = 5 by omega) with rfl | rfl | rfl | rfl | rfl | rfl <;> rfl) (Nat.le_of_ble_eq_true rfl) (Nat.le_of_ble_eq_true rfl) dX7_init_36 (fun q8 H hP hD hS => ?_)
  have hP : va_P D vwCl [(h0, .inr (6, [.ref q1, .int 0, .int 0])), (q1, .inl (c2, 8, .inr (.inr (.inr (.inr (va_up (va_up (va_up (va_up (va_up (fun _ => none) 0 (some q3)) 1 (some q4)) 2 (some q5)) 3 (some q6)) 4 (some q7))))))), (q3, .inr (5, [.int 0, .int 0, .int 0, .int 0, .int 0, .int 0])), (q4, .inr (5, [.int 1, .int 0, .int 0, .int 0, .int 0, .int 0])), (q5, .inr (5, [.int 2, .int 0, .int 0, .int 0, .int 0, .int 0])), (q6, .inr (5, [.int 3, .int 0, .int 0, .int 0, .int 0, .int 0])), (q7, .inr (5, [.int 4, .int 0, .int 0, .int 0, .int 0, .int 0])), (q8, .inr (5, [.int 0, .int 0, .int 0, .int 0, .int 0, .int 0]))] H := hP
  have hD : va_D A [(h0, .inr (6, [.ref q1, .int 0, .int 0])), (q1, .inl (c2, 8, .inr (.inr (.inr (.inr (va_up (va_up (va_up (va_up (va_up (fun _ => none) 0 (some q3)) 1 (some q4)) 2 (some q5)) 3 (some q6)) 4 (some q7))))))), (q3, .inr (5, [.int 0, .int 0, .int 0, .int 0, .int 0, .int 0])), (q4, .inr (5, [.int 1, .int 0, .int 0, .int 0, .int 0, .int 0])), (q5, .inr (5, [.int 2, .int 0, .int 0, .int 0, .int 0, .int 0])), (q6, .inr (5, [.int 3, .int 0, .int 0, .int 0, .int 0, .int 0])), (q7, .inr (5, [.int 4, .int 0, .int 0, .int 0, .int 0, .int 0])), (q8, .inr (5, [.int 0, .int 0, .int 0, .int 0, .int 0, .int 0]))] := hD
  refine W.widen (k := 7) (n := 44) (Nat.le_of_ble_eq_true rfl) (Nat.le_of_ble_eq_true rfl) ?_
  refine lv_dup hx hb dX7_init_39 rfl ?_
  refine lv_iload_n hx hb dX7_init_40 rfl (lv_at hl 0 rfl) ?_
  have hPc := hP.sub (ws' := [(q8, .inr (5, [.int 0, .int 0, .int 0, .int 0, .int 0, .int 0]))]) [7] rfl
  have hDc := hD.sub (ws' := [(q8, .inr (5, [.int 0, .int 0, .int 0, .int 0, .int 0, .int 0]))]) [7] (by decide) rfl
  have hKc := hK.sub (tys' := []) [] rfl
  have hFc := va_free (wc := [(q8, .inr (5, [.int 0, .int 0, .int 0, .int 0, .int 0, .int 0]))]) hD hS hA [7] rfl
  refine va_callv (va_runI (As := [.int 5]) (rest := [.ref q8, .int 5, .ref q1]) ⟨hx, hb, hml, hown, hts⟩ (c_X6_init l D q8 H.size (5)) (cwI 1 hts (gd_wm k_80) rfl rfl rfl (hts _ k_46) (hts _ k_78) (hts _ k_79) rfl ⟨by decide +kernel, by decide +kernel, by decide +kernel⟩ ⟨Nat.le_of_ble_eq_true rfl, Nat.le_of_ble_eq_true rfl⟩) ⟨fun a U g mk q => by obtain ⟨q0, q1, qP, qK, qD, qN⟩ := q; exact ⟨q0, q1, qP, va_K.moved (u := U) (U := U.calling g mk a) (Vm.Alike.refl U.vm) qK, qD, NW.same (u := U) (U := U.calling g mk a) rfl qN⟩, fun U hU hW => ⟨rfl, by rw [hU], by rw [hU]; exact hPc, va_K.moved hW.alike hKc, hDc.weaken (fun _ _ _ _ => trivial), NW.warm hW hN⟩⟩ rfl rfl hl.1 rfl (lv_room (Nat.le_of_ble_eq_true rfl)) dX7_init_41 ⟨Nat.le_of_ble_eq_true rfl, Nat.le_of_ble_eq_true rfl⟩) hS (fun q _ h => hFc q h) hFc (fun u t H1 locs ht hvm hw hB hz1 hk1 hS => ?_)
  obtain ⟨hP1, hK1, hD1⟩ := hB
  rw [ht] at hP1
  have hK1 := va_K.moved hvm.symm hK1
  obtain ⟨hP, hD⟩ := va_join (wr := [(h0, .inr (6, [.ref q1, .int 0, .int 0])), (q1, .inl (c2, 8, .inr (.inr (.inr (.inr (va_up (va_up (va_up (va_up (va_up (fun _ => none) 0 (some q3)) 1 (some q4)) 2 (some q5)) 3 (some q6)) 4 (some q7))))))), (q3, .inr (5, [.int 0, .int 0, .int 0, .int 0, .int 0, .int 0])), (q4, .inr (5, [.int 1, .int 0, .int 0, .int 0, .int 0, .int 0])), (q5, .inr (5, [.int 2, .int 0, .int 0, .int 0, .int 0, .int 0])), (q6, .inr (5, [.int 3, .int 0, .int 0, .int 0, .int 0, .int 0])), (q7, .inr (5, [.int 4, .int 0, .int 0, .int 0, .int 0, .int 0]))]) (w1 := [(q8, .inr (5, [.int 5, .int 0, .int 0, .int 0, .int 0, .int 0]))]) hP hD [7] [0, 1, 2, 3, 4, 5, 6] rfl rfl (by decide) (by decide) hk1 hFc hP1 hD1
  have hK := (hK.sub (tys' := [(c2, .object "DeputyTown$Thing")]) [0] rfl).app hK1
  generalize H1 = H at hP hS ⊢
  have hP : va_P D vwCl [(h0, .inr (6, [.ref q1, .int 0, .int 0])), (q1, .inl (c2, 8, .inr (.inr (.inr (.inr (va_up (va_up (va_up (va_up (va_up (fun _ => none) 0 (some q3)) 1 (some q4)) 2 (some q5)) 3 (some q6)) 4 (some q7))))))), (q3, .inr (5, [.int 0, .int 0, .int 0, .int 0, .int 0, .int 0])), (q4, .inr (5, [.int 1, .int 0, .int 0, .int 0, .int 0, .int 0])), (q5, .inr (5, [.int 2, .int 0, .int 0, .int 0, .int 0, .int 0])), (q6, .inr (5, [.int 3, .int 0, .int 0, .int 0, .int 0, .int 0])), (q7, .inr (5, [.int 4, .int 0, .int 0, .int 0, .int 0, .int 0])), (q8, .inr (5, [.int 5, .int 0, .int 0, .int 0, .int 0, .int 0]))] H := hP
  have hD : va_D A [(h0, .inr (6, [.ref q1, .int 0, .int 0])), (q1, .inl (c2, 8, .inr (.inr (.inr (.inr (va_up (va_up (va_up (va_up (va_up (fun _ => none) 0 (some q3)) 1 (some q4)) 2 (some q5)) 3 (some q6)) 4 (some q7))))))), (q3, .inr (5, [.int 0, .int 0, .int 0, .int 0, .int 0, .int 0])), (q4, .inr (5, [.int 1, .int 0, .int 0, .int 0, .int 0, .int 0])), (q5, .inr (5, [.int 2, .int 0, .int 0, .int 0, .int 0, .int 0])), (q6, .inr (5, [.int 3, .int 0, .int 0, .int 0, .int 0, .int 0])), (q7, .inr (5, [.int 4, .int 0, .int 0, .int 0, .int 0, .int 0])), (q8, .inr (5, [.int 5, .int 0, .int 0, .int 0, .int 0, .int 0]))] := hD
  have hK : va_K D vwCl [(c2, .object "DeputyTown$Thing")] s := hK
  refine W.widen (k := 7) (n := 44) (Nat.le_of_ble_eq_true rfl) (Nat.le_of_ble_eq_true rfl) ?_
  refine va_astq hx hb hK hP hD hS 1 0 7 5 rfl rfl rfl rfl (by rw [vp_in_iff]; decide) dX7_init_44 (fun H locs hP hD hS => ?_)
  have hP : va_P D vwCl [(h0, .inr (6, [.ref q1, .int 0, .int 0])), (q1, .inl (c2, 8, .inr (.inr (.inr (.inr (va_up (va_up (va_up (va_up (va_up (va_up (fun _ => none) 0 (some q3)) 1 (some q4)) 2 (some q5)) 3 (some q6)) 4 (some q7)) 5 (some q8))))))), (q3, .inr (5, [.int 0, .int 0, .int 0, .int 0, .int 0, .int 0])), (q4, .inr (5, [.int 1, .int 0, .int 0, .int 0, .int 0, .int 0])), (q5, .inr (5, [.int 2, .int 0, .int 0, .int 0, .int 0, .int 0])), (q6, .inr (5, [.int 3, .int 0, .int 0, .int 0, .int 0, .int 0])), (q7, .inr (5, [.int 4, .int 0, .int 0, .int 0, .int 0, .int 0])), (q8, .inr (5, [.int 5, .int 0, .int 0, .int 0, .int 0, .int 0]))] H := hP
  have hD : va_D A [(h0, .inr (6, [.ref q1, .int 0, .int 0])), (q1, .inl (c2, 8, .inr (.inr (.inr (.inr (va_up (va_up (va_up (va_up (va_up (va_up (fun _ => none) 0 (some q3)) 1 (some q4)) 2 (some q5)) 3 (some q6)) 4 (some q7)) 5 (some q8))))))), (q3, .inr (5, [.int 0, .int 0, .int 0, .int 0, .int 0, .int 0])), (q4, .inr (5, [.int 1, .int 0, .int 0, .int 0, .int 0, .int 0])), (q5, .inr (5, [.int 2, .int 0, .int 0, .int 0, .int 0, .int 0])), (q6, .inr (5, [.int 3, .int 0, .int 0, .int 0, .int 0, .int 0])), (q7, .inr (5, [.int 4, .int 0, .int 0, .int 0, .int 0, .int 0])), (q8, .inr (5, [.int 5, .int 0, .int 0, .int 0, .int 0, .int 0]))] := hD
  refine lv_iinc (v := 6) (lv' := [(1, .int 6), (0, .ref h0)]) hx hb dX7_init_45 hl (k := 0) rfl (by decide) (by decide) rfl (fun ls hl => ?_)
  refine lv_goto (tgt := 25) hx hb dX7_init_48 (by decide) ?_
  refine lv_iload_n hx hb dX7_init_25 rfl (lv_at hl 0 rfl) ?_
  refine lv_bipush (v := 8) hx hb dX7_init_26 (by decide) ?_
  refine lv_icmp_ge (tgt := 51) hx hb dX7_init_28 (by decide) (fun cc0 => absurd cc0 (by decide)) (fun cc0 => ?_)
  refine lv_aload_n hx hb dX7_init_31 rfl (lv_at hl 1 rfl) ?_
  refine va_get (D := D) (ci := 6) (v := .ref q1) (C := RX7) (T := TX7) (N := 3) hx hb hts inX7 hown hK hP 0 rfl rfl 0 (by decide) (hts _ k_115) (fun _ h9 => h9) rfl dX7_init_32 ?_
  refine lv_iload_n hx hb dX7_init_35 rfl (lv_at hl 0 rfl) ?_
  refine va_new (ci := 5) (fs := [.int 0, .int 0, .int 0, .int 0, .int 0, .int 0]) (C := RX6) (T := TX6) (N := 6) hx hb hts inX6 tyX6 tyX6_ok hown (hts _ k_75) (hts _ k_77) (hts _ k_46) hK hP hD hS hA rfl (fun j hj => by rcases (show j = 0 ∨ j = 1 ∨ j = 2 ∨ j = 3 ∨ j = 4 ∨ j = 5 by omega) with rfl | rfl | rfl | rfl | rfl | rfl <;> rfl) (Nat.le_of_ble_eq_true rfl) (Nat.le_of_ble_eq_true rfl) dX7_init_36 (fun q9 H hP hD hS => ?_)
  have hP : va_P D vwCl [(h0, .inr (6, [.ref q1, .int 0, .int 0])), (q1, .inl (c2, 8, .inr (.inr (.inr (.inr (va_up (va_up (va_up (va_up (va_up (va_up (fun _ => none) 0 (some q3)) 1 (some q4)) 2 (some q5)) 3 (some q6)) 4 (some q7)) 5 (some q8))))))), (q3, .inr (5, [.int 0, .int 0, .int 0, .int 0, .int 0, .int 0])), (q4, .inr (5, [.int 1, .int 0, .int 0, .int 0, .int 0, .int 0])), (q5, .inr (5, [.int 2, .int 0, .int 0, .int 0, .int 0, .int 0])), (q6, .inr (5, [.int 3, .int 0, .int 0, .int 0, .int 0, .int 0])), (q7, .inr (5, [.int 4, .int 0, .int 0, .int 0, .int 0, .int 0])), (q8, .inr (5, [.int 5, .int 0, .int 0, .int 0, .int 0, .int 0])), (q9, .inr (5, [.int 0, .int 0, .int 0, .int 0, .int 0, .int 0]))] H := hP
  have hD : va_D A [(h0, .inr (6, [.ref q1, .int 0, .int 0])), (q1, .inl (c2, 8, .inr (.inr (.inr (.inr (va_up (va_up (va_up (va_up (va_up (va_up (fun _ => none) 0 (some q3)) 1 (some q4)) 2 (some q5)) 3 (some q6)) 4 (some q7)) 5 (some q8))))))), (q3, .inr (5, [.int 0, .int 0, .int 0, .int 0, .int 0, .int 0])), (q4, .inr (5, [.int 1, .int 0, .int 0, .int 0, .int 0, .int 0])), (q5, .inr (5, [.int 2, .int 0, .int 0, .int 0, .int 0, .int 0])), (q6, .inr (5, [.int 3, .int 0, .int 0, .int 0, .int 0, .int 0])), (q7, .inr (5, [.int 4, .int 0, .int 0, .int 0, .int 0, .int 0])), (q8, .inr (5, [.int 5, .int 0, .int 0, .int 0, .int 0, .int 0])), (q9, .inr (5, [.int 0, .int 0, .int 0, .int 0, .int 0, .int 0]))] := hD
  refine W.widen (k := 8) (n := 50) (Nat.le_of_ble_eq_true rfl) (Nat.le_of_ble_eq_true rfl) ?_
  refine lv_dup hx hb dX7_init_39 rfl ?_
  refine lv_iload_n hx hb dX7_init_40 rfl (lv_at hl 0 rfl) ?_
  have hPc := hP.sub (ws' := [(q9, .inr (5, [.int 0, .int 0, .int 0, .int 0, .int 0, .int 0]))]) [8] rfl
  have hDc := hD.sub (ws' := [(q9, .inr (5, [.int 0, .int 0, .int 0, .int 0, .int 0, .int 0]))]) [8] (by decide) rfl
  have hKc := hK.sub (tys' := []) [] rfl
  have hFc := va_free (wc := [(q9, .inr (5, [.int 0, .int 0, .int 0, .int 0, .int 0, .int 0]))]) hD hS hA [8] rfl
  refine va_callv (va_runI (As := [.int 6]) (rest := [.ref q9, .int 6, .ref q1]) ⟨hx, hb, hml, hown, hts⟩ (c_X6_init l D q9 H.size (6)) (cwI 1 hts (gd_wm k_80) rfl rfl rfl (hts _ k_46) (hts _ k_78) (hts _ k_79) rfl ⟨by decide +kernel, by decide +kernel, by decide +kernel⟩ ⟨Nat.le_of_ble_eq_true rfl, Nat.le_of_ble_eq_true rfl⟩) ⟨fun a U g mk q => by obtain ⟨q0, q1, qP, qK, qD, qN⟩ := q; exact ⟨q0, q1, qP, va_K.moved (u := U) (U := U.calling g mk a) (Vm.Alike.refl U.vm) qK, qD, NW.same (u := U) (U := U.calling g mk a) rfl qN⟩, fun U hU hW => ⟨rfl, by rw [hU], by rw [hU]; exact hPc, va_K.moved hW.alike hKc, hDc.weaken (fun _ _ _ _ => trivial), NW.warm hW hN⟩⟩ rfl rfl hl.1 rfl (lv_room (Nat.le_of_ble_eq_true rfl)) dX7_init_41 ⟨Nat.le_of_ble_eq_true rfl, Nat.le_of_ble_eq_true rfl⟩) hS (fun q _ h => hFc q h) hFc (fun u t H1 locs ht hvm hw hB hz1 hk1 hS => ?_)
  obtain ⟨hP1, hK1, hD1⟩ := hB
  rw [ht] at hP1
  have hK1 := va_K.moved hvm.symm hK1
  obtain ⟨hP, hD⟩ := va_join (wr := [(h0, .inr (6, [.ref q1, .int 0, .int 0])), (q1, .inl (c2, 8, .inr (.inr (.inr (.inr (va_up (va_up (va_up (va_up (va_up (va_up (fun _ => none) 0 (some q3)) 1 (some q4)) 2 (some q5)) 3 (some q6)) 4 (some q7)) 5 (some q8))))))), (q3, .inr (5, [.int 0, .int 0, .int 0, .int 0, .int 0, .int 0])), (q4, .inr (5, [.int 1, .int 0, .int 0, .int 0, .int 0, .int 0])), (q5, .inr (5, [.int 2, .int 0, .int 0, .int 0, .int 0, .int 0])), (q6, .inr (5, [.int 3, .int 0, .int 0, .int 0, .int 0, .int 0])), (q7, .inr (5, [.int 4, .int 0, .int 0, .int 0, .int 0, .int 0])), (q8, .inr (5, [.int 5, .int 0, .int 0, .int 0, .int 0, .int 0]))]) (w1 := [(q9, .inr (5, [.int 6, .int 0, .int 0, .int 0, .int 0, .int 0]))]) hP hD [8] [0, 1, 2, 3, 4, 5, 6, 7] rfl rfl (by decide) (by decide) hk1 hFc hP1 hD1
  have hK := (hK.sub (tys' := [(c2, .object "DeputyTown$Thing")]) [0] rfl).app hK1
  generalize H1 = H at hP hS ⊢
  have hP : va_P D vwCl [(h0, .inr (6, [.ref q1, .int 0, .int 0])), (q1, .inl (c2, 8, .inr (.inr (.inr (.inr (va_up (va_up (va_up (va_up (va_up (va_up (fun _ => none) 0 (some q3)) 1 (some q4)) 2 (some q5)) 3 (some q6)) 4 (some q7)) 5 (some q8))))))), (q3, .inr (5, [.int 0, .int 0, .int 0, .int 0, .int 0, .int 0])), (q4, .inr (5, [.int 1, .int 0, .int 0, .int 0, .int 0, .int 0])), (q5, .inr (5, [.int 2, .int 0, .int 0, .int 0, .int 0, .int 0])), (q6, .inr (5, [.int 3, .int 0, .int 0, .int 0, .int 0, .int 0])), (q7, .inr (5, [.int 4, .int 0, .int 0, .int 0, .int 0, .int 0])), (q8, .inr (5, [.int 5, .int 0, .int 0, .int 0, .int 0, .int 0])), (q9, .inr (5, [.int 6, .int 0, .int 0, .int 0, .int 0, .int 0]))] H := hP
  have hD : va_D A [(h0, .inr (6, [.ref q1, .int 0, .int 0])), (q1, .inl (c2, 8, .inr (.inr (.inr (.inr (va_up (va_up (va_up (va_up (va_up (va_up (fun _ => none) 0 (some q3)) 1 (some q4)) 2 (some q5)) 3 (some q6)) 4 (some q7)) 5 (some q8))))))), (q3, .inr (5, [.int 0, .int 0, .int 0, .int 0, .int 0, .int 0])), (q4, .inr (5, [.int 1, .int 0, .int 0, .int 0, .int 0, .int 0])), (q5, .inr (5, [.int 2, .int 0, .int 0, .int 0, .int 0, .int 0])), (q6, .inr (5, [.int 3, .int 0, .int 0, .int 0, .int 0, .int 0])), (q7, .inr (5, [.int 4, .int 0, .int 0, .int 0, .int 0, .int 0])), (q8, .inr (5, [.int 5, .int 0, .int 0, .int 0, .int 0, .int 0])), (q9, .inr (5, [.int 6, .int 0, .int 0, .int 0, .int 0, .int 0]))] := hD
  have hK : va_K D vwCl [(c2, .object "DeputyTown$Thing")] s := hK
  refine W.widen (k := 8) (n := 50) (Nat.le_of_ble_eq_true rfl) (Nat.le_of_ble_eq_true rfl) ?_
  refine va_astq hx hb hK hP hD hS 1 0 8 5 rfl rfl rfl rfl (by rw [vp_in_iff]; decide) dX7_init_44 (fun H locs hP hD hS => ?_)
  have hP : va_P D vwCl [(h0, .inr (6, [.ref q1, .int 0, .int 0])), (q1, .inl (c2, 8, .inr (.inr (.inr (.inr (va_up (va_up (va_up (va_up (va_up (va_up (va_up (fun _ => none) 0 (some q3)) 1 (some q4)) 2 (some q5)) 3 (some q6)) 4 (some q7)) 5 (some q8)) 6 (some q9))))))), (q3, .inr (5, [.int 0, .int 0, .int 0, .int 0, .int 0, .int 0])), (q4, .inr (5, [.int 1, .int 0, .int 0, .int 0, .int 0, .int 0])), (q5, .inr (5, [.int 2, .int 0, .int 0, .int 0, .int 0, .int 0])), (q6, .inr (5, [.int 3, .int 0, .int 0, .int 0, .int 0, .int 0])), (q7, .inr (5, [.int 4, .int 0, .int 0, .int 0, .int 0, .int 0])), (q8, .inr (5, [.int 5, .int 0, .int 0, .int 0, .int 0, .int 0])), (q9, .inr (5, [.int 6, .int 0, .int 0, .int 0, .int 0, .int 0]))] H := hP
  have hD : va_D A [(h0, .inr (6, [.ref q1, .int 0, .int 0])), (q1, .inl (c2, 8, .inr (.inr (.inr (.inr (va_up (va_up (va_up (va_up (va_up (va_up (va_up (fun _ => none) 0 (some q3)) 1 (some q4)) 2 (some q5)) 3 (some q6)) 4 (some q7)) 5 (some q8)) 6 (some q9))))))), (q3, .inr (5, [.int 0, .int 0, .int 0, .int 0, .int 0, .int 0])), (q4, .inr (5, [.int 1, .int 0, .int 0, .int 0, .int 0, .int 0])), (q5, .inr (5, [.int 2, .int 0, .int 0, .int 0, .int 0, .int 0])), (q6, .inr (5, [.int 3, .int 0, .int 0, .int 0, .int 0, .int 0])), (q7, .inr (5, [.int 4, .int 0, .int 0, .int 0, .int 0, .int 0])), (q8, .inr (5, [.int 5, .int 0, .int 0, .int 0, .int 0, .int 0])), (q9, .inr (5, [.int 6, .int 0, .int 0, .int 0, .int 0, .int 0]))] := hD
  refine lv_iinc (v := 7) (lv' := [(1, .int 7), (0, .ref h0)]) hx hb dX7_init_45 hl (k := 0) rfl (by decide) (by decide) rfl (fun ls hl => ?_)
  refine lv_goto (tgt := 25) hx hb dX7_init_48 (by decide) ?_
  refine lv_iload_n hx hb dX7_init_25 rfl (lv_at hl 0 rfl) ?_
  refine lv_bipush (v := 8) hx hb dX7_init_26 (by decide) ?_
  refine lv_icmp_ge (tgt := 51) hx hb dX7_init_28 (by decide) (fun cc0 => absurd cc0 (by decide)) (fun cc0 => ?_)
  refine lv_aload_n hx hb dX7_init_31 rfl (lv_at hl 1 rfl) ?_
  refine va_get (D := D) (ci := 6) (v := .ref q1) (C := RX7) (T := TX7) (N := 3) hx hb hts inX7 hown hK hP 0 rfl rfl 0 (by decide) (hts _ k_115) (fun _ h9 => h9) rfl dX7_init_32 ?_
  refine lv_iload_n hx hb dX7_init_35 rfl (lv_at hl 0 rfl) ?_
  refine va_new (ci := 5) (fs := [.int 0, .int 0, .int 0, .int 0, .int 0, .int 0]) (C := RX6) (T := TX6) (N := 6) hx hb hts inX6 tyX6 tyX6_ok hown (hts _ k_75) (hts _ k_77) (hts _ k_46) hK hP hD hS hA rfl (fun j hj => by rcases (show j = 0 ∨ j = 1 ∨ j = 2 ∨ j = 3 ∨ j = 4 ∨ j = 5 by omega) with rfl | rfl | rfl | rfl | rfl | rfl <;> rfl) (Nat.le_of_ble_eq_true rfl) (Nat.le_of_ble_eq_true rfl) dX7_init_36 (fun q10 H hP hD hS => ?_)
  have hP : va_P D vwCl [(h0, .inr (6, [.ref q1, .int 0, .int 0])), (q1, .inl (c2, 8, .inr (.inr (.inr (.inr (va_up (va_up (va_up (va_up (va_up (va_up (va_up (fun _ => none) 0 (some q3)) 1 (some q4)) 2 (some q5)) 3 (some q6)) 4 (some q7)) 5 (some q8)) 6 (some q9))))))), (q3, .inr (5, [.int 0, .int 0, .int 0, .int 0, .int 0, .int 0])), (q4, .inr (5, [.int 1, .int 0, .int 0, .int 0, .int 0, .int 0])), (q5, .inr (5, [.int 2, .int 0, .int 0, .int 0, .int 0, .int 0])), (q6, .inr (5, [.int 3, .int 0, .int 0, .int 0, .int 0, .int 0])), (q7, .inr (5, [.int 4, .int 0, .int 0, .int 0, .int 0, .int 0])), (q8, .inr (5, [.int 5, .int 0, .int 0, .int 0, .int 0, .int 0])), (q9, .inr (5, [.int 6, .int 0, .int 0, .int 0, .int 0, .int 0])), (q10, .inr (5, [.int 0, .int 0, .int 0, .int 0, .int 0, .int 0]))] H := hP
  have hD : va_D A [(h0, .inr (6, [.ref q1, .int 0, .int 0])), (q1, .inl (c2, 8, .inr (.inr (.inr (.inr (va_up (va_up (va_up (va_up (va_up (va_up (va_up (fun _ => none) 0 (some q3)) 1 (some q4)) 2 (some q5)) 3 (some q6)) 4 (some q7)) 5 (some q8)) 6 (some q9))))))), (q3, .inr (5, [.int 0, .int 0, .int 0, .int 0, .int 0, .int 0])), (q4, .inr (5, [.int 1, .int 0, .int 0, .int 0, .int 0, .int 0])), (q5, .inr (5, [.int 2, .int 0, .int 0, .int 0, .int 0, .int 0])), (q6, .inr (5, [.int 3, .int 0, .int 0, .int 0, .int 0, .int 0])), (q7, .inr (5, [.int 4, .int 0, .int 0, .int 0, .int 0, .int 0])), (q8, .inr (5, [.int 5, .int 0, .int 0, .int 0, .int 0, .int 0])), (q9, .inr (5, [.int 6, .int 0, .int 0, .int 0, .int 0, .int 0])), (q10, .inr (5, [.int 0, .int 0, .int 0, .int 0, .int 0, .int 0]))] := hD
  refine W.widen (k := 9) (n := 56) (Nat.le_of_ble_eq_true rfl) (Nat.le_of_ble_eq_true rfl) ?_
  refine lv_dup hx hb dX7_init_39 rfl ?_
  refine lv_iload_n hx hb dX7_init_40 rfl (lv_at hl 0 rfl) ?_
  have hPc := hP.sub (ws' := [(q10, .inr (5, [.int 0, .int 0, .int 0, .int 0, .int 0, .int 0]))]) [9] rfl
  have hDc := hD.sub (ws' := [(q10, .inr (5, [.int 0, .int 0, .int 0, .int 0, .int 0, .int 0]))]) [9] (by decide) rfl
  have hKc := hK.sub (tys' := []) [] rfl
  have hFc := va_free (wc := [(q10, .inr (5, [.int 0, .int 0, .int 0, .int 0, .int 0, .int 0]))]) hD hS hA [9] rfl
  refine va_callv (va_runI (As := [.int 7]) (rest := [.ref q10, .int 7, .ref q1]) ⟨hx, hb, hml, hown, hts⟩ (c_X6_init l D q10 H.size (7)) (cwI 1 hts (gd_wm k_80) rfl rfl rfl (hts _ k_46) (hts _ k_78) (hts _ k_79) rfl ⟨by decide +kernel, by decide +kernel, by decide +kernel⟩ ⟨Nat.le_of_ble_eq_true rfl, Nat.le_of_ble_eq_true rfl⟩) ⟨fun a U g mk q => by obtain ⟨q0, q1, qP, qK, qD, qN⟩ := q; exact ⟨q0, q1, qP, va_K.moved (u := U) (U := U.calling g mk a) (Vm.Alike.refl U.vm) qK, qD, NW.same (u := U) (U := U.calling g mk a) rfl qN⟩, fun U hU hW => ⟨rfl, by rw [hU], by rw [hU]; exact hPc, va_K.moved hW.alike hKc, hDc.weaken (fun _ _ _ _ => trivial), NW.warm hW hN⟩⟩ rfl rfl hl.1 rfl (lv_room (Nat.le_of_ble_eq_true rfl)) dX7_init_41 ⟨Nat.le_of_ble_eq_true rfl, Nat.le_of_ble_eq_true rfl⟩) hS (fun q _ h => hFc q h) hFc (fun u t H1 locs ht hvm hw hB hz1 hk1 hS => ?_)
  obtain ⟨hP1, hK1, hD1⟩ := hB
  rw [ht] at hP1
  have hK1 := va_K.moved hvm.symm hK1
  obtain ⟨hP, hD⟩ := va_join (wr := [(h0, .inr (6, [.ref q1, .int 0, .int 0])), (q1, .inl (c2, 8, .inr (.inr (.inr (.inr (va_up (va_up (va_up (va_up (va_up (va_up (va_up (fun _ => none) 0 (some q3)) 1 (some q4)) 2 (some q5)) 3 (some q6)) 4 (some q7)) 5 (some q8)) 6 (some q9))))))), (q3, .inr (5, [.int 0, .int 0, .int 0, .int 0, .int 0, .int 0])), (q4, .inr (5, [.int 1, .int 0, .int 0, .int 0, .int 0, .int 0])), (q5, .inr (5, [.int 2, .int 0, .int 0, .int 0, .int 0, .int 0])), (q6, .inr (5, [.int 3, .int 0, .int 0, .int 0, .int 0, .int 0])), (q7, .inr (5, [.int 4, .int 0, .int 0, .int 0, .int 0, .int 0])), (q8, .inr (5, [.int 5, .int 0, .int 0, .int 0, .int 0, .int 0])), (q9, .inr (5, [.int 6, .int 0, .int 0, .int 0, .int 0, .int 0]))]) (w1 := [(q10, .inr (5, [.int 7, .int 0, .int 0, .int 0, .int 0, .int 0]))]) hP hD [9] [0, 1, 2, 3, 4, 5, 6, 7, 8] rfl rfl (by decide) (by decide) hk1 hFc hP1 hD1
  have hK := (hK.sub (tys' := [(c2, .object "DeputyTown$Thing")]) [0] rfl).app hK1
  generalize H1 = H at hP hS ⊢
  have hP : va_P D vwCl [(h0, .inr (6, [.ref q1, .int 0, .int 0])), (q1, .inl (c2, 8, .inr (.inr (.inr (.inr (va_up (va_up (va_up (va_up (va_up (va_up (va_up (fun _ => none) 0 (some q3)) 1 (some q4)) 2 (some q5)) 3 (some q6)) 4 (some q7)) 5 (some q8)) 6 (some q9))))))), (q3, .inr (5, [.int 0, .int 0, .int 0, .int 0, .int 0, .int 0])), (q4, .inr (5, [.int 1, .int 0, .int 0, .int 0, .int 0, .int 0])), (q5, .inr (5, [.int 2, .int 0, .int 0, .int 0, .int 0, .int 0])), (q6, .inr (5, [.int 3, .int 0, .int 0, .int 0, .int 0, .int 0])), (q7, .inr (5, [.int 4, .int 0, .int 0, .int 0, .int 0, .int 0])), (q8, .inr (5, [.int 5, .int 0, .int 0, .int 0, .int 0, .int 0])), (q9, .inr (5, [.int 6, .int 0, .int 0, .int 0, .int 0, .int 0])), (q10, .inr (5, [.int 7, .int 0, .int 0, .int 0, .int 0, .int 0]))] H := hP
  have hD : va_D A [(h0, .inr (6, [.ref q1, .int 0, .int 0])), (q1, .inl (c2, 8, .inr (.inr (.inr (.inr (va_up (va_up (va_up (va_up (va_up (va_up (va_up (fun _ => none) 0 (some q3)) 1 (some q4)) 2 (some q5)) 3 (some q6)) 4 (some q7)) 5 (some q8)) 6 (some q9))))))), (q3, .inr (5, [.int 0, .int 0, .int 0, .int 0, .int 0, .int 0])), (q4, .inr (5, [.int 1, .int 0, .int 0, .int 0, .int 0, .int 0])), (q5, .inr (5, [.int 2, .int 0, .int 0, .int 0, .int 0, .int 0])), (q6, .inr (5, [.int 3, .int 0, .int 0, .int 0, .int 0, .int 0])), (q7, .inr (5, [.int 4, .int 0, .int 0, .int 0, .int 0, .int 0])), (q8, .inr (5, [.int 5, .int 0, .int 0, .int 0, .int 0, .int 0])), (q9, .inr (5, [.int 6, .int 0, .int 0, .int 0, .int 0, .int 0])), (q10, .inr (5, [.int 7, .int 0, .int 0, .int 0, .int 0, .int 0]))] := hD
  have hK : va_K D vwCl [(c2, .object "DeputyTown$Thing")] s := hK
  refine W.widen (k := 9) (n := 56) (Nat.le_of_ble_eq_true rfl) (Nat.le_of_ble_eq_true rfl) ?_
  refine va_astq hx hb hK hP hD hS 1 0 9 5 rfl rfl rfl rfl (by rw [vp_in_iff]; decide) dX7_init_44 (fun H locs hP hD hS => ?_)
  have hP : va_P D vwCl [(h0, .inr (6, [.ref q1, .int 0, .int 0])), (q1, .inl (c2, 8, .inr (.inr (.inr (.inr (va_up (va_up (va_up (va_up (va_up (va_up (va_up (va_up (fun _ => none) 0 (some q3)) 1 (some q4)) 2 (some q5)) 3 (some q6)) 4 (some q7)) 5 (some q8)) 6 (some q9)) 7 (some q10))))))), (q3, .inr (5, [.int 0, .int 0, .int 0, .int 0, .int 0, .int 0])), (q4, .inr (5, [.int 1, .int 0, .int 0, .int 0, .int 0, .int 0])), (q5, .inr (5, [.int 2, .int 0, .int 0, .int 0, .int 0, .int 0])), (q6, .inr (5, [.int 3, .int 0, .int 0, .int 0, .int 0, .int 0])), (q7, .inr (5, [.int 4, .int 0, .int 0, .int 0, .int 0, .int 0])), (q8, .inr (5, [.int 5, .int 0, .int 0, .int 0, .int 0, .int 0])), (q9, .inr (5, [.int 6, .int 0, .int 0, .int 0, .int 0, .int 0])), (q10, .inr (5, [.int 7, .int 0, .int 0, .int 0, .int 0, .int 0]))] H := hP
  have hD : va_D A [(h0, .inr (6, [.ref q1, .int 0, .int 0])), (q1, .inl (c2, 8, .inr (.inr (.inr (.inr (va_up (va_up (va_up (va_up (va_up (va_up (va_up (va_up (fun _ => none) 0 (some q3)) 1 (some q4)) 2 (some q5)) 3 (some q6)) 4 (some q7)) 5 (some q8)) 6 (some q9)) 7 (some q10))))))), (q3, .inr (5, [.int 0, .int 0, .int 0, .int 0, .int 0, .int 0])), (q4, .inr (5, [.int 1, .int 0, .int 0, .int 0, .int 0, .int 0])), (q5, .inr (5, [.int 2, .int 0, .int 0, .int 0, .int 0, .int 0])), (q6, .inr (5, [.int 3, .int 0, .int 0, .int 0, .int 0, .int 0])), (q7, .inr (5, [.int 4, .int 0, .int 0, .int 0, .int 0, .int 0])), (q8, .inr (5, [.int 5, .int 0, .int 0, .int 0, .int 0, .int 0])), (q9, .inr (5, [.int 6, .int 0, .int 0, .int 0, .int 0, .int 0])), (q10, .inr (5, [.int 7, .int 0, .int 0, .int 0, .int 0, .int 0]))] := hD
  refine lv_iinc (v := 8) (lv' := [(1, .int 8), (0, .ref h0)]) hx hb dX7_init_45 hl (k := 0) rfl (by decide) (by decide) rfl (fun ls hl => ?_)
  refine lv_goto (tgt := 25) hx hb dX7_init_48 (by decide) ?_
  refine lv_iload_n hx hb dX7_init_25 rfl (lv_at hl 0 rfl) ?_
  refine lv_bipush (v := 8) hx hb dX7_init_26 (by decide) ?_
  refine lv_icmp_ge (tgt := 51) hx hb dX7_init_28 (by decide) (fun cc0 => ?_) (fun cc0 => absurd cc0 (by decide))
  exact W.vret hx hb hr (fun t ht hW => ⟨⟨(), rfl, trivial, q1, q3, q4, q5, q6, q7, q8, q9, q10, c2, by rw [ht]; exact hP, va_K.moved hW.alike hK, hD⟩, hS.F ht⟩) hS.2.2 dX7_init_51

def sX0 : Sg := fun o k => if o = 22 then (if k = 4 then -9 else if k = 7 then -9 else if k = 8 then -9 else 0) else 0
def sM0 : Sg := fun o k => if o = 17 then (if k < 4 then -1 else 0) else 0
theorem ra_inj {U : State} {a b : ClassId} (h1 : va_RA U a .int) (h2 : va_RA U b .int) : a = b := Option.some.inj (h1.symm.trans h2)
theorem vpq_congr {cA : ClassId} {n : Nat} {f g : Nat → Option Nat} (h : ∀ j, j < n → f j = g j) : vp_cell cA (n, .inr (.inr (.inr (.inr f)))) = vp_cell cA (n, .inr (.inr (.inr (.inr g)))) := by
  simp only [vp_cell, arrV]
  congr 1
  apply Array.ext
  · simp
  · intro i h1 h2
    simp only [Array.getElem_ofFn]
    rw [h i (by simpa using h1)]
theorem vpi_congr {cA : ClassId} {n : Nat} {f g : Nat → Int32} (h : ∀ j, j < n → f j = g j) : vp_cell cA (n, .inl f) = vp_cell cA (n, .inl g) := by
  simp only [vp_cell, arrV]
  congr 1
  apply Array.ext
  · simp
  · intro i h1 h2
    simp only [Array.getElem_ofFn]
    rw [h i (by simpa using h1)]
set_option maxRecDepth 100000 in
set_option maxHeartbeats 16000000 in
theorem convX {D : va_G} {A : Nat → Prop} {U : State} {h0 : Nat} {q1 : Nat} {q3 : Nat} {q4 : Nat} {q5 : Nat} {q6 : Nat} {q7 : Nat} {q8 : Nat} {q9 : Nat} {q10 : Nat} {q11 : Nat} {q12 : Nat} {q14 : Nat} {q15 : Nat} {q16 : Nat} {q17 : Nat} {q21 : Nat} {q22 : Nat} {q23 : Nat} {q26 : Nat} {q27 : Nat} {q28 : Nat} {q31 : Nat} {q32 : Nat} {q33 : Nat} {q36 : Nat} {q39 : Nat} {q42 : Nat} {q34 : Nat} {q37 : Nat} {q40 : Nat} {q43 : Nat} {c2 : ClassId} {c13 : ClassId} {c18 : ClassId} {c19 : ClassId} {c20 : ClassId} {c24 : ClassId} {c25 : ClassId} {c29 : ClassId} {c30 : ClassId} {c35 : ClassId} {c38 : ClassId} {c41 : ClassId} {c44 : ClassId} (hP : va_P D vwCl [(h0, .inr (8, [.ref q1, .ref q3, .ref q14, .ref q21, .ref q26, .ref q31, .ref q32, .int 0])), (q1, .inl (c2, 4, .inr (.inr (.inr (.inr (va_up (va_up (va_up (va_up (fun _ => none) 0 (some q33)) 1 (some q36)) 2 (some q39)) 3 (some q42))))))), (q3, .inr (6, [.ref q4, .int 0, .int 0])), (q4, .inl (c13, 8, .inr (.inr (.inr (.inr (va_up (va_up (va_up (va_up (va_up (va_up (va_up (va_up (fun _ => none) 0 (some q5)) 1 (some q6)) 2 (some q7)) 3 (some q8)) 4 (some q9)) 5 (some q10)) 6 (some q11)) 7 (some q12))))))), (q5, .inr (5, [.int 0, .int 0, .int 0, .int 0, .int 0, .int 0])), (q6, .inr (5, [.int 1, .int 0, .int 0, .int 0, .int 0, .int 0])), (q7, .inr (5, [.int 2, .int 0, .int 0, .int 0, .int 0, .int 0])), (q8, .inr (5, [.int 3, .int 0, .int 0, .int 0, .int 0, .int 0])), (q9, .inr (5, [.int 4, .int 0, .int 0, .int 0, .int 0, .int 0])), (q10, .inr (5, [.int 5, .int 0, .int 0, .int 0, .int 0, .int 0])), (q11, .inr (5, [.int 6, .int 0, .int 0, .int 0, .int 0, .int 0])), (q12, .inr (5, [.int 7, .int 0, .int 0, .int 0, .int 0, .int 0])), (q14, .inr (1, [.ref q15, .ref q16, .ref q17, .int 0])), (q15, .inl (c18, 8, .inl (fun _ => 0))), (q16, .inl (c19, 8, .inl (fun _ => 0))), (q17, .inl (c20, 8, .inl (fun _ => 0))), (q21, .inr (2, [.ref q22, .ref q23, .int 0])), (q22, .inl (c24, 8, .inl (fun _ => 0))), (q23, .inl (c25, 8, .inl (fun _ => 0))), (q26, .inr (3, [.ref q3, .ref q27, .ref q28, .int 0])), (q27, .inl (c29, 8, .inl (fun _ => 0))), (q28, .inl (c30, 8, .inl (fun _ => 0))), (q31, .inr (7, [.ref q3, .ref q26, .int 0, .int 0, .int (-9), .int 0, .int 0, .int (-9), .int (-9)])), (q32, .inr (0, [.int 0])), (q33, .inr (4, [.ref q34, .int 0, .int 0, .int 0])), (q36, .inr (4, [.ref q37, .int 0, .int 0, .int 0])), (q39, .inr (4, [.ref q40, .int 0, .int 0, .int 0])), (q42, .inr (4, [.ref q43, .int 0, .int 0, .int 0])), (q34, .inl (c35, 60, .inl (fun _ => 0))), (q37, .inl (c38, 60, .inl (fun _ => 0))), (q40, .inl (c41, 60, .inl (fun _ => 0))), (q43, .inl (c44, 60, .inl (fun _ => 0)))] U.heap) (hK : va_K D vwCl [(c2, .object "DeputyTown$Sheet"), (c13, .object "DeputyTown$Thing"), (c18, .int), (c19, .int), (c20, .int), (c24, .int), (c25, .int), (c29, .int), (c30, .int), (c35, .int), (c38, .int), (c41, .int), (c44, .int)] U) (hD : va_D A [(h0, .inr (8, [.ref q1, .ref q3, .ref q14, .ref q21, .ref q26, .ref q31, .ref q32, .int 0])), (q1, .inl (c2, 4, .inr (.inr (.inr (.inr (va_up (va_up (va_up (va_up (fun _ => none) 0 (some q33)) 1 (some q36)) 2 (some q39)) 3 (some q42))))))), (q3, .inr (6, [.ref q4, .int 0, .int 0])), (q4, .inl (c13, 8, .inr (.inr (.inr (.inr (va_up (va_up (va_up (va_up (va_up (va_up (va_up (va_up (fun _ => none) 0 (some q5)) 1 (some q6)) 2 (some q7)) 3 (some q8)) 4 (some q9)) 5 (some q10)) 6 (some q11)) 7 (some q12))))))), (q5, .inr (5, [.int 0, .int 0, .int 0, .int 0, .int 0, .int 0])), (q6, .inr (5, [.int 1, .int 0, .int 0, .int 0, .int 0, .int 0])), (q7, .inr (5, [.int 2, .int 0, .int 0, .int 0, .int 0, .int 0])), (q8, .inr (5, [.int 3, .int 0, .int 0, .int 0, .int 0, .int 0])), (q9, .inr (5, [.int 4, .int 0, .int 0, .int 0, .int 0, .int 0])), (q10, .inr (5, [.int 5, .int 0, .int 0, .int 0, .int 0, .int 0])), (q11, .inr (5, [.int 6, .int 0, .int 0, .int 0, .int 0, .int 0])), (q12, .inr (5, [.int 7, .int 0, .int 0, .int 0, .int 0, .int 0])), (q14, .inr (1, [.ref q15, .ref q16, .ref q17, .int 0])), (q15, .inl (c18, 8, .inl (fun _ => 0))), (q16, .inl (c19, 8, .inl (fun _ => 0))), (q17, .inl (c20, 8, .inl (fun _ => 0))), (q21, .inr (2, [.ref q22, .ref q23, .int 0])), (q22, .inl (c24, 8, .inl (fun _ => 0))), (q23, .inl (c25, 8, .inl (fun _ => 0))), (q26, .inr (3, [.ref q3, .ref q27, .ref q28, .int 0])), (q27, .inl (c29, 8, .inl (fun _ => 0))), (q28, .inl (c30, 8, .inl (fun _ => 0))), (q31, .inr (7, [.ref q3, .ref q26, .int 0, .int 0, .int (-9), .int 0, .int 0, .int (-9), .int (-9)])), (q32, .inr (0, [.int 0])), (q33, .inr (4, [.ref q34, .int 0, .int 0, .int 0])), (q36, .inr (4, [.ref q37, .int 0, .int 0, .int 0])), (q39, .inr (4, [.ref q40, .int 0, .int 0, .int 0])), (q42, .inr (4, [.ref q43, .int 0, .int 0, .int 0])), (q34, .inl (c35, 60, .inl (fun _ => 0))), (q37, .inl (c38, 60, .inl (fun _ => 0))), (q40, .inl (c41, 60, .inl (fun _ => 0))), (q43, .inl (c44, 60, .inl (fun _ => 0)))]) : ∃ (ad : Nat → Nat) (cs : Nat → ClassId), ad 0 = h0 ∧ va_P D vwCl (WX ad cs sX0) U.heap ∧ va_K D vwCl (TYX cs) U ∧ va_D A (WX ad cs sX0) := by
  obtain rfl : c18 = c19 := ra_inj (hK.2 2 _ rfl).2 (hK.2 3 _ rfl).2
  obtain rfl : c18 = c20 := ra_inj (hK.2 2 _ rfl).2 (hK.2 4 _ rfl).2
  obtain rfl : c18 = c24 := ra_inj (hK.2 2 _ rfl).2 (hK.2 5 _ rfl).2
  obtain rfl : c18 = c25 := ra_inj (hK.2 2 _ rfl).2 (hK.2 6 _ rfl).2
  obtain rfl : c18 = c29 := ra_inj (hK.2 2 _ rfl).2 (hK.2 7 _ rfl).2
  obtain rfl : c18 = c30 := ra_inj (hK.2 2 _ rfl).2 (hK.2 8 _ rfl).2
  obtain rfl : c18 = c35 := ra_inj (hK.2 2 _ rfl).2 (hK.2 9 _ rfl).2
  obtain rfl : c18 = c38 := ra_inj (hK.2 2 _ rfl).2 (hK.2 10 _ rfl).2
  obtain rfl : c18 = c41 := ra_inj (hK.2 2 _ rfl).2 (hK.2 11 _ rfl).2
  obtain rfl : c18 = c44 := ra_inj (hK.2 2 _ rfl).2 (hK.2 12 _ rfl).2
  refine ⟨fun o => ([h0, q1, q3, q4, q5, q6, q7, q8, q9, q10, q11, q12, q14, q15, q16, q17, q21, q22, q23, q26, q27, q28, q31, q32, q33, q36, q39, q42, q34, q37, q40, q43] : List Nat).getD o 0, fun i => ([c18, c2, c13] : List ClassId).getD i c18, rfl, ?_, ?_, ?_⟩
  · intro k q hq
    match k, hq with
    | 0, hq => cases hq; exact hP 0 _ rfl
    | 1, hq =>
      cases hq
      have hz := hP 1 _ rfl
      show U.heap[_]? = some (vp_cell _ _)
      rw [vpq_congr (g := (va_up (va_up (va_up (va_up (fun _ => none) 0 (some q33)) 1 (some q36)) 2 (some q39)) 3 (some q42))) (fun j hj => by rcases (show j = 0 ∨ j = 1 ∨ j = 2 ∨ j = 3 by omega) with rfl | rfl | rfl | rfl <;> rfl)]
      exact hz
    | 2, hq => cases hq; exact hP 2 _ rfl
    | 3, hq =>
      cases hq
      have hz := hP 3 _ rfl
      show U.heap[_]? = some (vp_cell _ _)
      rw [vpq_congr (g := (va_up (va_up (va_up (va_up (va_up (va_up (va_up (va_up (fun _ => none) 0 (some q5)) 1 (some q6)) 2 (some q7)) 3 (some q8)) 4 (some q9)) 5 (some q10)) 6 (some q11)) 7 (some q12))) (fun j hj => by rcases (show j = 0 ∨ j = 1 ∨ j = 2 ∨ j = 3 ∨ j = 4 ∨ j = 5 ∨ j = 6 ∨ j = 7 by omega) with rfl | rfl | rfl | rfl | rfl | rfl | rfl | rfl <;> rfl)]
      exact hz
    | 4, hq => cases hq; exact hP 4 _ rfl
    | 5, hq => cases hq; exact hP 5 _ rfl
    | 6, hq => cases hq; exact hP 6 _ rfl
    | 7, hq => cases hq; exact hP 7 _ rfl
    | 8, hq => cases hq; exact hP 8 _ rfl
    | 9, hq => cases hq; exact hP 9 _ rfl
    | 10, hq => cases hq; exact hP 10 _ rfl
    | 11, hq => cases hq; exact hP 11 _ rfl
    | 12, hq => cases hq; exact hP 12 _ rfl
    | 13, hq => cases hq; exact hP 13 _ rfl
    | 14, hq => cases hq; exact hP 14 _ rfl
    | 15, hq => cases hq; exact hP 15 _ rfl
    | 16, hq => cases hq; exact hP 16 _ rfl
    | 17, hq => cases hq; exact hP 17 _ rfl
    | 18, hq => cases hq; exact hP 18 _ rfl
    | 19, hq => cases hq; exact hP 19 _ rfl
    | 20, hq => cases hq; exact hP 20 _ rfl
    | 21, hq => cases hq; exact hP 21 _ rfl
    | 22, hq => cases hq; exact hP 22 _ rfl
    | 23, hq => cases hq; exact hP 23 _ rfl
    | 24, hq => cases hq; exact hP 24 _ rfl
    | 25, hq => cases hq; exact hP 25 _ rfl
    | 26, hq => cases hq; exact hP 26 _ rfl
    | 27, hq => cases hq; exact hP 27 _ rfl
    | 28, hq => cases hq; exact hP 28 _ rfl
    | 29, hq => cases hq; exact hP 29 _ rfl
    | 30, hq => cases hq; exact hP 30 _ rfl
    | 31, hq => cases hq; exact hP 31 _ rfl
    | k + 32, hq => simp [WX] at hq
  · exact hK.sub [2, 0, 1] rfl
  · refine ⟨fun i j a b ha hb e => ?_, fun k q hk => ?_⟩
    · obtain ⟨h1, e1⟩ := wX_at ha
      obtain ⟨h2, e2⟩ := wX_at hb
      have hX : ∀ k, k < 32 → ∃ z : va_E, ([(h0, .inr (8, [.ref q1, .ref q3, .ref q14, .ref q21, .ref q26, .ref q31, .ref q32, .int 0])), (q1, .inl (c2, 4, .inr (.inr (.inr (.inr (va_up (va_up (va_up (va_up (fun _ => none) 0 (some q33)) 1 (some q36)) 2 (some q39)) 3 (some q42))))))), (q3, .inr (6, [.ref q4, .int 0, .int 0])), (q4, .inl (c13, 8, .inr (.inr (.inr (.inr (va_up (va_up (va_up (va_up (va_up (va_up (va_up (va_up (fun _ => none) 0 (some q5)) 1 (some q6)) 2 (some q7)) 3 (some q8)) 4 (some q9)) 5 (some q10)) 6 (some q11)) 7 (some q12))))))), (q5, .inr (5, [.int 0, .int 0, .int 0, .int 0, .int 0, .int 0])), (q6, .inr (5, [.int 1, .int 0, .int 0, .int 0, .int 0, .int 0])), (q7, .inr (5, [.int 2, .int 0, .int 0, .int 0, .int 0, .int 0])), (q8, .inr (5, [.int 3, .int 0, .int 0, .int 0, .int 0, .int 0])), (q9, .inr (5, [.int 4, .int 0, .int 0, .int 0, .int 0, .int 0])), (q10, .inr (5, [.int 5, .int 0, .int 0, .int 0, .int 0, .int 0])), (q11, .inr (5, [.int 6, .int 0, .int 0, .int 0, .int 0, .int 0])), (q12, .inr (5, [.int 7, .int 0, .int 0, .int 0, .int 0, .int 0])), (q14, .inr (1, [.ref q15, .ref q16, .ref q17, .int 0])), (q15, .inl (c18, 8, .inl (fun _ => 0))), (q16, .inl (c18, 8, .inl (fun _ => 0))), (q17, .inl (c18, 8, .inl (fun _ => 0))), (q21, .inr (2, [.ref q22, .ref q23, .int 0])), (q22, .inl (c18, 8, .inl (fun _ => 0))), (q23, .inl (c18, 8, .inl (fun _ => 0))), (q26, .inr (3, [.ref q3, .ref q27, .ref q28, .int 0])), (q27, .inl (c18, 8, .inl (fun _ => 0))), (q28, .inl (c18, 8, .inl (fun _ => 0))), (q31, .inr (7, [.ref q3, .ref q26, .int 0, .int 0, .int (-9), .int 0, .int 0, .int (-9), .int (-9)])), (q32, .inr (0, [.int 0])), (q33, .inr (4, [.ref q34, .int 0, .int 0, .int 0])), (q36, .inr (4, [.ref q37, .int 0, .int 0, .int 0])), (q39, .inr (4, [.ref q40, .int 0, .int 0, .int 0])), (q42, .inr (4, [.ref q43, .int 0, .int 0, .int 0])), (q34, .inl (c18, 60, .inl (fun _ => 0))), (q37, .inl (c18, 60, .inl (fun _ => 0))), (q40, .inl (c18, 60, .inl (fun _ => 0))), (q43, .inl (c18, 60, .inl (fun _ => 0)))] : va_W)[k]? = some (([h0, q1, q3, q4, q5, q6, q7, q8, q9, q10, q11, q12, q14, q15, q16, q17, q21, q22, q23, q26, q27, q28, q31, q32, q33, q36, q39, q42, q34, q37, q40, q43] : List Nat).getD k 0, z) := fun k hk => by
        match k, hk with
        | 0, _ => exact ⟨_, rfl⟩
        | 1, _ => exact ⟨_, rfl⟩
        | 2, _ => exact ⟨_, rfl⟩
        | 3, _ => exact ⟨_, rfl⟩
        | 4, _ => exact ⟨_, rfl⟩
        | 5, _ => exact ⟨_, rfl⟩
        | 6, _ => exact ⟨_, rfl⟩
        | 7, _ => exact ⟨_, rfl⟩
        | 8, _ => exact ⟨_, rfl⟩
        | 9, _ => exact ⟨_, rfl⟩
        | 10, _ => exact ⟨_, rfl⟩
        | 11, _ => exact ⟨_, rfl⟩
        | 12, _ => exact ⟨_, rfl⟩
        | 13, _ => exact ⟨_, rfl⟩
        | 14, _ => exact ⟨_, rfl⟩
        | 15, _ => exact ⟨_, rfl⟩
        | 16, _ => exact ⟨_, rfl⟩
        | 17, _ => exact ⟨_, rfl⟩
        | 18, _ => exact ⟨_, rfl⟩
        | 19, _ => exact ⟨_, rfl⟩
        | 20, _ => exact ⟨_, rfl⟩
        | 21, _ => exact ⟨_, rfl⟩
        | 22, _ => exact ⟨_, rfl⟩
        | 23, _ => exact ⟨_, rfl⟩
        | 24, _ => exact ⟨_, rfl⟩
        | 25, _ => exact ⟨_, rfl⟩
        | 26, _ => exact ⟨_, rfl⟩
        | 27, _ => exact ⟨_, rfl⟩
        | 28, _ => exact ⟨_, rfl⟩
        | 29, _ => exact ⟨_, rfl⟩
        | 30, _ => exact ⟨_, rfl⟩
        | 31, _ => exact ⟨_, rfl⟩
        | k + 32, hk => exact absurd hk (by omega)
      obtain ⟨z1, g1⟩ := hX i h1
      obtain ⟨z2, g2⟩ := hX j h2
      exact hD.1 i j _ _ g1 g2 (by rw [e1, e2] at e; exact e)
    · obtain ⟨h1, e1⟩ := wX_at hk
      have hX : ∀ k, k < 32 → A (([h0, q1, q3, q4, q5, q6, q7, q8, q9, q10, q11, q12, q14, q15, q16, q17, q21, q22, q23, q26, q27, q28, q31, q32, q33, q36, q39, q42, q34, q37, q40, q43] : List Nat).getD k 0) := fun k hk => by
        match k, hk with
        | 0, _ => exact hD.2 0 _ rfl
        | 1, _ => exact hD.2 1 _ rfl
        | 2, _ => exact hD.2 2 _ rfl
        | 3, _ => exact hD.2 3 _ rfl
        | 4, _ => exact hD.2 4 _ rfl
        | 5, _ => exact hD.2 5 _ rfl
        | 6, _ => exact hD.2 6 _ rfl
        | 7, _ => exact hD.2 7 _ rfl
        | 8, _ => exact hD.2 8 _ rfl
        | 9, _ => exact hD.2 9 _ rfl
        | 10, _ => exact hD.2 10 _ rfl
        | 11, _ => exact hD.2 11 _ rfl
        | 12, _ => exact hD.2 12 _ rfl
        | 13, _ => exact hD.2 13 _ rfl
        | 14, _ => exact hD.2 14 _ rfl
        | 15, _ => exact hD.2 15 _ rfl
        | 16, _ => exact hD.2 16 _ rfl
        | 17, _ => exact hD.2 17 _ rfl
        | 18, _ => exact hD.2 18 _ rfl
        | 19, _ => exact hD.2 19 _ rfl
        | 20, _ => exact hD.2 20 _ rfl
        | 21, _ => exact hD.2 21 _ rfl
        | 22, _ => exact hD.2 22 _ rfl
        | 23, _ => exact hD.2 23 _ rfl
        | 24, _ => exact hD.2 24 _ rfl
        | 25, _ => exact hD.2 25 _ rfl
        | 26, _ => exact hD.2 26 _ rfl
        | 27, _ => exact hD.2 27 _ rfl
        | 28, _ => exact hD.2 28 _ rfl
        | 29, _ => exact hD.2 29 _ rfl
        | 30, _ => exact hD.2 30 _ rfl
        | 31, _ => exact hD.2 31 _ rfl
        | k + 32, hk => exact absurd hk (by omega)
      rw [e1]
      exact hX k h1

set_option maxRecDepth 100000 in
set_option maxHeartbeats 16000000 in
theorem convM {D : va_G} {A : Nat → Prop} {U : State} {h0 : Nat} {q1 : Nat} {q3 : Nat} {q5 : Nat} {q7 : Nat} {q9 : Nat} {q11 : Nat} {q13 : Nat} {q15 : Nat} {q17 : Nat} {q19 : Nat} {q21 : Nat} {q23 : Nat} {q25 : Nat} {q27 : Nat} {q29 : Nat} {q31 : Nat} {q33 : Nat} {q35 : Nat} {q37 : Nat} {q39 : Nat} {c2 : ClassId} {c4 : ClassId} {c6 : ClassId} {c8 : ClassId} {c10 : ClassId} {c12 : ClassId} {c14 : ClassId} {c16 : ClassId} {c18 : ClassId} {c20 : ClassId} {c22 : ClassId} {c24 : ClassId} {c26 : ClassId} {c28 : ClassId} {c30 : ClassId} {c32 : ClassId} {c34 : ClassId} {c36 : ClassId} {c38 : ClassId} {c40 : ClassId} (hP : va_P D vwCl [(h0, .inr (9, [.int 0, .int 0, .ref q1, .ref q3, .ref q5, .ref q7, .int 0, .int 0, .int 0, .ref q9, .ref q11, .ref q13, .ref q15, .int 0, .ref q17, .ref q19, .ref q21, .ref q23, .ref q25, .ref q27, .int 0, .int 0, .ref q29, .ref q31, .ref q33, .ref q35, .ref q37, .ref q39, .int 0])), (q1, .inl (c2, 8, .inl (fun _ => 0))), (q3, .inl (c4, 8, .inl (fun _ => 0))), (q5, .inl (c6, 8, .inl (fun _ => 0))), (q7, .inl (c8, 8, .inl (fun _ => 0))), (q9, .inl (c10, 8, .inl (fun _ => 0))), (q11, .inl (c12, 8, .inl (fun _ => 0))), (q13, .inl (c14, 8, .inl (fun _ => 0))), (q15, .inl (c16, 8, .inl (fun _ => 0))), (q17, .inl (c18, 8, .inl (fun _ => 0))), (q19, .inl (c20, 8, .inl (fun _ => 0))), (q21, .inl (c22, 8, .inl (fun _ => 0))), (q23, .inl (c24, 8, .inl (fun _ => 0))), (q25, .inl (c26, 8, .inl (fun _ => 0))), (q27, .inl (c28, 8, .inl (fun _ => 0))), (q29, .inl (c30, 8, .inl (fun _ => 0))), (q31, .inl (c32, 8, .inl (fun _ => 0))), (q33, .inl (c34, 4, .inl (upd (upd (upd (upd (fun _ => 0) 0 (-1)) 1 (-1)) 2 (-1)) 3 (-1)))), (q35, .inl (c36, 4, .inl (fun _ => 0))), (q37, .inl (c38, 240, .inl (fun _ => 0))), (q39, .inl (c40, 60, .inl (fun _ => 0)))] U.heap) (hK : va_K D vwCl [(c2, .int), (c4, .int), (c6, .int), (c8, .int), (c10, .int), (c12, .int), (c14, .int), (c16, .int), (c18, .int), (c20, .int), (c22, .int), (c24, .int), (c26, .int), (c28, .int), (c30, .int), (c32, .int), (c34, .int), (c36, .int), (c38, .int), (c40, .int)] U) (hD : va_D A [(h0, .inr (9, [.int 0, .int 0, .ref q1, .ref q3, .ref q5, .ref q7, .int 0, .int 0, .int 0, .ref q9, .ref q11, .ref q13, .ref q15, .int 0, .ref q17, .ref q19, .ref q21, .ref q23, .ref q25, .ref q27, .int 0, .int 0, .ref q29, .ref q31, .ref q33, .ref q35, .ref q37, .ref q39, .int 0])), (q1, .inl (c2, 8, .inl (fun _ => 0))), (q3, .inl (c4, 8, .inl (fun _ => 0))), (q5, .inl (c6, 8, .inl (fun _ => 0))), (q7, .inl (c8, 8, .inl (fun _ => 0))), (q9, .inl (c10, 8, .inl (fun _ => 0))), (q11, .inl (c12, 8, .inl (fun _ => 0))), (q13, .inl (c14, 8, .inl (fun _ => 0))), (q15, .inl (c16, 8, .inl (fun _ => 0))), (q17, .inl (c18, 8, .inl (fun _ => 0))), (q19, .inl (c20, 8, .inl (fun _ => 0))), (q21, .inl (c22, 8, .inl (fun _ => 0))), (q23, .inl (c24, 8, .inl (fun _ => 0))), (q25, .inl (c26, 8, .inl (fun _ => 0))), (q27, .inl (c28, 8, .inl (fun _ => 0))), (q29, .inl (c30, 8, .inl (fun _ => 0))), (q31, .inl (c32, 8, .inl (fun _ => 0))), (q33, .inl (c34, 4, .inl (upd (upd (upd (upd (fun _ => 0) 0 (-1)) 1 (-1)) 2 (-1)) 3 (-1)))), (q35, .inl (c36, 4, .inl (fun _ => 0))), (q37, .inl (c38, 240, .inl (fun _ => 0))), (q39, .inl (c40, 60, .inl (fun _ => 0)))]) : ∃ (ad : Nat → Nat) (cs : Nat → ClassId), ad 0 = h0 ∧ va_P D vwCl (WM ad cs sM0) U.heap ∧ va_K D vwCl (TYM cs) U ∧ va_D A (WM ad cs sM0) := by
  obtain rfl : c2 = c4 := ra_inj (hK.2 0 _ rfl).2 (hK.2 1 _ rfl).2
  obtain rfl : c2 = c6 := ra_inj (hK.2 0 _ rfl).2 (hK.2 2 _ rfl).2
  obtain rfl : c2 = c8 := ra_inj (hK.2 0 _ rfl).2 (hK.2 3 _ rfl).2
  obtain rfl : c2 = c10 := ra_inj (hK.2 0 _ rfl).2 (hK.2 4 _ rfl).2
  obtain rfl : c2 = c12 := ra_inj (hK.2 0 _ rfl).2 (hK.2 5 _ rfl).2
  obtain rfl : c2 = c14 := ra_inj (hK.2 0 _ rfl).2 (hK.2 6 _ rfl).2
  obtain rfl : c2 = c16 := ra_inj (hK.2 0 _ rfl).2 (hK.2 7 _ rfl).2
  obtain rfl : c2 = c18 := ra_inj (hK.2 0 _ rfl).2 (hK.2 8 _ rfl).2
  obtain rfl : c2 = c20 := ra_inj (hK.2 0 _ rfl).2 (hK.2 9 _ rfl).2
  obtain rfl : c2 = c22 := ra_inj (hK.2 0 _ rfl).2 (hK.2 10 _ rfl).2
  obtain rfl : c2 = c24 := ra_inj (hK.2 0 _ rfl).2 (hK.2 11 _ rfl).2
  obtain rfl : c2 = c26 := ra_inj (hK.2 0 _ rfl).2 (hK.2 12 _ rfl).2
  obtain rfl : c2 = c28 := ra_inj (hK.2 0 _ rfl).2 (hK.2 13 _ rfl).2
  obtain rfl : c2 = c30 := ra_inj (hK.2 0 _ rfl).2 (hK.2 14 _ rfl).2
  obtain rfl : c2 = c32 := ra_inj (hK.2 0 _ rfl).2 (hK.2 15 _ rfl).2
  obtain rfl : c2 = c34 := ra_inj (hK.2 0 _ rfl).2 (hK.2 16 _ rfl).2
  obtain rfl : c2 = c36 := ra_inj (hK.2 0 _ rfl).2 (hK.2 17 _ rfl).2
  obtain rfl : c2 = c38 := ra_inj (hK.2 0 _ rfl).2 (hK.2 18 _ rfl).2
  obtain rfl : c2 = c40 := ra_inj (hK.2 0 _ rfl).2 (hK.2 19 _ rfl).2
  refine ⟨fun o => ([h0, q1, q3, q5, q7, q9, q11, q13, q15, q17, q19, q21, q23, q25, q27, q29, q31, q33, q35, q37, q39] : List Nat).getD o 0, fun i => ([c2] : List ClassId).getD i c2, rfl, ?_, ?_, ?_⟩
  · intro k q hq
    match k, hq with
    | 0, hq => cases hq; exact hP 0 _ rfl
    | 1, hq => cases hq; exact hP 1 _ rfl
    | 2, hq => cases hq; exact hP 2 _ rfl
    | 3, hq => cases hq; exact hP 3 _ rfl
    | 4, hq => cases hq; exact hP 4 _ rfl
    | 5, hq => cases hq; exact hP 5 _ rfl
    | 6, hq => cases hq; exact hP 6 _ rfl
    | 7, hq => cases hq; exact hP 7 _ rfl
    | 8, hq => cases hq; exact hP 8 _ rfl
    | 9, hq => cases hq; exact hP 9 _ rfl
    | 10, hq => cases hq; exact hP 10 _ rfl
    | 11, hq => cases hq; exact hP 11 _ rfl
    | 12, hq => cases hq; exact hP 12 _ rfl
    | 13, hq => cases hq; exact hP 13 _ rfl
    | 14, hq => cases hq; exact hP 14 _ rfl
    | 15, hq => cases hq; exact hP 15 _ rfl
    | 16, hq => cases hq; exact hP 16 _ rfl
    | 17, hq =>
      cases hq
      have hz := hP 17 _ rfl
      show U.heap[_]? = some (vp_cell _ _)
      rw [vpi_congr (g := (upd (upd (upd (upd (fun _ => 0) 0 (-1)) 1 (-1)) 2 (-1)) 3 (-1))) (fun j hj => by rcases (show j = 0 ∨ j = 1 ∨ j = 2 ∨ j = 3 by omega) with rfl | rfl | rfl | rfl <;> rfl)]
      exact hz
    | 18, hq => cases hq; exact hP 18 _ rfl
    | 19, hq => cases hq; exact hP 19 _ rfl
    | 20, hq => cases hq; exact hP 20 _ rfl
    | k + 21, hq => simp [WM] at hq
  · exact hK.sub [0] rfl
  · refine ⟨fun i j a b ha hb e => ?_, fun k q hk => ?_⟩
    · obtain ⟨h1, e1⟩ := wM_at ha
      obtain ⟨h2, e2⟩ := wM_at hb
      have hX : ∀ k, k < 21 → ∃ z : va_E, ([(h0, .inr (9, [.int 0, .int 0, .ref q1, .ref q3, .ref q5, .ref q7, .int 0, .int 0, .int 0, .ref q9, .ref q11, .ref q13, .ref q15, .int 0, .ref q17, .ref q19, .ref q21, .ref q23, .ref q25, .ref q27, .int 0, .int 0, .ref q29, .ref q31, .ref q33, .ref q35, .ref q37, .ref q39, .int 0])), (q1, .inl (c2, 8, .inl (fun _ => 0))), (q3, .inl (c2, 8, .inl (fun _ => 0))), (q5, .inl (c2, 8, .inl (fun _ => 0))), (q7, .inl (c2, 8, .inl (fun _ => 0))), (q9, .inl (c2, 8, .inl (fun _ => 0))), (q11, .inl (c2, 8, .inl (fun _ => 0))), (q13, .inl (c2, 8, .inl (fun _ => 0))), (q15, .inl (c2, 8, .inl (fun _ => 0))), (q17, .inl (c2, 8, .inl (fun _ => 0))), (q19, .inl (c2, 8, .inl (fun _ => 0))), (q21, .inl (c2, 8, .inl (fun _ => 0))), (q23, .inl (c2, 8, .inl (fun _ => 0))), (q25, .inl (c2, 8, .inl (fun _ => 0))), (q27, .inl (c2, 8, .inl (fun _ => 0))), (q29, .inl (c2, 8, .inl (fun _ => 0))), (q31, .inl (c2, 8, .inl (fun _ => 0))), (q33, .inl (c2, 4, .inl (upd (upd (upd (upd (fun _ => 0) 0 (-1)) 1 (-1)) 2 (-1)) 3 (-1)))), (q35, .inl (c2, 4, .inl (fun _ => 0))), (q37, .inl (c2, 240, .inl (fun _ => 0))), (q39, .inl (c2, 60, .inl (fun _ => 0)))] : va_W)[k]? = some (([h0, q1, q3, q5, q7, q9, q11, q13, q15, q17, q19, q21, q23, q25, q27, q29, q31, q33, q35, q37, q39] : List Nat).getD k 0, z) := fun k hk => by
        match k, hk with
        | 0, _ => exact ⟨_, rfl⟩
        | 1, _ => exact ⟨_, rfl⟩
        | 2, _ => exact ⟨_, rfl⟩
        | 3, _ => exact ⟨_, rfl⟩
        | 4, _ => exact ⟨_, rfl⟩
        | 5, _ => exact ⟨_, rfl⟩
        | 6, _ => exact ⟨_, rfl⟩
        | 7, _ => exact ⟨_, rfl⟩
        | 8, _ => exact ⟨_, rfl⟩
        | 9, _ => exact ⟨_, rfl⟩
        | 10, _ => exact ⟨_, rfl⟩
        | 11, _ => exact ⟨_, rfl⟩
        | 12, _ => exact ⟨_, rfl⟩
        | 13, _ => exact ⟨_, rfl⟩
        | 14, _ => exact ⟨_, rfl⟩
        | 15, _ => exact ⟨_, rfl⟩
        | 16, _ => exact ⟨_, rfl⟩
        | 17, _ => exact ⟨_, rfl⟩
        | 18, _ => exact ⟨_, rfl⟩
        | 19, _ => exact ⟨_, rfl⟩
        | 20, _ => exact ⟨_, rfl⟩
        | k + 21, hk => exact absurd hk (by omega)
      obtain ⟨z1, g1⟩ := hX i h1
      obtain ⟨z2, g2⟩ := hX j h2
      exact hD.1 i j _ _ g1 g2 (by rw [e1, e2] at e; exact e)
    · obtain ⟨h1, e1⟩ := wM_at hk
      have hX : ∀ k, k < 21 → A (([h0, q1, q3, q5, q7, q9, q11, q13, q15, q17, q19, q21, q23, q25, q27, q29, q31, q33, q35, q37, q39] : List Nat).getD k 0) := fun k hk => by
        match k, hk with
        | 0, _ => exact hD.2 0 _ rfl
        | 1, _ => exact hD.2 1 _ rfl
        | 2, _ => exact hD.2 2 _ rfl
        | 3, _ => exact hD.2 3 _ rfl
        | 4, _ => exact hD.2 4 _ rfl
        | 5, _ => exact hD.2 5 _ rfl
        | 6, _ => exact hD.2 6 _ rfl
        | 7, _ => exact hD.2 7 _ rfl
        | 8, _ => exact hD.2 8 _ rfl
        | 9, _ => exact hD.2 9 _ rfl
        | 10, _ => exact hD.2 10 _ rfl
        | 11, _ => exact hD.2 11 _ rfl
        | 12, _ => exact hD.2 12 _ rfl
        | 13, _ => exact hD.2 13 _ rfl
        | 14, _ => exact hD.2 14 _ rfl
        | 15, _ => exact hD.2 15 _ rfl
        | 16, _ => exact hD.2 16 _ rfl
        | 17, _ => exact hD.2 17 _ rfl
        | 18, _ => exact hD.2 18 _ rfl
        | 19, _ => exact hD.2 19 _ rfl
        | 20, _ => exact hD.2 20 _ rfl
        | k + 21, hk => exact absurd hk (by omega)
      rw [e1]
      exact hX k h1


/-! ===== calls that need no walk of hours ===== -/
theorem nI_sub1 (b : Nat) : nI b + 1 - 1 = nI b := by rw [nI_1, nI_pred]
theorem REL.up {σx σm σx' σm' : Sg} {n v b r : Nat} (h : REL1 σx' σm' n v b r) (hf : σx 0 7 = σm 0 0) (e1 : σx' 0 7 = σx 0 7) (e2 : σm' 0 0 = σm 0 0) : REL σx' σm' := ⟨⟨n, v, b, r, h⟩, by rw [e1, e2]; exact hf⟩
theorem REL1.law {σx σm : Sg} {n v b r w : Nat} (h : REL1 σx σm n v b r) (hw : w ≤ 2) : REL1 (st σx 2 2 (nI w)) (st σm 0 6 (nI w)) n w b r := by
  obtain ⟨h0, h1, h2, h3, h4, h5, h6, h7, h8, h9⟩ := h
  refine ⟨⟨h0.1, h0.2.1, hw, h0.2.2.2⟩, ?_, ⟨st_s, st_s⟩, ?_, ?_, ?_, fun t ht => ?_, fun k hk => ?_, fun k hk => ?_, fun t ht => ?_⟩
  · simp (disch := omega) only [st_ok]; exact h1
  · simp (disch := omega) only [st_ok]; exact h3
  · simp (disch := omega) only [st_ok]; exact h4
  · simp (disch := omega) only [st_ok]; exact h5
  · have := h6 t ht; unfold THG at *; simp (disch := omega) only [st_ok]; exact this
  · have := h7 k hk; unfold BRK at *; simp (disch := omega) only [st_ok]; exact this
  · have := h8 k hk; unfold RDG at *; simp (disch := omega) only [st_ok]; exact this
  · have := h9 t ht; unfold SHT at *; simp (disch := omega) only [st_ok]; exact this
theorem REL1.dep {σx σm : Sg} {n v b r t d : Nat} (h : REL1 σx σm n v b r) (ht0 : t < n) (hd : d < n) : REL1 (st σx (4 + t) 2 (nI d)) (st σm 2 t (nI d)) n v b r := by
  obtain ⟨h0, h1, h2, h3, h4, h5, h6, h7, h8, h9⟩ := h
  refine ⟨h0, ?_, ?_, ?_, ?_, ?_, fun u hu => ?_, fun k hk => ?_, fun k hk => ?_, fun u hu => ?_⟩
  · simp (disch := omega) only [st_ok]; exact h1
  · simp (disch := omega) only [st_ok]; exact h2
  · simp (disch := omega) only [st_ok]; exact h3
  · simp (disch := omega) only [st_ok]; exact h4
  · simp (disch := omega) only [st_ok]; exact h5
  · have := h6 u hu; unfold THG at *
    by_cases e : u = t
    · subst e
      simp (disch := omega) only [st_ok, st_s]
      exact ⟨this.1, trivial, ⟨d, hd, rfl⟩, this.2.2.2⟩
    · simp (disch := omega) only [st_ok]; exact this
  · have := h7 k hk; unfold BRK at *; simp (disch := omega) only [st_ok]; exact this
  · have := h8 k hk; unfold RDG at *; simp (disch := omega) only [st_ok]; exact this
  · have := h9 u hu; unfold SHT at *; simp (disch := omega) only [st_ok]; exact this
theorem REL1.brk {σx σm : Sg} {n v b r : Nat} (h : REL1 σx σm n v b r) (hb : b < 8) (x y z : Int32) : REL1 (st (st (st (st σx 13 b x) 14 b y) 15 b z) 12 3 (nI (b + 1))) (st (st (st (st σm 9 b x) 10 b y) 11 b z) 0 13 (nI (b + 1))) n v (b + 1) r := by
  obtain ⟨h0, h1, h2, h3, h4, h5, h6, h7, h8, h9⟩ := h
  refine ⟨⟨h0.1, h0.2.1, h0.2.2.1, hb, h0.2.2.2.2⟩, ?_, ?_, ⟨st_s, st_s⟩, ?_, ?_, fun u hu => ?_, fun k hk => ?_, fun k hk => ?_, fun u hu => ?_⟩
  · simp (disch := omega) only [st_ok]; exact h1
  · simp (disch := omega) only [st_ok]; exact h2
  · simp (disch := omega) only [st_ok]; exact h4
  · simp (disch := omega) only [st_ok]; exact h5
  · have := h6 u hu; unfold THG at *; simp (disch := omega) only [st_ok]; exact this
  · by_cases e : k = b
    · subst e
      unfold BRK
      simp (disch := omega) only [st_ok, st_s]
      exact ⟨trivial, trivial, trivial⟩
    · have := h7 k (by omega); unfold BRK at *; simp (disch := omega) only [st_ok]; exact this
  · have := h8 k hk; unfold RDG at *; simp (disch := omega) only [st_ok]; exact this
  · have := h9 u hu; unfold SHT at *; simp (disch := omega) only [st_ok]; exact this
theorem REL1.glue {σx σm : Sg} {n v b r c : Nat} (h : REL1 σx σm n v b r) (hc : c ≤ b) : REL1 (st σx 12 3 (nI c)) (st σm 0 13 (nI c)) n v c r := by
  obtain ⟨h0, h1, h2, h3, h4, h5, h6, h7, h8, h9⟩ := h
  refine ⟨⟨h0.1, h0.2.1, h0.2.2.1, Nat.le_trans hc h0.2.2.2.1, h0.2.2.2.2⟩, ?_, ?_, ⟨st_s, st_s⟩, ?_, ?_, fun u hu => ?_, fun k hk => ?_, fun k hk => ?_, fun u hu => ?_⟩
  · simp (disch := omega) only [st_ok]; exact h1
  · simp (disch := omega) only [st_ok]; exact h2
  · simp (disch := omega) only [st_ok]; exact h4
  · simp (disch := omega) only [st_ok]; exact h5
  · have := h6 u hu; unfold THG at *; simp (disch := omega) only [st_ok]; exact this
  · have := h7 k (Nat.lt_of_lt_of_le hk hc); unfold BRK at *; simp (disch := omega) only [st_ok]; exact this
  · have := h8 k hk; unfold RDG at *; simp (disch := omega) only [st_ok]; exact this
  · have := h9 u hu; unfold SHT at *; simp (disch := omega) only [st_ok]; exact this
theorem REL1.rdg {σx σm : Sg} {n v b r t : Nat} (h : REL1 σx σm n v b r) (hb : r < 8) (ht : t < n) (y : Int32) : REL1 (st (st (st σx 17 r (nI t)) 18 r y) 16 2 (nI (r + 1))) (st (st (st σm 15 r (nI t)) 16 r y) 0 21 (nI (r + 1))) n v b (r + 1) := by
  obtain ⟨h0, h1, h2, h3, h4, h5, h6, h7, h8, h9⟩ := h
  refine ⟨⟨h0.1, h0.2.1, h0.2.2.1, h0.2.2.2.1, hb⟩, ?_, ?_, ?_, ⟨st_s, st_s⟩, ?_, fun u hu => ?_, fun k hk => ?_, fun k hk => ?_, fun u hu => ?_⟩
  · simp (disch := omega) only [st_ok]; exact h1
  · simp (disch := omega) only [st_ok]; exact h2
  · simp (disch := omega) only [st_ok]; exact h3
  · simp (disch := omega) only [st_ok]; exact h5
  · have := h6 u hu; unfold THG at *; simp (disch := omega) only [st_ok]; exact this
  · have := h7 k hk; unfold BRK at *; simp (disch := omega) only [st_ok]; exact this
  · by_cases e : k = r
    · subst e
      unfold RDG
      simp (disch := omega) only [st_ok, st_s]
      exact ⟨trivial, trivial, t, ht, rfl⟩
    · have := h8 k (by omega); unfold RDG at *; simp (disch := omega) only [st_ok]; exact this
  · have := h9 u hu; unfold SHT at *; simp (disch := omega) only [st_ok]; exact this
theorem REL1.bak {σx σm : Sg} {n v b r c : Nat} (h : REL1 σx σm n v b r) (hc : c ≤ r) : REL1 (st σx 16 2 (nI c)) (st σm 0 21 (nI c)) n v b c := by
  obtain ⟨h0, h1, h2, h3, h4, h5, h6, h7, h8, h9⟩ := h
  refine ⟨⟨h0.1, h0.2.1, h0.2.2.1, h0.2.2.2.1, Nat.le_trans hc h0.2.2.2.2⟩, ?_, ?_, ?_, ⟨st_s, st_s⟩, ?_, fun u hu => ?_, fun k hk => ?_, fun k hk => ?_, fun u hu => ?_⟩
  · simp (disch := omega) only [st_ok]; exact h1
  · simp (disch := omega) only [st_ok]; exact h2
  · simp (disch := omega) only [st_ok]; exact h3
  · simp (disch := omega) only [st_ok]; exact h5
  · have := h6 u hu; unfold THG at *; simp (disch := omega) only [st_ok]; exact this
  · have := h7 k hk; unfold BRK at *; simp (disch := omega) only [st_ok]; exact this
  · have := h8 k (Nat.lt_of_lt_of_le hk hc); unfold RDG at *; simp (disch := omega) only [st_ok]; exact this
  · have := h9 u hu; unfold SHT at *; simp (disch := omega) only [st_ok]; exact this
theorem REL1.trc {σx σm : Sg} {n v b r : Nat} (h : REL1 σx σm n v b r) (w : Int32) : REL1 (st σx 23 0 w) (st σm 0 28 w) n v b r := by
  obtain ⟨h0, h1, h2, h3, h4, h5, h6, h7, h8, h9⟩ := h
  refine ⟨h0, ?_, ?_, ?_, ?_, by rw [st_s, st_s], fun u hu => ?_, fun k hk => ?_, fun k hk => ?_, fun u hu => ?_⟩
  · simp (disch := omega) only [st_ok]; exact h1
  · simp (disch := omega) only [st_ok]; exact h2
  · simp (disch := omega) only [st_ok]; exact h3
  · simp (disch := omega) only [st_ok]; exact h4
  · have := h6 u hu; unfold THG at *; simp (disch := omega) only [st_ok]; exact this
  · have := h7 k hk; unfold BRK at *; simp (disch := omega) only [st_ok]; exact this
  · have := h8 k hk; unfold RDG at *; simp (disch := omega) only [st_ok]; exact this
  · have := h9 u hu; unfold SHT at *; simp (disch := omega) only [st_ok]; exact this
theorem rng {x : Int32} {y : Nat} (hy : y < 2 ^ 31) (h : 0 ≤ x ∧ x ≤ nI y) : ∃ w, w ≤ y ∧ x = nI w := by
  have e0 : (0 : Int32).toInt = 0 := rfl
  have ey := nI_toInt hy
  simp only [Int32.le_iff_toInt_le] at h
  by_cases hy2 : y + 1 < 2 ^ 31
  · obtain ⟨w, hw, e⟩ := vin_of (x := x) (n := y + 1) (by rw [vin_iff]; omega) hy2
    exact ⟨w, by omega, e⟩
  · refine ⟨x.toInt.toNat, by omega, ?_⟩
    apply Int32.toInt_inj.mp
    rw [nI_toInt (by omega)]
    omega
theorem sim_trace {σx σm : Sg} (h : REL σx σm) : ∃ r, f_X9_trace σx = some r ∧ f_X10_trace σm = some r := by
  obtain ⟨⟨n, v, b, r, h⟩, hf⟩ := h
  exact ⟨_, rfl, by unfold f_X10_trace; rw [h.2.2.2.2.2.1]⟩
theorem sim_fault {σx σm : Sg} (h : REL σx σm) : ∃ r, f_X9_fault σx = some r ∧ f_X10_fault σm = some r := ⟨_, rfl, by unfold f_X10_fault; rw [h.2]⟩
theorem sim_many {σx σm : Sg} (h : REL σx σm) (a1 : Int32) : ∃ r, f_X9_many σx a1 = some r ∧ f_X10_many σm a1 = some r := by
  obtain ⟨⟨n, v, b, r, h⟩, hf⟩ := h
  unfold f_X10_many f_X9_many
  rw [h.2.1.1, h.2.1.2, h.2.2.1.1, h.2.2.1.2, h.2.2.2.1.1, h.2.2.2.1.2, h.2.2.2.2.1.1, h.2.2.2.2.1.2]
  repeat' split
  all_goals exact ⟨_, rfl, rfl⟩
theorem f_goodOf {σx σm : Sg} {n v b r : Nat} (h : REL1 σx σm n v b r) {t : Nat} (ht : t < n) : f_X10_goodOf σm (nI t) = some (σx (4 + t) 5) := by
  have hn := h.1.1
  have hT := h.2.2.2.2.2.2.1 t ht
  unfold f_X10_goodOf
  rw [if_pos (vin_k (by omega) (by decide)), nI_clamp (by omega), hT.2.2.2.2.2.2]
  by_cases h0 : σm 1 t = 0
  · rw [if_pos h0, if_pos h0]
  · rw [if_neg h0, if_neg h0]
    by_cases h1 : σm 1 t = 1
    · rw [if_pos h1, if_pos h1]
    · rw [if_neg h1, if_neg h1]
theorem sim_ofThing {σx σm : Sg} (h : REL σx σm) (a1 : Int32) (a2 : Int32) : ∃ r, f_X9_ofThing σx a1 a2 = some r ∧ f_X10_ofThing σm a1 a2 = some r := by
  obtain ⟨⟨n, v, b, r, h⟩, hf⟩ := h
  have hn := h.1.1
  unfold f_X9_ofThing f_X10_ofThing
  rw [f_thingAt h.2.1.1 h.1.1, f_noThing h.2.1.2 h.1.1]
  by_cases hv : vin a1 n = true
  · obtain ⟨t, ht, rfl⟩ := vin_of hv (by omega)
    have hT := h.2.2.2.2.2.2.1 t ht
    have v8 : vin (nI t) 8 = true := vin_k (by omega) (by decide)
    simp only [if_pos hv, Option.bind_some, if_true, if_pos v8, nI_clamp (show t < 2 ^ 31 by omega), if_pos (show t < 8 by omega), f_goodOf h ht]
    rw [hT.1, hT.2.1, hT.2.2.2.1, hT.2.2.2.2.1]
    repeat' split
    all_goals exact ⟨_, rfl, rfl⟩
  · simp only [if_neg hv, Option.bind_some]
    exact ⟨_, rfl, rfl⟩
theorem sim_law {σx σm : Sg} (h : REL σx σm) (a1 : Int32) : ∃ r σx1 σm1, f_X9_law σx a1 = some (r, σx1) ∧ f_X10_law σm a1 = some (r, σm1) ∧ REL σx1 σm1 := by
  obtain ⟨⟨n, v, b, r, h⟩, hf⟩ := h
  unfold f_X9_law f_X10_law
  rw [f_beyond, f_in32 σm a1 0 2 (a := 0) (b := 2) rfl rfl]
  simp only [Option.bind_some, ite_zero, ite_one]
  by_cases hv : 0 ≤ a1 ∧ a1 ≤ (2 : Int32)
  · rw [if_pos hv, if_neg (Classical.not_not.mpr hv), h.2.1.1, h.2.1.2]
    by_cases h0 : nI n = 0
    · rw [if_pos h0, if_pos h0]
      exact ⟨_, _, _, rfl, rfl, ⟨n, v, b, r, h⟩, hf⟩
    · rw [if_neg h0, if_neg h0, h.2.2.1.1, h.2.2.1.2]
      obtain ⟨w, hw, rfl⟩ := rng (y := 2) (by decide) hv
      exact ⟨_, _, _, rfl, rfl, REL.up (h.law hw) hf (st_ok (by omega)) (st_ok (by omega))⟩
  · rw [if_neg hv, if_pos hv]
    exact ⟨_, _, _, rfl, rfl, ⟨n, v, b, r, h⟩, hf⟩
theorem sim_depute {σx σm : Sg} (h : REL σx σm) (a1 : Int32) (a2 : Int32) : ∃ r σx1 σm1, f_X9_depute σx a1 a2 = some (r, σx1) ∧ f_X10_depute σm a1 a2 = some (r, σm1) ∧ REL σx1 σm1 := by
  obtain ⟨⟨n, v, b, r, h⟩, hf⟩ := h
  have hn := h.1.1
  unfold f_X9_depute f_X10_depute
  rw [f_thingAt h.2.1.1 h.1.1, f_noThing h.2.1.2 h.1.1, f_thingAt h.2.1.1 h.1.1, f_noThing h.2.1.2 h.1.1]
  by_cases hv : vin a1 n = true
  · obtain ⟨t, ht, rfl⟩ := vin_of hv (by omega)
    have hT := h.2.2.2.2.2.2.1 t ht
    have v8 : vin (nI t) 8 = true := vin_k (by omega) (by decide)
    simp only [if_pos hv, Option.bind_some, if_true, if_pos v8, nI_clamp (show t < 2 ^ 31 by omega), if_pos (show t < 8 by omega)]
    by_cases hw : vin a2 n = true
    · obtain ⟨d, hd, rfl⟩ := vin_of hw (by omega)
      simp only [if_pos hw, if_true]
      by_cases e : nI t = nI d
      · rw [if_pos e, if_pos e]
        exact ⟨_, _, _, rfl, rfl, ⟨n, v, b, r, h⟩, hf⟩
      · rw [if_neg e, if_neg e, hT.2.1]
        exact ⟨_, _, _, rfl, rfl, REL.up (h.dep ht hd) hf (st_ok (by omega)) (st_ok (by omega))⟩
    · simp only [if_neg hw]
      exact ⟨_, _, _, rfl, rfl, ⟨n, v, b, r, h⟩, hf⟩
  · simp only [if_neg hv, Option.bind_some]
    exact ⟨_, _, _, rfl, rfl, ⟨n, v, b, r, h⟩, hf⟩

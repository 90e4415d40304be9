theorem n0 (b : Nat) (h : b < 2 ^ 31) : ¬ nI b < 0 := nI_pos h
theorem ne_of {a c : Nat} (h : a ≠ c) (ha : a < 2 ^ 31) (hc : c < 2 ^ 31) : ¬ nI a = nI c := fun e => h ((nI_eq ha hc).mp e)
theorem f_Xadd {σ : Sg} {b : Nat} (hb : σ 12 3 = nI b) (h8 : b < 8) (x y z : Int32) : f_X1_add σ x y z = some (nI b, st (st (st (st σ 13 b x) 14 b y) 15 b z) 12 3 (nI (b + 1))) := by
  unfold f_X1_add
  have c := nI_clamp (n := b) (by omega)
  simp (disch := omega) only [st_ok, st_s, hb, c]
  rw [if_neg (n0 b (by omega)), if_pos (show nI b < 8 from nI_lt (b := 8) h8 (by decide)), if_pos (vin_k h8 (by decide)), if_pos (vin_k h8 (by decide)), if_pos (vin_k h8 (by decide)), nI_sub1, nI_1]
theorem f_Madd {σ : Sg} {b : Nat} (hb : σ 16 2 = nI b) (h8 : b < 8) (x y : Int32) : f_X2_add σ x y = some (nI b, st (st (st σ 17 b x) 18 b y) 16 2 (nI (b + 1))) := by
  unfold f_X2_add
  have c := nI_clamp (n := b) (by omega)
  simp (disch := omega) only [st_ok, st_s, hb, c]
  rw [if_neg (n0 b (by omega)), if_pos (show nI b < 8 from nI_lt (b := 8) h8 (by decide)), if_pos (vin_k h8 (by decide)), if_pos (vin_k h8 (by decide)), nI_sub1, nI_1]
theorem sim_smash {σx σm : Sg} (h : REL σx σm) (a1 : Int32) (a2 : Int32) (a3 : Int32) : ∃ r σx1 σm1, f_X9_smash σx a1 a2 a3 = some (r, σx1) ∧ f_X10_smash σm a1 a2 a3 = some (r, σm1) ∧ REL σx1 σm1 := by
  obtain ⟨⟨n, v, b, r, h⟩, hf⟩ := h
  have hn := h.1.1
  have hb8 := h.1.2.2.2.1
  have self : REL σx σm := ⟨⟨n, v, b, r, h⟩, hf⟩
  unfold f_X9_smash f_X10_smash
  rw [f_thingAt h.2.1.1 h.1.1, f_noThing h.2.1.2 h.1.1, f_beyond, f_beyond, f_isHour, f_isHour]
  by_cases hv : vin a1 n = true
  · simp only [if_pos hv, Option.bind_some, if_true]
    by_cases h2 : 0 ≤ a2 ∧ a2 ≤ (29 : Int32)
    · simp only [if_pos h2, Option.bind_some, if_true]
      by_cases h3 : 0 ≤ a3 ∧ a3 ≤ (29 : Int32)
      · simp only [if_pos h3, Option.bind_some, if_true]
        by_cases h4 : a2 ≤ a3
        · simp only [if_pos h4, if_neg (show ¬ (1 : Int32) = 0 by decide)]
          rcases Nat.lt_or_ge b 8 with h5 | h5
          · have c := nI_clamp (n := b) (by omega)
            rw [f_Xadd h.2.2.2.1.1 h5]
            simp (disch := omega) only [st_ok, st_s, h.2.2.2.1.2, c]
            rw [if_neg (show ¬ nI b = 8 from ne_of (c := 8) (by omega) (by omega) (by omega)), if_pos (vin_k h5 (by decide)), if_pos (vin_k h5 (by decide)), if_pos (vin_k h5 (by decide)), nI_sub1, nI_1]
            exact ⟨_, _, _, rfl, rfl, REL.up (h.brk h5 _ _ _) hf (by simp (disch := omega) only [st_ok]) (by simp (disch := omega) only [st_ok])⟩
          · have h6 : b = 8 := by omega
            subst h6
            have e1 : f_X1_add σx a1 a2 a3 = some (-4, σx) := by
              unfold f_X1_add
              rw [h.2.2.2.1.1, if_neg (n0 8 (by omega)), if_neg (show ¬ nI 8 < 8 by decide)]
            rw [e1, h.2.2.2.1.2, if_pos (show nI 8 = 8 from rfl)]
            exact ⟨_, _, _, rfl, rfl, self⟩
        · simp only [if_neg h4, if_neg (show ¬ (1 : Int32) = 0 by decide)]
          exact ⟨_, _, _, rfl, rfl, self⟩
      · simp only [if_neg h3, Option.bind_some, if_neg (show ¬ (1 : Int32) = 0 by decide), if_true]
        exact ⟨_, _, _, rfl, rfl, self⟩
    · simp only [if_neg h2, Option.bind_some, if_neg (show ¬ (1 : Int32) = 0 by decide), if_true]
      exact ⟨_, _, _, rfl, rfl, self⟩
  · simp only [if_neg hv, Option.bind_some, if_neg (show ¬ (1 : Int32) = 0 by decide)]
    exact ⟨_, _, _, rfl, rfl, self⟩
theorem sim_glue {σx σm : Sg} (h : REL σx σm) (a1 : Int32) : ∃ r σx1 σm1, f_X9_glue σx a1 = some (r, σx1) ∧ f_X10_glue σm a1 = some (r, σm1) ∧ REL σx1 σm1 := by
  obtain ⟨⟨n, v, b, r, h⟩, hf⟩ := h
  have hb8 := h.1.2.2.2.1
  have self : REL σx σm := ⟨⟨n, v, b, r, h⟩, hf⟩
  unfold f_X9_glue f_X10_glue
  rw [f_beyond, f_in32 σm a1 0 (σm 0 13) (a := 0) (b := (σm 0 13).toInt64) rfl rfl, h.2.2.2.1.1, h.2.2.2.1.2]
  by_cases hv : 0 ≤ a1 ∧ a1 ≤ nI b
  · simp only [if_pos hv, Option.bind_some, if_true, if_neg (show ¬ (1 : Int32) = 0 by decide)]
    obtain ⟨w, hw, rfl⟩ := rng (by omega) hv
    simp only [st_s, pk_sub hw]
    exact ⟨_, _, _, rfl, rfl, REL.up (h.glue (Nat.sub_le b w)) hf (st_ok (by omega)) (st_ok (by omega))⟩
  · simp only [if_neg hv, Option.bind_some, if_true, if_neg (show ¬ (1 : Int32) = 0 by decide)]
    exact ⟨_, _, _, rfl, rfl, self⟩
theorem sim_back {σx σm : Sg} (h : REL σx σm) (a1 : Int32) : ∃ r σx1 σm1, f_X9_back σx a1 = some (r, σx1) ∧ f_X10_back σm a1 = some (r, σm1) ∧ REL σx1 σm1 := by
  obtain ⟨⟨n, v, b, r, h⟩, hf⟩ := h
  have hb8 := h.1.2.2.2.2
  have self : REL σx σm := ⟨⟨n, v, b, r, h⟩, hf⟩
  unfold f_X9_back f_X10_back
  rw [f_beyond, f_in32 σm a1 0 (σm 0 21) (a := 0) (b := (σm 0 21).toInt64) rfl rfl, h.2.2.2.2.1.1, h.2.2.2.2.1.2]
  by_cases hv : 0 ≤ a1 ∧ a1 ≤ nI r
  · simp only [if_pos hv, Option.bind_some, if_true, if_neg (show ¬ (1 : Int32) = 0 by decide)]
    obtain ⟨w, hw, rfl⟩ := rng (by omega) hv
    simp only [st_s, pk_sub hw]
    exact ⟨_, _, _, rfl, rfl, REL.up (h.bak (Nat.sub_le r w)) hf (st_ok (by omega)) (st_ok (by omega))⟩
  · simp only [if_neg hv, Option.bind_some, if_true, if_neg (show ¬ (1 : Int32) = 0 by decide)]
    exact ⟨_, _, _, rfl, rfl, self⟩
theorem sim_reading {σx σm : Sg} (h : REL σx σm) (a1 : Int32) (a2 : Int32) : ∃ r σx1 σm1, f_X9_reading σx a1 a2 = some (r, σx1) ∧ f_X10_reading σm a1 a2 = some (r, σm1) ∧ REL σx1 σm1 := by
  obtain ⟨⟨n, v, b, r, h⟩, hf⟩ := h
  have hn := h.1.1
  have hb8 := h.1.2.2.2.2
  have self : REL σx σm := ⟨⟨n, v, b, r, h⟩, hf⟩
  unfold f_X9_reading f_X10_reading
  rw [f_thingAt h.2.1.1 h.1.1, f_noThing h.2.1.2 h.1.1, f_thingAt h.2.1.1 h.1.1, f_noThing h.2.1.2 h.1.1]
  have main : ∀ t, t < n → ∃ q σx1 σm1, f_X9_reading_30 σx (nI t) a2 = some (q, σx1) ∧ f_X10_reading_24 σm (nI t) a2 = some (q, σm1) ∧ REL σx1 σm1 := by
    intro t ht
    unfold f_X9_reading_30 f_X10_reading_24
    rcases Nat.lt_or_ge r 8 with h5 | h5
    · have c := nI_clamp (n := r) (by omega)
      rw [f_Madd h.2.2.2.2.1.1 h5]
      simp (disch := omega) only [st_ok, st_s, h.2.2.2.2.1.2, c]
      rw [if_neg (show ¬ nI r = 8 from ne_of (c := 8) (by omega) (by omega) (by omega)), if_pos (vin_k h5 (by decide)), if_pos (vin_k h5 (by decide)), nI_sub1, nI_1]
      exact ⟨_, _, _, rfl, rfl, REL.up (h.rdg h5 ht _) hf (by simp (disch := omega) only [st_ok]) (by simp (disch := omega) only [st_ok])⟩
    · have h6 : r = 8 := by omega
      subst h6
      have e1 : f_X2_add σx (nI t) a2 = some (-4, σx) := by
        unfold f_X2_add
        rw [h.2.2.2.2.1.1, if_neg (n0 8 (by omega)), if_neg (show ¬ nI 8 < 8 by decide)]
      rw [e1, h.2.2.2.2.1.2, if_pos (show nI 8 = 8 from rfl)]
      exact ⟨_, _, _, rfl, rfl, self⟩
  by_cases hv : vin a1 n = true
  · obtain ⟨t, ht, rfl⟩ := vin_of hv (by omega)
    simp only [if_pos hv, Option.bind_some, if_true]
    by_cases h2 : a2 = -9
    · rw [if_pos h2, if_pos h2]
      exact main t ht
    · rw [if_neg h2, if_neg h2]
      by_cases hw : vin a2 n = true
      · simp only [if_pos hw, if_true]
        exact main t ht
      · simp only [if_neg hw, if_neg (show ¬ (1 : Int32) = 0 by decide)]
        exact ⟨_, _, _, rfl, rfl, self⟩
  · simp only [if_neg hv, Option.bind_some, if_neg (show ¬ (1 : Int32) = 0 by decide)]
    exact ⟨_, _, _, rfl, rfl, self⟩
theorem sim_lose {σx σm : Sg} (h : REL σx σm) (a1 : Int32) : ∃ r σx1 σm1, f_X9_lose σx a1 = some (r, σx1) ∧ f_X10_lose σm a1 = some (r, σm1) ∧ REL σx1 σm1 := by
  obtain ⟨⟨n, v, b, r, h⟩, hf⟩ := h
  have self : REL σx σm := ⟨⟨n, v, b, r, h⟩, hf⟩
  unfold f_X9_lose f_X10_lose
  rw [f_sheetAt, f_noSheet]
  by_cases hv : vin a1 4 = true
  · obtain ⟨t, ht, rfl⟩ := vin_of hv (by omega)
    have c := nI_clamp (n := t) (by omega)
    simp only [if_pos hv, Option.bind_some, if_true, c, if_pos ht]
    have up : REL (st σx (24 + t) 1 0) (st σm 17 t (-1)) := by
      have hh := h
      obtain ⟨h0, h1, h2, h3, h4, h5, h6, h7, h8, h9⟩ := h
      have hn := h0.1
      refine REL.up (n := n) (v := v) (b := b) (r := r) ⟨h0, ?_, ?_, ?_, ?_, ?_, fun u hu => ?_, fun k hk => ?_, fun k hk => ?_, fun u hu => ?_⟩ hf (st_ok (by omega)) (st_ok (by omega))
      · simp (disch := omega) only [st_ok]; exact h1
      · simp (disch := omega) only [st_ok]; exact h2
      · simp (disch := omega) only [st_ok]; exact h3
      · simp (disch := omega) only [st_ok]; exact h4
      · simp (disch := omega) only [st_ok]; exact h5
      · have := h6 u hu; unfold THG at *; simp (disch := omega) only [st_ok]; exact this
      · have := h7 k hk; unfold BRK at *; simp (disch := omega) only [st_ok]; exact this
      · have := h8 k hk; unfold RDG at *; simp (disch := omega) only [st_ok]; exact this
      · by_cases e : u = t
        · subst e; unfold SHT; exact Or.inl ⟨st_s, st_s⟩
        · have := h9 u hu; unfold SHT at *; simp (disch := omega) only [st_ok]; exact this
    rcases h.2.2.2.2.2.2.2.2.2 t ht with q | ⟨q1, ln, q2, q3, -⟩
    · rw [q.1, q.2, if_pos rfl, if_neg (by decide)]
      unfold f_X9_lose_24 f_X10_lose_23
      rw [if_pos ht, if_pos hv, c]
      exact ⟨_, _, _, rfl, rfl, up⟩
    · rw [q1, q3, if_neg (by decide), if_pos (nI_pos' (by omega))]
      unfold f_X9_lose_24 f_X10_lose_23
      rw [if_pos ht, if_pos hv, c]
      exact ⟨_, _, _, rfl, rfl, up⟩
  · simp only [if_neg hv, Option.bind_some, if_neg (show ¬ (1 : Int32) = 0 by decide)]
    exact ⟨_, _, _, rfl, rfl, self⟩
theorem sim_as {σx σm : Sg} (h : REL σx σm) (a1 : Int32) (a2 : Int32) : ∃ r σx1 σm1, f_X9_as σx a1 a2 = some (r, σx1) ∧ f_X10_as σm a1 a2 = some (r, σm1) ∧ REL σx1 σm1 := by
  obtain ⟨⟨n, v, b, r, h⟩, hf⟩ := h
  have hn := h.1.1
  have h0 : REL0 σx σm := ⟨n, v, b, r, h⟩
  unfold f_X9_as f_X10_as f_X10_refused f_X10_faulted f_X9_cameTo
  rw [f_thingAt (σ := st σx 0 7 0) (by rw [st_o (by decide)]; exact h.2.1.1) h.1.1, f_noThing h.2.1.2 h.1.1, f_beyond, f_in32 σm a2 0 2 (a := 0) (b := 2) rfl rfl]
  by_cases hv : vin a1 n = true
  · obtain ⟨t, ht, rfl⟩ := vin_of hv (by omega)
    have hT := h.2.2.2.2.2.2.1 t ht
    have v8 : vin (nI t) 8 = true := vin_k (by omega) (by decide)
    simp only [if_pos hv, Option.bind_some, if_true, if_pos v8, nI_clamp (show t < 2 ^ 31 by omega), if_pos (show t < 8 by omega)]
    by_cases hw : 0 ≤ a2 ∧ a2 ≤ (2 : Int32)
    · simp only [if_pos hw, if_true, if_neg (show ¬ (1 : Int32) = 0 by decide), st_o (show 4 + t ≠ 0 by omega), hT.1]
      by_cases e : a2 ≤ σm 1 t
      · rw [if_pos e, if_neg (by rw [Int32.lt_iff_toInt_lt]; rw [Int32.le_iff_toInt_le] at e; omega)]
        exact ⟨_, _, _, rfl, rfl, REL.flt h0 0⟩
      · rw [if_neg e, if_pos (by rw [Int32.lt_iff_toInt_lt]; rw [Int32.le_iff_toInt_le] at e; omega)]
        exact ⟨_, _, _, rfl, rfl, REL.flt2 h0 0 2⟩
    · simp only [if_neg hw, if_true, if_neg (show ¬ (1 : Int32) = 0 by decide)]
      exact ⟨_, _, _, rfl, rfl, REL.flt h0 0⟩
  · simp only [if_neg hv, Option.bind_some, if_neg (show ¬ (1 : Int32) = 0 by decide)]
    exact ⟨_, _, _, rfl, rfl, REL.flt h0 0⟩

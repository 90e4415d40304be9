/-! ===== parts: tell, call ===== -/
theorem sim_call {σx σm : Sg} (h : REL σx σm) (a1 : Int32) : ∃ r σx1 σm1, f_X9_call σx a1 = some (r, σx1) ∧ f_X10_call σm a1 = some (r, σm1) ∧ REL σx1 σm1 := by
  obtain ⟨⟨n, v, b, r, h⟩, hf⟩ := h
  have hn := h.1.1
  have self : REL σx σm := ⟨⟨n, v, b, r, h⟩, hf⟩
  unfold f_X9_call f_X10_call
  rw [f_thingAt h.2.1.1 h.1.1, f_noThing h.2.1.2 h.1.1]
  by_cases hv : vin a1 n = true
  · obtain ⟨t, ht, rfl⟩ := vin_of hv (by omega)
    have hT := h.2.2.2.2.2.2.1 t ht
    have v8 : vin (nI t) 8 = true := vin_k (by omega) (by decide)
    have c := nI_clamp (show t < 2 ^ 31 by omega)
    simp only [if_pos hv, Option.bind_some, if_true, if_pos v8, c]
    unfold f_X0_ringing f_X0_mayorRings f_X0_lentRings f_X0_leave f_X10_call_26 f_X10_traced
    simp only [if_pos (show t < 8 by omega), if_pos v8, Option.bind_some, hT.1, c, st_o (show 1 ≠ 0 by decide), h.2.2.2.2.2.1]
    by_cases e : σm 1 t = 2
    · simp only [if_pos e]
      exact ⟨_, _, _, rfl, rfl, REL.up (h.trc _) hf (by simp (disch := omega) only [st_ok]) (by simp (disch := omega) only [st_ok])⟩
    · simp only [if_neg e]
      exact ⟨_, _, _, rfl, rfl, REL.up (h.trc _) hf (by simp (disch := omega) only [st_ok]) (by simp (disch := omega) only [st_ok])⟩
  · simp only [if_neg hv, Option.bind_some, if_neg (show ¬ (1 : Int32) = 0 by decide)]
    exact ⟨_, _, _, rfl, rfl, self⟩
theorem tell_sum (a : Int32) : a + 100 + a = 2 * a + 100 := by
  apply Int32.toBitVec_inj.mp
  simp only [Int32.toBitVec_add, Int32.toBitVec_mul]
  generalize a.toBitVec = z
  show z + 100#32 + z = 2#32 * z + 100#32
  rw [show (2#32 : BitVec 32) = 1#32 + 1#32 from rfl, BitVec.add_mul, BitVec.one_mul, BitVec.add_assoc, BitVec.add_comm 100#32 z, ← BitVec.add_assoc]
theorem sim_tell {σx σm : Sg} (h : REL σx σm) (a1 : Int32) : ∃ r σx1 σm1, f_X9_tell σx a1 = some (r, σx1) ∧ f_X10_tell σm a1 = some (r, σm1) ∧ REL σx1 σm1 := by
  obtain ⟨⟨n, v, b, r, h⟩, hf⟩ := h
  have hn := h.1.1
  have self : REL σx σm := ⟨⟨n, v, b, r, h⟩, hf⟩
  unfold f_X9_tell f_X10_tell
  rw [f_thingAt h.2.1.1 h.1.1, f_noThing h.2.1.2 h.1.1]
  by_cases hv : vin a1 n = true
  · obtain ⟨t, ht, rfl⟩ := vin_of hv (by omega)
    have hT := h.2.2.2.2.2.2.1 t ht
    have v8 : vin (nI t) 8 = true := vin_k (by omega) (by decide)
    have c := nI_clamp (show t < 2 ^ 31 by omega)
    simp only [if_pos hv, Option.bind_some, if_true, if_pos v8, c]
    unfold f_X0_telling f_X0_mayorTells f_X0_swornTells f_X0_thingTells f_X0_leave f_X10_tell_27 f_X10_tell_36 f_X10_tell_51 f_X10_traced
    have e3 : σx (4 + t) 3 = σm 3 t := hT.2.2.2.1
    rcases hT.2.2.2.2.2.1 with e | e | e
    · simp (disch := omega) only [if_pos (show t < 8 by omega), if_pos v8, Option.bind_some, hT.1, c, st_ok, st_s, h.2.2.2.2.2.1, e, e3, if_neg (show ¬ (0 : Int32) = 1 by decide), if_neg (show ¬ (0 : Int32) = 2 by decide), if_pos (show (0 : Int32) ≤ 0 by decide), if_true]
      exact ⟨_, _, _, rfl, rfl, REL.up (h.trc _) hf (by simp (disch := omega) only [st_ok]) (by simp (disch := omega) only [st_ok])⟩
    · simp (disch := omega) only [if_pos (show t < 8 by omega), if_pos v8, Option.bind_some, hT.1, c, st_ok, st_s, h.2.2.2.2.2.1, e, e3, if_neg (show ¬ (1 : Int32) = 0 by decide), if_neg (show ¬ (1 : Int32) = 2 by decide), if_neg (show ¬ (1 : Int32) ≤ 0 by decide), if_true]
      refine ⟨_, _, _, rfl, rfl, ?_⟩
      exact REL.up ((h.trc _).trc _) hf (by simp (disch := omega) only [st_ok]) (by simp (disch := omega) only [st_ok])
    · simp (disch := omega) only [if_pos (show t < 8 by omega), if_pos v8, Option.bind_some, hT.1, c, st_ok, st_s, h.2.2.2.2.2.1, e, e3, if_neg (show ¬ (2 : Int32) = 0 by decide), if_neg (show ¬ (2 : Int32) = 1 by decide), if_neg (show ¬ (2 : Int32) ≤ 0 by decide), if_true]
      rw [tell_sum]
      refine ⟨_, _, _, rfl, rfl, ?_⟩
      exact REL.up ((((h.trc _).trc _).trc _).trc _) hf (by simp (disch := omega) only [st_ok]) (by simp (disch := omega) only [st_ok])
  · simp only [if_neg hv, Option.bind_some, if_neg (show ¬ (1 : Int32) = 0 by decide)]
    exact ⟨_, _, _, rfl, rfl, self⟩

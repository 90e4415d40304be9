theorem REL1.sht {σx σm σx' σm' : Sg} {n v b r t : Nat} (h : REL1 σx σm n v b r) (ht : t < 4) (hx : ∀ o k, o ≠ 24 + t → o ≠ 28 + t → o = 0 ∨ σx' o k = σx o k) (hm : ∀ o k, ¬ (o = 17 ∧ k = t) → ¬ (o = 18 ∧ k = t) → ¬ (o = 19 ∧ 60 * t ≤ k ∧ k < 60 * t + 60) → (o = 0 ∧ k = 0) ∨ o = 20 ∨ σm' o k = σm o k) (hs : SHT σx' σm' t) : REL1 σx' σm' n v b r := by
  obtain ⟨h0, h1, h2, h3, h4, h5, h6, h7, h8, h9⟩ := h
  have hn := h0.1
  have X : ∀ o k, o ≠ 24 + t → o ≠ 28 + t → o ≠ 0 → σx' o k = σx o k := fun o k a1 a2 a3 => (hx o k a1 a2).resolve_left a3
  have M : ∀ o k, o ≠ 17 → o ≠ 18 → o ≠ 19 → o ≠ 20 → (o = 0 → k ≠ 0) → σm' o k = σm o k := fun o k a1 a2 a3 a4 a5 => ((hm o k (fun q => a1 q.1) (fun q => a2 q.1) (fun q => a3 q.1)).resolve_left (fun q => a5 q.1 q.2)).resolve_left a4
  refine ⟨h0, ?_, ?_, ?_, ?_, ?_, fun u hu => ?_, fun k hk => ?_, fun k hk => ?_, fun u hu => ?_⟩
  · rw [X 2 1 (by omega) (by omega) (by omega), M 0 1 (by omega) (by omega) (by omega) (by omega) (by omega)]; exact h1
  · rw [X 2 2 (by omega) (by omega) (by omega), M 0 6 (by omega) (by omega) (by omega) (by omega) (by omega)]; exact h2
  · rw [X 12 3 (by omega) (by omega) (by omega), M 0 13 (by omega) (by omega) (by omega) (by omega) (by omega)]; exact h3
  · rw [X 16 2 (by omega) (by omega) (by omega), M 0 21 (by omega) (by omega) (by omega) (by omega) (by omega)]; exact h4
  · rw [X 23 0 (by omega) (by omega) (by omega), M 0 28 (by omega) (by omega) (by omega) (by omega) (by omega)]; exact h5
  · have := h6 u hu
    unfold THG at *
    have hX : ∀ k, σx' (4 + u) k = σx (4 + u) k := fun k => X _ _ (by omega) (by omega) (by omega)
    have hM : ∀ o k, o = 1 ∨ o = 2 ∨ o = 3 ∨ o = 4 → σm' o k = σm o k := fun o k q => M o k (by omega) (by omega) (by omega) (by omega) (by omega)
    rw [hX, hX, hX, hX, hX, hM 1 u (by omega), hM 2 u (by omega), hM 3 u (by omega), hM 4 u (by omega)]
    exact this
  · have := h7 k hk
    unfold BRK at *
    rw [X 13 k (by omega) (by omega) (by omega), X 14 k (by omega) (by omega) (by omega), X 15 k (by omega) (by omega) (by omega), M 9 k (by omega) (by omega) (by omega) (by omega) (by omega), M 10 k (by omega) (by omega) (by omega) (by omega) (by omega), M 11 k (by omega) (by omega) (by omega) (by omega) (by omega)]
    exact this
  · have := h8 k hk
    unfold RDG at *
    rw [X 17 k (by omega) (by omega) (by omega), X 18 k (by omega) (by omega) (by omega), M 15 k (by omega) (by omega) (by omega) (by omega) (by omega), M 16 k (by omega) (by omega) (by omega) (by omega) (by omega)]
    exact this
  · by_cases e : u = t
    · subst e; exact hs
    · have := h9 u hu
      have hX : ∀ k, σx' (24 + u) k = σx (24 + u) k := fun k => X _ _ (by omega) (by omega) (by omega)
      have hY : ∀ k, σx' (28 + u) k = σx (28 + u) k := fun k => X _ _ (by omega) (by omega) (by omega)
      have h17 : σm' 17 u = σm 17 u := ((hm 17 u (by omega) (by omega) (by omega)).resolve_left (by omega)).resolve_left (by omega)
      have h18 : σm' 18 u = σm 18 u := ((hm 18 u (by omega) (by omega) (by omega)).resolve_left (by omega)).resolve_left (by omega)
      unfold SHT at *
      rw [hX, hX, hX, h17, h18]
      rcases this with q | ⟨q1, ln, q2, q3, q4, q5, q6⟩
      · exact Or.inl q
      · refine Or.inr ⟨q1, ln, q2, q3, q4, q5, fun i hi => ?_⟩
        have h19 : σm' 19 (60 * u + i) = σm 19 (60 * u + i) := ((hm 19 (60 * u + i) (by omega) (by omega) (by omega)).resolve_left (by omega)).resolve_left (by omega)
        rw [hY, h19]
        exact q6 i hi
theorem sh_ix {t k : Nat} : (60 : Int32) * nI t + nI k = nI (60 * t + k) := by rw [show (60 : Int32) * nI t = nI (60 * t) from pk_mul 60 t, nI_add]
/-- the reference's cells of a sheet from k on become 0 -/
def clrM (σ : Sg) (t k n : Nat) : Sg := fun o j => if o = 19 ∧ 60 * t + k ≤ j ∧ j < 60 * t + n then 0 else σ o j
theorem l_clr {t n : Nat} (ht : t < 4) (hn : n ≤ 60) : ∀ (d N k : Nat) (σ : Sg), d < N → k + d = n → l_X10_sheet_65 (nI t) (nI n) N (nI k) σ = some (1, st (clrM σ t k n) 0 0 0) := by
  intro d
  induction d with
  | zero =>
    intro N k σ hN hk
    obtain ⟨N, rfl⟩ : ∃ M, N = M + 1 := ⟨N - 1, by omega⟩
    have hkn : k = n := by omega
    subst hkn
    show f_X10_sheet_65 _ σ _ _ _ = _
    unfold f_X10_sheet_65 f_X10_refused
    rw [if_pos (nI_le (Nat.le_refl k) (by omega))]
    have e : clrM σ t k k = σ := by funext o j; unfold clrM; rw [if_neg (by omega)]
    rw [e]; rfl
  | succ d ih =>
    intro N k σ hN hk
    obtain ⟨N, rfl⟩ : ∃ M, N = M + 1 := ⟨N - 1, by omega⟩
    show f_X10_sheet_65 _ σ _ _ _ = _
    unfold f_X10_sheet_65
    rw [if_neg (nI_ge (by omega) (by omega)), sh_ix, if_pos (vin_k (by omega) (by decide)), nI_clamp (by omega), nI_1, ih N (k + 1) _ (by omega) (by omega)]
    have e : clrM (st σ 19 (60 * t + k) 0) t (k + 1) n = clrM σ t k n := by
      funext o j
      unfold clrM
      by_cases q : o = 19 ∧ 60 * t + (k + 1) ≤ j ∧ j < 60 * t + n
      · rw [if_pos q, if_pos (by omega)]
      · rw [if_neg q]
        by_cases q2 : o = 19 ∧ j = 60 * t + k
        · rw [q2.1, q2.2, st_s, if_pos (by omega)]
        · rw [st_ok (by omega), if_neg (by omega)]
    rw [e]
theorem in02 {x : Int32} : ((0 : Int32) ≤ x ∧ x ≤ 2) ↔ vin x 3 = true := by
  rw [vin_iff, Int32.le_iff_toInt_le, Int32.le_iff_toInt_le]
  show (0 ≤ x.toInt ∧ x.toInt ≤ 2) ↔ _
  omega
theorem sim_sheet {σx σm : Sg} (h : REL σx σm) (a1 : Int32) (a2 : Int32) (a3 : Int32) : ∃ r σx1 σm1, f_X9_sheet σx a1 a2 a3 = some (r, σx1) ∧ f_X10_sheet σm a1 a2 a3 = some (r, σm1) ∧ REL σx1 σm1 := by
  obtain ⟨⟨n, v, b, r, h⟩, hf⟩ := h
  have h0 : REL0 σx σm := ⟨n, v, b, r, h⟩
  unfold f_X9_sheet f_X10_sheet f_X10_sheet_31 f_X10_refused f_X10_faulted f_X9_cameTo
  rw [f_sheetAt, f_noSheet, f_beyond, f_in32 σm a2 0 2 (a := 0) (b := 2) rfl rfl]
  by_cases hv : vin a1 4 = true
  · obtain ⟨t, ht, rfl⟩ := vin_of hv (by omega)
    have c := nI_clamp (n := t) (by omega)
    simp only [if_pos hv, Option.bind_some, if_true, c, if_pos ht]
    by_cases h2 : 0 ≤ a2 ∧ a2 ≤ (2 : Int32)
    · simp only [if_pos h2, if_true, if_neg (show ¬ (1 : Int32) = 0 by decide)]
      by_cases h3 : a3 ≤ 60
      · rw [if_pos h3, if_pos h3]
        by_cases h4 : 0 ≤ a3
        · rw [if_pos h4, if_pos h4]
          obtain ⟨m, hm, rfl⟩ := rng (y := 60) (by decide) ⟨h4, h3⟩
          have e := l_clr ht hm m fu 0 (st (st σm 17 t (nI m)) 18 t a2) (by unfold fu; omega) (by omega)
          rw [nI_0] at e
          rw [e]
          unfold f_X4_renew
          rw [if_pos ht, if_neg (show ¬ 60 < nI m from nI_nlt (b := m) (a := 60) hm (by decide))]
          refine ⟨_, _, _, rfl, rfl, ⟨n, v, b, r, h.sht ht (fun o k a1 a2 => ?_) (fun o k a1 a2 a3 => ?_) ?_⟩, ?_⟩
          · by_cases ho : o = 0
            · exact Or.inl ho
            · right
              simp only [fillS, if_neg (show ¬ o = 28 + t from a2)]
              rw [st_o a1, st_o a1, st_o a1, st_o ho]
          · by_cases ho : o = 0 ∧ k = 0
            · exact Or.inl ho
            · right; right
              rw [st_ok (by omega)]
              unfold clrM
              rw [if_neg (by omega), st_ok (by omega), st_ok (by omega)]
          · refine Or.inr ⟨?_, m, hm, ?_, ?_, ?_, fun i hi => ?_⟩
            · simp only [fillS, if_neg (show ¬ 24 + t = 28 + t by omega)]
              rw [st_k (by decide), st_k (by decide), st_s]
            · rw [st_o (by decide)]; unfold clrM; rw [if_neg (by omega), st_o (by decide), st_s]
            · simp only [fillS, if_neg (show ¬ 24 + t = 28 + t by omega)]
              rw [st_s]
            · simp only [fillS, if_neg (show ¬ 24 + t = 28 + t by omega)]
              rw [st_k (by decide), st_s, st_o (by decide)]; unfold clrM; rw [if_neg (by omega), st_s]
            · simp only [fillS, if_true, if_pos (show i < 60 by omega)]
              rw [st_o (by decide)]; unfold clrM; rw [if_pos (by omega)]
          · simp only [fillS, if_neg (show ¬ 0 = 28 + t by omega)]
            rw [st_o (by omega), st_o (by omega), st_o (by omega), st_s, st_s]
        · rw [if_neg h4, if_neg h4]
          exact ⟨_, _, _, rfl, rfl, REL.flt2 h0 0 4⟩
      · rw [if_neg h3, if_neg h3]
        exact ⟨_, _, _, rfl, rfl, REL.flt h0 0⟩
    · simp only [if_neg h2, if_true, if_neg (show ¬ (1 : Int32) = 0 by decide)]
      exact ⟨_, _, _, rfl, rfl, REL.flt h0 0⟩
  · simp only [if_neg hv, Option.bind_some, if_neg (show ¬ (1 : Int32) = 0 by decide)]
    exact ⟨_, _, _, rfl, rfl, REL.flt h0 0⟩
theorem f_noCell1 {σ : Sg} {t l : Nat} (ht : t < 4) (hl : l ≤ 60) (h1 : σ 17 t = nI l) (i : Int32) : f_X10_noCell σ (nI t) i = some (if vin i l = true then 0 else 3) := by
  unfold f_X10_noCell
  have c := nI_clamp (n := t) (by omega)
  have v4 : vin (nI t) 4 = true := vin_k ht (by decide)
  rw [if_pos v4, c, h1, if_pos (nI_pos' (by omega)), f_in]
  have e : ((0 : Int64) ≤ i.toInt64 ∧ i.toInt64 ≤ (nI l).toInt64 - 1) ↔ vin i l = true := by
    rw [vin_iff, Int64.le_iff_toInt_le, Int64.le_iff_toInt_le, lN_pred (by omega), i64_toInt]
    show (0 ≤ i.toInt ∧ _) ↔ _
    omega
  by_cases hv : vin i l = true
  · rw [if_pos (e.mpr hv), if_pos hv]; rfl
  · rw [if_neg (fun q => hv (e.mp q)), if_neg hv]; rfl
theorem f_noCell0 {σ : Sg} {t : Nat} (ht : t < 4) (h1 : σ 17 t = -1) (i : Int32) : f_X10_noCell σ (nI t) i = some 1 := by
  unfold f_X10_noCell
  have c := nI_clamp (n := t) (by omega)
  have v4 : vin (nI t) 4 = true := vin_k ht (by decide)
  rw [if_pos v4, c, h1, if_neg (by decide)]
theorem rg_one {l : Nat} {i : Int32} : (0 ≤ i.toInt ∧ i.toInt + (1 : Int32).toInt ≤ l) ↔ vin i l = true := by
  rw [vin_iff]
  show (0 ≤ i.toInt ∧ i.toInt + 1 ≤ (l : Int)) ↔ _
  omega
theorem rgF_one {l : Nat} {a i : Int32} : rgF 1 l a a i 1 = if vin i l = true then 0 else 3 := by
  unfold rgF
  rw [if_neg (show ¬ (1 : Nat) = 0 by decide), if_pos rfl, if_pos (show (0 : Int32) ≤ 1 by decide)]
  by_cases hv : vin i l = true
  · rw [if_pos (rg_one.mpr hv), if_pos hv]
  · rw [if_neg (fun q => hv (rg_one.mp q)), if_neg hv]
theorem f_cellAt {σ : Sg} {t l k : Nat} (ht : t < 4) (hl : l ≤ 60) (h3 : σ (24 + t) 3 = nI l) (hk : k < l) : f_X4_cellAt σ t (nI k) = some (σ (28 + t) k) := by
  unfold f_X4_cellAt
  rw [if_neg (n0 k (by omega)), if_pos ht, h3, if_neg (nI_ge hk (by omega)), if_pos (vin_k (by omega) (by decide)), nI_clamp (by omega)]
theorem sim_put {σx σm : Sg} (h : REL σx σm) (a1 : Int32) (a2 : Int32) (a3 : Int32) : ∃ r σx1 σm1, f_X9_put σx a1 a2 a3 = some (r, σx1) ∧ f_X10_put σm a1 a2 a3 = some (r, σm1) ∧ REL σx1 σm1 := by
  obtain ⟨⟨n, v, b, r, h⟩, hf⟩ := h
  have h0 : REL0 σx σm := ⟨n, v, b, r, h⟩
  unfold f_X9_put f_X10_put f_X10_put_73 f_X10_refused f_X10_faulted f_X9_cameTo
  rw [f_sheetAt, f_noSheet]
  by_cases hv : vin a1 4 = true
  · obtain ⟨t, ht, rfl⟩ := vin_of hv (by omega)
    have c := nI_clamp (n := t) (by omega)
    simp only [if_pos hv, Option.bind_some, if_true, c, if_pos ht]
    rcases h.2.2.2.2.2.2.2.2.2 t ht with q | ⟨q1, ln, q2, q3, q4, q5, q6⟩
    · rw [f_rangeX0 ht (by rw [st_o (by omega)]; exact q.1), f_noCell0 ht q.2]
      simp only [Option.bind_some]
      rw [if_neg (show ¬ nI 1 = 0 by decide), if_neg (show ¬ (1 : Int32) ≤ 0 by decide)]
      exact ⟨_, _, _, rfl, rfl, REL.flt2 h0 0 1⟩
    · rw [f_rangeX ht q2 (by rw [st_o (by omega)]; exact q1) (by rw [st_o (by omega)]; exact q4), f_noCell1 ht q2 q3, rgF_one]
      by_cases hi : vin a2 ln = true
      · obtain ⟨i, hi2, rfl⟩ := vin_of hi (by omega)
        simp only [if_pos hi, Option.bind_some]
        rw [if_pos (show nI 0 = 0 from rfl), if_pos (show (0 : Int32) ≤ 0 by decide)]
        unfold f_X4_setCell f_X4_cutToLane
        simp only [if_pos ht, st_o (show 24 + t ≠ 0 by omega), q4, q5]
        rw [if_neg (n0 i (by omega)), if_neg (nI_ge hi2 (by omega))]
        have key : ∀ w : Int32, ∃ r σx1 σm1, ((if vin (nI i) 60 = true then some (st (st σx 0 7 0) (28 + t) (nI i).toNatClampNeg w) else none).bind fun σ9 => some ((1 : Int32), σ9)) = some (r, σx1) ∧ (if vin (60 * nI t + nI i) 240 = true then (some (1, st (st σm 19 (60 * nI t + nI i).toNatClampNeg w) 0 0 0)).bind fun x => some (x.1, x.2) else none) = some (r, σm1) ∧ REL σx1 σm1 := by
          intro w
          rw [sh_ix, if_pos (vin_k (by omega) (by decide)), if_pos (vin_k (by omega) (by decide)), nI_clamp (by omega), nI_clamp (by omega)]
          simp only [Option.bind_some]
          refine ⟨_, _, _, rfl, rfl, ⟨n, v, b, r, h.sht ht (fun o k a1 a2 => ?_) (fun o k a1 a2 a3 => ?_) ?_⟩, ?_⟩
          · by_cases ho : o = 0
            · exact Or.inl ho
            · right; rw [st_o a2, st_o ho]
          · by_cases ho : o = 0 ∧ k = 0
            · exact Or.inl ho
            · right; right; rw [st_ok (by omega), st_ok (by omega)]
          · refine Or.inr ⟨?_, ln, q2, ?_, ?_, ?_, fun j hj => ?_⟩
            · simp (disch := omega) only [st_ok]; exact q1
            · simp (disch := omega) only [st_ok]; exact q3
            · simp (disch := omega) only [st_ok]; exact q4
            · simp (disch := omega) only [st_ok]; exact q5
            · by_cases e : j = i
              · subst e; rw [st_s, st_o (by decide), st_s]
              · rw [st_ok (by omega), st_ok (by omega), st_ok (by omega), st_ok (by omega)]; exact q6 j hj
          · rw [st_o (by omega), st_s, st_s]
        by_cases e0 : σm 18 t = 0
        · rw [if_pos e0, if_pos e0]; exact key _
        · rw [if_neg e0, if_neg e0]
          by_cases e1 : σm 18 t = 1
          · rw [if_pos e1, if_pos e1]; exact key _
          · rw [if_neg e1, if_neg e1]; exact key _
      · simp only [if_neg hi, Option.bind_some]
        rw [if_neg (show ¬ nI 3 = 0 by decide), if_neg (show ¬ (3 : Int32) ≤ 0 by decide)]
        exact ⟨_, _, _, rfl, rfl, REL.flt2 h0 0 3⟩
  · simp only [if_neg hv, Option.bind_some, if_neg (show ¬ (1 : Int32) = 0 by decide)]
    exact ⟨_, _, _, rfl, rfl, REL.flt h0 0⟩

theorem sim_cell {σx σm : Sg} (h : REL σx σm) (a1 : Int32) (a2 : Int32) (a3 : Int32) : ∃ r σx1 σm1, f_X9_cell σx a1 a2 a3 = some (r, σx1) ∧ f_X10_cell σm a1 a2 a3 = some (r, σm1) ∧ REL σx1 σm1 := by
  obtain ⟨⟨n, v, b, r, h⟩, hf⟩ := h
  have h0 : REL0 σx σm := ⟨n, v, b, r, h⟩
  unfold f_X9_cell f_X10_cell f_X10_cell_24 f_X10_cell_53 f_X10_faultedLong f_X10_lost
  rw [f_sheetAt, f_noSheet, f_beyond, f_in32 (st σm 0 0 0) a3 0 2 (a := 0) (b := 2) rfl rfl]
  by_cases hv : vin a1 4 = true
  · obtain ⟨t, ht, rfl⟩ := vin_of hv (by omega)
    have c := nI_clamp (n := t) (by omega)
    simp only [if_pos hv, Option.bind_some, if_true, c, if_pos ht]
    by_cases h2 : 0 ≤ a3 ∧ a3 ≤ (2 : Int32)
    · simp only [if_pos h2, if_true, if_neg (show ¬ (1 : Int32) = 0 by decide), st_o (show 17 ≠ 0 by decide), st_o (show 18 ≠ 0 by decide)]
      rcases h.2.2.2.2.2.2.2.2.2 t ht with q | ⟨q1, ln, q2, q3, q4, q5, q6⟩
      · rw [f_rangeX0 ht (by rw [st_o (by omega)]; exact q.1), f_noCell0 ht (by rw [st_o (by omega)]; exact q.2), q.2, if_pos (show (-1 : Int32) < 0 by decide)]
        simp only [Option.bind_some, st_s]
        rw [if_neg (show ¬ nI 1 = 0 by decide), if_neg (show ¬ (1 : Int32) ≤ 0 by decide)]
        exact ⟨_, _, _, rfl, rfl, REL.flt3 h0 0 0 1⟩
      · rw [f_rangeX ht q2 (by rw [st_o (by omega)]; exact q1) (by rw [st_o (by omega)]; exact q4), f_noCell1 ht q2 (by rw [st_o (by omega)]; exact q3), q3, if_neg (n0 ln (by omega))]
        simp only [Option.bind_some, st_s, st_o (show 24 + t ≠ 0 by omega), q5]
        by_cases hl : σm 18 t = a3
        · rw [if_pos hl, hl, rgF_one]
          by_cases hi : vin a2 ln = true
          · obtain ⟨i, hi2, rfl⟩ := vin_of hi (by omega)
            simp only [if_pos hi]
            rw [if_pos (show nI 0 = 0 from rfl), if_pos (show (0 : Int32) ≤ 0 by decide), sh_ix, if_pos (vin_k (by omega) (by decide)), nI_clamp (by omega), f_cellAt ht q2 (by rw [st_o (by omega), st_o (by omega)]; exact q4) hi2]
            refine ⟨_, _, _, rfl, ?_, REL.flt2 h0 0 0⟩
            rw [st_o (by omega), st_o (by omega), st_o (by omega), q6 i hi2]
          · simp only [if_neg hi]
            rw [if_neg (show ¬ nI 3 = 0 by decide), if_neg (show ¬ (3 : Int32) ≤ 0 by decide)]
            exact ⟨_, _, _, rfl, rfl, REL.flt3 h0 0 0 3⟩
        · rw [if_neg hl]
          have e : rgF 1 ln (σm 18 t) a3 a2 1 = 2 := by unfold rgF; rw [if_neg (show ¬ (1 : Nat) = 0 by decide), if_neg hl]
          rw [e, if_neg (show ¬ nI 2 = 0 by decide)]
          exact ⟨_, _, _, rfl, rfl, REL.flt3 h0 0 0 2⟩
    · simp only [if_neg h2, if_true, if_neg (show ¬ (1 : Int32) = 0 by decide)]
      exact ⟨_, _, _, rfl, rfl, REL.flt h0 0⟩
  · simp only [if_neg hv, Option.bind_some, if_neg (show ¬ (1 : Int32) = 0 by decide)]
    exact ⟨_, _, _, rfl, rfl, REL.flt h0 0⟩
/-- the reference's hands from k on, then its cells from k on -/
def hndM (σ : Sg) (p k n : Nat) : Sg := fun o j => if o = 20 ∧ k ≤ j ∧ j < n then σ 19 (p + j) else σ o j
def putM (σ : Sg) (q k n : Nat) : Sg := fun o j => if o = 19 ∧ q + k ≤ j ∧ j < q + n then σ 20 (j - q) else σ o j
theorem ix3 {t p k : Nat} : (60 : Int32) * nI t + nI p + nI k = nI (60 * t + p + k) := by rw [sh_ix, nI_add]
theorem l_put {t p n : Nat} (hb : 60 * t + p + n ≤ 240) (hn : n ≤ 60) : ∀ (d N k : Nat) (σ : Sg), d < N → k + d = n → l_X10_copy_144 (nI t) (nI p) (nI n) N (nI k) σ = some (nI n, st (putM σ (60 * t + p) k n) 0 0 0) := by
  intro d
  induction d with
  | zero =>
    intro N k σ hN hk
    obtain ⟨N, rfl⟩ : ∃ M, N = M + 1 := ⟨N - 1, by omega⟩
    have hkn : k = n := by omega
    subst hkn
    show f_X10_copy_144 _ σ _ _ _ _ = _
    unfold f_X10_copy_144 f_X10_refused
    rw [if_pos (nI_le (Nat.le_refl k) (by omega))]
    have e : putM σ (60 * t + p) k k = σ := by funext o j; unfold putM; rw [if_neg (by omega)]
    rw [e]; rfl
  | succ d ih =>
    intro N k σ hN hk
    obtain ⟨N, rfl⟩ : ∃ M, N = M + 1 := ⟨N - 1, by omega⟩
    show f_X10_copy_144 _ σ _ _ _ _ = _
    unfold f_X10_copy_144
    rw [if_neg (nI_ge (by omega) (by omega)), if_pos (vin_k (by omega) (by decide)), ix3, if_pos (vin_k (by omega) (by decide)), nI_clamp (by omega), nI_clamp (by omega), nI_1, ih N (k + 1) _ (by omega) (by omega)]
    have e : putM (st σ 19 (60 * t + p + k) (σ 20 k)) (60 * t + p) (k + 1) n = putM σ (60 * t + p) k n := by
      funext o j
      unfold putM
      by_cases q : o = 19 ∧ 60 * t + p + (k + 1) ≤ j ∧ j < 60 * t + p + n
      · rw [if_pos q, if_pos (by omega), st_o (by decide)]
      · rw [if_neg q]
        by_cases q2 : o = 19 ∧ j = 60 * t + p + k
        · rw [q2.1, q2.2, st_s, if_pos (by omega), Nat.add_sub_cancel_left]
        · rw [st_ok (by omega), if_neg (by omega)]
    rw [e]
theorem l_hnd {s t p0 p n : Nat} (hb0 : 60 * s + p0 + n ≤ 240) (hb : 60 * t + p + n ≤ 240) (hn : n ≤ 60) : ∀ (d N k : Nat) (σ : Sg), d < N → k + d = n → l_X10_copy_107 (nI s) (nI p0) (nI t) (nI p) (nI n) N (nI k) σ = some (nI n, st (putM (hndM σ (60 * s + p0) k n) (60 * t + p) 0 n) 0 0 0) := by
  intro d
  induction d with
  | zero =>
    intro N k σ hN hk
    obtain ⟨N, rfl⟩ : ∃ M, N = M + 1 := ⟨N - 1, by omega⟩
    have hkn : k = n := by omega
    subst hkn
    show f_X10_copy_107 _ σ _ _ _ _ _ _ = _
    unfold f_X10_copy_107
    rw [if_pos (nI_le (Nat.le_refl k) (by omega))]
    have e : hndM σ (60 * s + p0) k k = σ := by funext o j; unfold hndM; rw [if_neg (by omega)]
    have e2 := l_put hb hn k fu 0 σ (by unfold fu; omega) (by omega)
    rw [nI_0] at e2
    rw [e, e2]
  | succ d ih =>
    intro N k σ hN hk
    obtain ⟨N, rfl⟩ : ∃ M, N = M + 1 := ⟨N - 1, by omega⟩
    show f_X10_copy_107 _ σ _ _ _ _ _ _ = _
    unfold f_X10_copy_107
    rw [if_neg (nI_ge (by omega) (by omega)), ix3, if_pos (vin_k (by omega) (by decide)), if_pos (vin_k (by omega) (by decide)), nI_clamp (by omega), nI_clamp (by omega), nI_1, ih N (k + 1) _ (by omega) (by omega)]
    have e : hndM (st σ 20 k (σ 19 (60 * s + p0 + k))) (60 * s + p0) (k + 1) n = hndM σ (60 * s + p0) k n := by
      funext o j
      unfold hndM
      by_cases q : o = 20 ∧ k + 1 ≤ j ∧ j < n
      · rw [if_pos q, if_pos (by omega), st_o (by decide)]
      · rw [if_neg q]
        by_cases q2 : o = 20 ∧ j = k
        · rw [q2.1, q2.2, st_s, if_pos (by omega)]
        · rw [st_ok (by omega), if_neg (by omega)]
    rw [e]
theorem rng_ti {x : Int32} {y : Nat} (hy : y < 2 ^ 31) (h0 : 0 ≤ x.toInt) (h1 : x.toInt ≤ (y : Int)) : ∃ w, w ≤ y ∧ x = nI w := rng hy ⟨by rw [Int32.le_iff_toInt_le]; exact h0, by rw [Int32.le_iff_toInt_le, nI_toInt hy]; exact h1⟩
theorem sim_copy {σx σm : Sg} (h : REL σx σm) (a1 : Int32) (a2 : Int32) (a3 : Int32) (a4 : Int32) (a5 : Int32) : ∃ r σx1 σm1, f_X9_copy σx a1 a2 a3 a4 a5 = some (r, σx1) ∧ f_X10_copy σm a1 a2 a3 a4 a5 = some (r, σm1) ∧ REL σx1 σm1 := by
  obtain ⟨⟨n, v, b, r, h⟩, hf⟩ := h
  have h0 : REL0 σx σm := ⟨n, v, b, r, h⟩
  have e0 : (0 : Int32).toInt = 0 := rfl
  unfold f_X9_copy f_X10_copy f_X10_copy_14 f_X10_copy_38 f_X10_copy_98 f_X9_copy_47 f_X9_copy_100 f_X10_refused f_X10_faulted f_X9_cameTo
  rw [f_sheetAt, f_noSheet, f_sheetAt, f_noSheet]
  by_cases hv : vin a1 4 = true
  · obtain ⟨t, ht, rfl⟩ := vin_of hv (by omega)
    have c := nI_clamp (n := t) (by omega)
    by_cases hw : vin a3 4 = true
    · obtain ⟨u, hu, rfl⟩ := vin_of hw (by omega)
      have c2 := nI_clamp (n := u) (by omega)
      simp only [if_pos hv, if_pos hw, Option.bind_some, if_true, c, c2, if_pos ht, if_pos hu, st_o (show 24 + t ≠ 0 by omega), st_o (show 24 + u ≠ 0 by omega)]
      rcases h.2.2.2.2.2.2.2.2.2 t ht with q | ⟨q1, ln, q2, q3, q4, q5, q6⟩
      · rw [q.1, q.2, if_pos rfl, if_pos (by decide)]
        exact ⟨_, _, _, rfl, rfl, REL.flt2 h0 0 1⟩
      · rcases h.2.2.2.2.2.2.2.2.2 u hu with w | ⟨w1, lm, w2, w3, w4, w5, w6⟩
        · rw [q1, q3, w.1, w.2, if_neg (show ¬ (1 : Int32) = 0 by decide), if_neg (n0 ln (by omega)), if_pos rfl, if_neg (show ¬ (0 : Int32) ≤ -1 by decide)]
          exact ⟨_, _, _, rfl, rfl, REL.flt2 h0 0 1⟩
        · rw [q1, q3, w1, w3, if_neg (show ¬ (1 : Int32) = 0 by decide), if_neg (n0 ln (by omega)), if_neg (show ¬ (1 : Int32) = 0 by decide), if_pos (nI_pos' (show lm < 2 ^ 31 by omega)), q5, w5]
          by_cases hl : σm 18 t = σm 18 u
          · rw [if_pos hl, if_pos hl, f_Mbeyond σm q2, f_Mbeyond σm w2]
            by_cases hn : a5 < 0
            · rw [if_pos hn]
              rw [Int32.lt_iff_toInt_lt, e0] at hn
              rw [if_neg (show ¬ (0 ≤ a2.toInt ∧ 0 ≤ a5.toInt ∧ a2.toInt + a5.toInt ≤ (ln : Int)) by omega)]
              exact ⟨_, _, _, rfl, rfl, REL.flt2 h0 0 3⟩
            · rw [if_neg hn]
              rw [Int32.lt_iff_toInt_lt, e0] at hn
              have hn' : 0 ≤ a5.toInt := by omega
              rw [f_isOver (σ := st σx 0 7 0) ht q2 (by rw [st_o (by omega)]; exact q4) a2 a5 hn', f_isOver (σ := st σx 0 7 0) hu w2 (by rw [st_o (by omega)]; exact w4) a4 a5 hn']
              by_cases k1 : 0 ≤ a2.toInt ∧ a2.toInt + a5.toInt ≤ (ln : Int)
              · rw [if_pos k1, if_pos (show 0 ≤ a2.toInt ∧ 0 ≤ a5.toInt ∧ a2.toInt + a5.toInt ≤ (ln : Int) from ⟨k1.1, hn', k1.2⟩)]
                simp only [Option.bind_some, if_true]
                by_cases k2 : 0 ≤ a4.toInt ∧ a4.toInt + a5.toInt ≤ (lm : Int)
                · rw [if_pos k2, if_pos (show 0 ≤ a4.toInt ∧ 0 ≤ a5.toInt ∧ a4.toInt + a5.toInt ≤ (lm : Int) from ⟨k2.1, hn', k2.2⟩)]
                  simp only [Option.bind_some, if_true]
                  obtain ⟨i, hi, rfl⟩ := rng_ti (x := a2) (y := ln) (by omega) k1.1 (by omega)
                  obtain ⟨j, hj, rfl⟩ := rng_ti (x := a4) (y := lm) (by omega) k2.1 (by omega)
                  obtain ⟨m, hm, rfl⟩ := rng_ti (x := a5) (y := ln) (by omega) hn' (by omega)
                  have ei := nI_toInt (show i < 2 ^ 31 by omega)
                  have ej := nI_toInt (show j < 2 ^ 31 by omega)
                  have em := nI_toInt (show m < 2 ^ 31 by omega)
                  have ci := nI_clamp (show i < 2 ^ 31 by omega)
                  have cj := nI_clamp (show j < 2 ^ 31 by omega)
                  have cm := nI_clamp (show m < 2 ^ 31 by omega)
                  rw [ei, em] at k1
                  rw [ej, em] at k2
                  have hcp : cpk (nI i) (nI j) (nI m) = true := by
                    unfold cpk
                    simp only [Bool.and_eq_true, decide_eq_true_eq, ci, cj, cm]
                    refine ⟨⟨⟨⟨n0 i (by omega), n0 j (by omega)⟩, n0 m (by omega)⟩, by omega⟩, by omega⟩
                  have e := l_hnd (s := t) (t := u) (p0 := i) (p := j) (n := m) (by omega) (by omega) (by omega) m fu 0 σm (by unfold fu; omega) (by omega)
                  rw [nI_0] at e
                  rw [if_pos hcp, e]
                  refine ⟨_, _, _, rfl, rfl, ⟨n, v, b, r, h.sht hu (fun o k a1 a2 => ?_) (fun o k a1 a2 a3 => ?_) ?_⟩, ?_⟩
                  · by_cases ho : o = 0
                    · exact Or.inl ho
                    · right; unfold cpS; rw [if_neg a2, st_o ho]
                  · by_cases ho : o = 0 ∧ k = 0
                    · exact Or.inl ho
                    · by_cases h20 : o = 20
                      · exact Or.inr (Or.inl h20)
                      · right; right
                        rw [st_ok (by omega)]
                        unfold putM hndM
                        rw [if_neg (by omega), if_neg (by omega)]
                  · refine Or.inr ⟨?_, lm, w2, ?_, ?_, ?_, fun x hx => ?_⟩
                    · unfold cpS; rw [if_neg (by omega), st_o (by omega)]; exact w1
                    · rw [st_o (by omega)]; unfold putM hndM; rw [if_neg (by omega), if_neg (by omega)]; exact w3
                    · unfold cpS; rw [if_neg (by omega), st_o (by omega)]; exact w4
                    · unfold cpS; rw [if_neg (by omega), st_o (by omega), st_o (by omega)]; unfold putM hndM; rw [if_neg (by omega), if_neg (by omega)]; exact w5
                    · unfold cpS va_cpy
                      rw [if_pos rfl, st_o (by omega), st_o (by omega), ci, cj, cm, st_o (by omega)]
                      unfold putM hndM
                      by_cases hz : j ≤ x ∧ x < j + m
                      · rw [if_pos hz, if_pos (by omega), if_pos (by omega), q6 (i + (x - j)) (by omega)]
                        congr 1
                        omega
                      · rw [if_neg hz, if_neg (by omega), if_neg (by omega)]; exact w6 x hx
                  · unfold cpS; rw [if_neg (by omega), st_s, st_s]
                · rw [if_neg k2, if_neg (show ¬ (0 ≤ a4.toInt ∧ 0 ≤ a5.toInt ∧ a4.toInt + a5.toInt ≤ (lm : Int)) from fun z => k2 ⟨z.1, z.2.2⟩)]
                  exact ⟨_, _, _, rfl, rfl, REL.flt2 h0 0 3⟩
              · rw [if_neg k1, if_neg (show ¬ (0 ≤ a2.toInt ∧ 0 ≤ a5.toInt ∧ a2.toInt + a5.toInt ≤ (ln : Int)) from fun z => k1 ⟨z.1, z.2.2⟩)]
                exact ⟨_, _, _, rfl, rfl, REL.flt2 h0 0 3⟩
          · rw [if_neg hl, if_neg hl]
            exact ⟨_, _, _, rfl, rfl, REL.flt2 h0 0 2⟩
    · simp only [if_pos hv, if_neg hw, Option.bind_some, if_true, if_neg (show ¬ (1 : Int32) = 0 by decide)]
      exact ⟨_, _, _, rfl, rfl, REL.flt h0 0⟩
  · by_cases hw : vin a3 4 = true
    · simp only [if_neg hv, if_pos hw, Option.bind_some, if_neg (show ¬ (1 : Int32) = 0 by decide)]
      exact ⟨_, _, _, rfl, rfl, REL.flt h0 0⟩
    · simp only [if_neg hv, if_neg hw, Option.bind_some, if_neg (show ¬ (1 : Int32) = 0 by decide)]
      exact ⟨_, _, _, rfl, rfl, REL.flt h0 0⟩

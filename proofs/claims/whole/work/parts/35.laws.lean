/-! ===== readings: are all so? ===== -/
def fa (P : Nat → Bool) : Nat → Nat → Bool
  | _, 0 => true
  | j, k + 1 => P j && fa P (j + 1) k
def soB (σm : Sg) (hs : HS) (k : Nat) : Bool := decide (enc (hs (σm 15 k).toNatClampNeg).1 = σm 16 k)
theorem x_so {σx σm : Sg} {n v b r : Nat} (h : REL1 σx σm n v b r) {σ : Sg} {hs : HS} (hF : FH σx σ) (hH : HX σ n hs) : f_X2_areSo σ = some (if fa (soB σm hs) 0 r = true then 1 else 0) := by
  have hn := h.1.1
  have hr8 := h.1.2.2.2.2
  have e16 : σ 16 2 = nI r := by rw [hF 16 (by decide) (by decide) (by decide)]; exact h.2.2.2.2.1.1
  have e17 : σ 17 = σx 17 := hF 17 (by decide) (by decide) (by decide)
  have e18 : σ 18 = σx 18 := hF 18 (by decide) (by decide) (by decide)
  have loop : ∀ (k N j : Nat), k < N → j + k = r → l_X2_areSo_2 σ N (nI j) = some (if fa (soB σm hs) j k = true then 1 else 0) := by
    intro k
    induction k with
    | zero =>
      intro N j hN hj
      obtain ⟨N, rfl⟩ : ∃ M, N = M + 1 := ⟨N - 1, by omega⟩
      show f_X2_areSo_2 _ σ _ = _
      unfold f_X2_areSo_2
      rw [e16, if_pos (nI_le (by omega) (by omega))]; rfl
    | succ k ih =>
      intro N j hN hj
      obtain ⟨N, rfl⟩ : ∃ M, N = M + 1 := ⟨N - 1, by omega⟩
      have hjr : j < r := by omega
      obtain ⟨q1, q2, t, ht, q3⟩ := h.2.2.2.2.2.2.2.2.1 j hjr
      show f_X2_areSo_2 _ σ _ = _
      unfold f_X2_areSo_2
      rw [e16, if_neg (nI_ge hjr (by omega)), if_neg (show ¬ (8 : Int32) ≤ nI j from nI_ge (b := 8) (by omega) (by decide)), if_pos (vin_k (by omega) (by decide)), nI_clamp (by omega), e17, e18, q1, q2, q3, x_srv hn hH ht]
      simp only [Option.bind_some]
      rw [show fa (soB σm hs) j (k + 1) = (soB σm hs j && fa (soB σm hs) (j + 1) k) from rfl]
      have es : soB σm hs j = decide (enc (hs t).1 = σm 16 j) := by unfold soB; rw [q3, nI_clamp (by omega)]
      rw [es]
      by_cases q : enc (hs t).1 = σm 16 j
      · rw [if_pos q, decide_eq_true q, Bool.true_and, nI_1]
        exact ih N (j + 1) (by omega) (by omega)
      · rw [if_neg q, decide_eq_false q, Bool.false_and]; rfl
  have := loop r fu 0 (by unfold fu; omega) (by omega)
  rw [nI_0] at this
  exact this
/-- the readings and the town, where the reference's law may have changed -/
def G6 (σ σ' : Sg) : Prop := (∀ o, o ≠ 0 → o ≠ 12 → o ≠ 13 → o ≠ 14 → σ' o = σ o) ∧ ∀ k, k ≠ 6 → σ' 0 k = σ 0 k
theorem GH.g6 {σ σ' : Sg} (h : GH σ σ') : G6 σ σ' := ⟨fun o _ a1 a2 a3 => h o a1 a2 a3, fun k _ => by rw [h 0 (by decide) (by decide) (by decide)]⟩
theorem G6.tr {a b c : Sg} (h1 : G6 a b) (h2 : G6 b c) : G6 a c := ⟨fun o a1 a2 a3 a4 => (h2.1 o a1 a2 a3 a4).trans (h1.1 o a1 a2 a3 a4), fun k hk => (h2.2 k hk).trans (h1.2 k hk)⟩
theorem G6.to {σ : Sg} {v : Int32} : G6 σ (st σ 0 6 v) := ⟨fun o a1 _ _ _ => st_o a1, fun k hk => st_k hk⟩
theorem TWM.g6 {σ σ' : Sg} {n v w : Nat} {d : Nat → Nat} {g la : Nat → Int32} (T : TWM σ n v d g la) (h : G6 σ σ') (hw : w ≤ 2) (h6 : σ' 0 6 = nI w) : TWM σ' n w d g la := by
  obtain ⟨hn, hv, h1, h6', hT⟩ := T
  refine ⟨hn, hw, by rw [h.2 1 (by decide)]; exact h1, h6, fun t ht => ?_⟩
  rw [h.1 2 (by decide) (by decide) (by decide) (by decide), h.1 4 (by decide) (by decide) (by decide) (by decide), goodOf_cg (h.1 1 (by decide) (by decide) (by decide) (by decide)) (h.1 3 (by decide) (by decide) (by decide) (by decide))]
  exact hT t ht
theorem m_so {σx σm : Sg} {n v b r : Nat} (h : REL1 σx σm n v b r) {σ : Sg} {hs : HS} (hG : G6 σm σ) (hS : SM σ n hs) : ∀ (k N j : Nat) (a : Bool), k < N → j + k = r → l_X10_areSo_9 σ N (if a = true then 1 else 0) (nI j) = some ((if (a && fa (soB σm hs) j k) = true then 1 else 0), σ) := by
  have hn := h.1.1
  have hr8 := h.1.2.2.2.2
  have e21 : σ 0 21 = nI r := by rw [hG.2 21 (by decide)]; exact h.2.2.2.2.1.2
  have e15 : σ 15 = σm 15 := hG.1 15 (by decide) (by decide) (by decide) (by decide)
  have e16 : σ 16 = σm 16 := hG.1 16 (by decide) (by decide) (by decide) (by decide)
  intro k
  induction k with
  | zero =>
    intro N j a hN hj
    obtain ⟨N, rfl⟩ : ∃ M, N = M + 1 := ⟨N - 1, by omega⟩
    show f_X10_areSo_9 _ σ _ _ = _
    unfold f_X10_areSo_9
    rw [e21, if_pos (nI_le (by omega) (by omega)), show fa (soB σm hs) j 0 = true from rfl, Bool.and_true]
    cases a <;> rfl
  | succ k ih =>
    intro N j a hN hj
    obtain ⟨N, rfl⟩ : ∃ M, N = M + 1 := ⟨N - 1, by omega⟩
    have hjr : j < r := by omega
    obtain ⟨q1, q2, t, ht, q3⟩ := h.2.2.2.2.2.2.2.2.1 j hjr
    show f_X10_areSo_9 _ σ _ _ = _
    unfold f_X10_areSo_9 f_X10_areSo_46
    rw [e21, if_neg (nI_ge hjr (by omega)), nI_1, show fa (soB σm hs) j (k + 1) = (soB σm hs j && fa (soB σm hs) (j + 1) k) from rfl]
    have es : soB σm hs j = decide (enc (hs t).1 = σm 16 j) := by unfold soB; rw [q3, nI_clamp (by omega)]
    cases a with
    | false =>
      rw [if_pos (by decide)]
      have := ih N (j + 1) false (by omega) (by omega)
      rw [Bool.false_and] at this ⊢
      exact this
    | true =>
      rw [if_neg (by decide), if_pos (vin_k (by omega) (by decide)), nI_clamp (by omega), e15, e16, q3, if_pos (vin_k (by omega) (by decide)), nI_clamp (by omega), hS t ht, es]
      by_cases q : enc (hs t).1 = σm 16 j
      · rw [if_pos q, decide_eq_true q]
        have := ih N (j + 1) true (by omega) (by omega)
        rw [Bool.true_and] at this ⊢
        rw [Bool.true_and]
        exact this
      · rw [if_neg q, decide_eq_false q]
        have := ih N (j + 1) false (by omega) (by omega)
        rw [Bool.false_and] at this
        rw [Bool.false_and, Bool.and_false]
        exact this
theorem m_areSo {σx σm : Sg} {n v b r w : Nat} (h : REL1 σx σm n v b r) {σ : Sg} (hG : G6 σm σ) (hw : w ≤ 2) (h6 : σ 0 6 = nI w) (br : Int32) : ∃ σ', f_X10_areSo σ br = some ((if fa (soB σm (hrS w n (dO σm) (fun t => σx (4 + t) 5) (σm 4) (bt br) hs0)) 0 r = true then 1 else 0), σ') ∧ GH σ σ' := by
  obtain ⟨TX, TM⟩ := tw h
  obtain ⟨σ', e1, f1, g1⟩ := m_zero br (TM.g6 hG hw h6)
  refine ⟨σ', ?_, f1⟩
  unfold f_X10_areSo
  rw [e1]
  simp only [Option.bind_some]
  have := m_so h (hG.tr f1.g6) g1 r fu 0 true (by have := h.1.2.2.2.2; unfold fu; omega) (by omega)
  rw [nI_0, Bool.true_and] at this
  exact this
theorem sim_laws {σx σm : Sg} (h : REL σx σm) : ∃ r σx1 σm1, f_X9_laws σx = some (r, σx1) ∧ f_X10_laws σm = some (r, σm1) ∧ REL σx1 σm1 := by
  have self := h
  obtain ⟨⟨n, v, b, r, h⟩, hf⟩ := h
  have hn := h.1.1
  obtain ⟨TX, TM⟩ := tw h
  unfold f_X9_laws f_X10_laws
  rw [h.2.1.1, h.2.1.2, h.2.2.1.2]
  by_cases h0 : nI n = 0
  · rw [if_pos h0, if_pos h0]; exact ⟨_, _, _, rfl, rfl, self⟩
  · rw [if_neg h0, if_neg h0]
    have loop : ∀ (k N j : Nat) (x : Int32) (σ σ2 : Sg), k < N → j + k = 3 → FH σx σ → G6 σm σ2 → ∃ q σ' σ2', l_X9_laws_17 N x (nI j) σ = some (q, σ') ∧ l_X10_laws_19 (nI v) N x (nI j) σ2 = some (q, σ2') ∧ FH σx σ' ∧ GH σm σ2' := by
      intro k
      induction k with
      | zero =>
        intro N j x σ σ2 hN hj hF hG
        obtain ⟨N, rfl⟩ : ∃ M, N = M + 1 := ⟨N - 1, by omega⟩
        have : j = 3 := by omega
        subst this
        refine ⟨x, σ, st σ2 0 6 (nI v), ?_, ?_, hF, fun o a1 a2 a3 => ?_⟩
        · show f_X9_laws_17 _ σ _ _ = _
          unfold f_X9_laws_17
          rw [if_pos (show (2 : Int32) < nI 3 by decide)]
        · show f_X10_laws_19 _ σ2 _ _ _ = _
          unfold f_X10_laws_19
          rw [if_pos (show (3 : Int32) ≤ nI 3 by decide)]
        · by_cases ho : o = 0
          · subst ho
            funext k
            by_cases hk : k = 6
            · subst hk; rw [st_s]; exact h.2.2.1.2.symm
            · rw [st_k hk]; exact hG.2 k hk
          · rw [st_o ho]; exact hG.1 o ho a1 a2 a3
      | succ k ih =>
        intro N j x σ σ2 hN hj hF hG
        obtain ⟨N, rfl⟩ : ∃ M, N = M + 1 := ⟨N - 1, by omega⟩
        obtain ⟨σ1, e1, f1, g1⟩ := x_zero (v := j) (by omega) (bkS σm 0 b) (TX.fh hF)
        have hG1 : G6 σm (st σ2 0 6 (nI j)) := hG.tr G6.to
        obtain ⟨σ3, e3, f3⟩ := m_areSo h hG1 (show j ≤ 2 by omega) st_s (bkS σm 0 b)
        have e2 := x_so h (hF.tr f1) g1
        have ebk : bkS (st σ2 0 6 (nI j)) 0 b = bkS σm 0 b := bkS_cg (hG1.1 9 (by decide) (by decide) (by decide) (by decide)) (hG1.1 10 (by decide) (by decide) (by decide) (by decide)) (hG1.1 11 (by decide) (by decide) (by decide) (by decide)) 0 b
        show ∃ q σ' σ2', f_X9_laws_17 _ σ _ _ = some (q, σ') ∧ f_X10_laws_19 _ σ2 _ _ _ = some (q, σ2') ∧ _
        unfold f_X9_laws_17 f_X10_laws_19 f_X10_laws_49
        rw [if_neg (show ¬ (2 : Int32) < nI j from nI_nlt (a := 2) (by omega) (by decide)), if_neg (show ¬ (3 : Int32) ≤ nI j from nI_ge (b := 3) (by omega) (by decide)), x_brk (h.fr hF.fx FM.rf), m_brk (b := b) (by rw [hG1.2 13 (by decide)]; exact h.2.2.2.1.2) h.1.2.2.2.1, ebk]
        simp only [Option.bind_some]
        rw [e1, e3]
        simp only [Option.bind_some]
        rw [e2, nI_1]
        simp only [Option.bind_some]
        by_cases q : fa (soB σm (hrS j n (dO σm) (fun t => σx (4 + t) 5) (σm 4) (bt (bkS σm 0 b)) hs0)) 0 r = true
        · rw [if_pos q, if_neg (show ¬ (1 : Int32) = 0 by decide), if_neg (show ¬ (1 : Int32) = 0 by decide)]
          exact ih N (j + 1) _ σ1 σ3 (by omega) (by omega) (hF.tr f1) (hG1.tr f3.g6)
        · rw [if_neg q, if_pos rfl, if_pos rfl, i_or0]
          exact ih N (j + 1) _ σ1 σ3 (by omega) (by omega) (hF.tr f1) (hG1.tr f3.g6)
    obtain ⟨q, σ', σ2', g1, g2, g3, g4⟩ := loop 3 fu 0 0 σx σm (by unfold fu; omega) (by omega) FH.rf ⟨fun _ _ _ _ _ => rfl, fun _ _ => rfl⟩
    rw [nI_0] at g1 g2
    exact ⟨_, _, _, g1, g2, self.fr g3 g4⟩

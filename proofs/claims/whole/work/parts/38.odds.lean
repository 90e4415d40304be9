/-! ===== odds ===== -/
def s00 : Sg := fun _ _ => 0
theorem odds_sg (σ : Sg) (x2 : Int32) : ∀ (N : Nat) (x y z : Int32), l_X9_odds_44 σ x2 N x y z = (l_X9_odds_44 s00 x2 N x y z).map (fun p => (p.1, σ))
  | 0, _, _, _ => rfl
  | N + 1, x, y, z => by
    show f_X9_odds_44 _ σ _ _ _ _ = (f_X9_odds_44 _ s00 _ _ _ _).map _
    unfold f_X9_odds_44 f_X9_odds_79
    have hl : (if x2 = 0 then some (x.toInt64, σ) else some (y.toInt64, σ)) = (if x2 = 0 then some (x.toInt64, s00) else some (y.toInt64, s00)).map (fun p => (p.1, σ)) := by
      by_cases h3 : x2 = 0
      · rw [if_pos h3, if_pos h3]; rfl
      · rw [if_neg h3, if_neg h3]; rfl
    by_cases h0 : 8 ≤ z
    · rw [if_pos h0, if_pos h0]; exact hl
    · rw [if_neg h0, if_neg h0]
      by_cases h1 : y ≤ 1
      · rw [if_pos h1, if_pos h1]; exact hl
      · rw [if_neg h1, if_neg h1]
        by_cases h2 : x - x / 2 * 2 = 0
        · rw [if_pos h2, if_pos h2]
          exact odds_sg σ x2 N (x / 2) (y / 2) (z + 1)
        · rw [if_neg h2, if_neg h2]; exact hl
theorem told_sg (σ : Sg) (x0 x2 : Int64) (x4 : Int32) : ∀ (N : Nat) (x y : Int64), l_X10_told_6 σ x0 x2 x4 N x y = l_X10_told_6 s00 x0 x2 x4 N x y
  | 0, _, _ => rfl
  | N + 1, x, y => by
    show f_X10_told_6 _ σ _ _ _ _ _ = f_X10_told_6 _ s00 _ _ _ _ _
    unfold f_X10_told_6
    rw [told_sg σ x0 x2 x4 N]
def oddB (n c : Nat) (w : Int32) : Bool := match l_X9_odds_44 s00 w 12 (nI c) (nI (2 ^ n)) 0, l_X10_told_6 s00 (lN c) (lN (2 ^ n)) w 12 (lN c) (lN (2 ^ n)) with
  | some p, some q => decide (p.1 = q)
  | _, _ => false
theorem odd_tab : ∀ n, n < 9 → ∀ c, c < 2 ^ n + 1 → oddB n c 0 = true ∧ oddB n c 1 = true := by decide +kernel
theorem odds_more (x2 : Int32) : ∀ (N M : Nat) (x y z : Int32) (p : Int64 × Sg), l_X9_odds_44 s00 x2 N x y z = some p → N ≤ M → l_X9_odds_44 s00 x2 M x y z = some p
  | 0, _, _, _, _, _, h, _ => by cases h
  | N + 1, M, x, y, z, p, h, hM => by
    obtain ⟨M, rfl⟩ : ∃ K, M = K + 1 := ⟨M - 1, by omega⟩
    have h' : f_X9_odds_44 (l_X9_odds_44 s00 x2 N) s00 x2 x y z = some p := h
    show f_X9_odds_44 (l_X9_odds_44 s00 x2 M) s00 x2 x y z = some p
    unfold f_X9_odds_44 at h' ⊢
    by_cases h0 : 8 ≤ z
    · rw [if_pos h0] at h' ⊢; exact h'
    · rw [if_neg h0] at h' ⊢
      by_cases h1 : y ≤ 1
      · rw [if_pos h1] at h' ⊢; exact h'
      · rw [if_neg h1] at h' ⊢
        by_cases h2 : x - x / 2 * 2 = 0
        · rw [if_pos h2] at h' ⊢
          exact odds_more x2 N M _ _ _ p h' (by omega)
        · rw [if_neg h2] at h' ⊢; exact h'
theorem told_more (x0 x2 : Int64) (x4 : Int32) : ∀ (N M : Nat) (x y : Int64) (p : Int64), l_X10_told_6 s00 x0 x2 x4 N x y = some p → N ≤ M → l_X10_told_6 s00 x0 x2 x4 M x y = some p
  | 0, _, _, _, _, h, _ => by cases h
  | N + 1, M, x, y, p, h, hM => by
    obtain ⟨M, rfl⟩ : ∃ K, M = K + 1 := ⟨M - 1, by omega⟩
    have h' : f_X10_told_6 (l_X10_told_6 s00 x0 x2 x4 N) s00 x0 x2 x4 x y = some p := h
    show f_X10_told_6 (l_X10_told_6 s00 x0 x2 x4 M) s00 x0 x2 x4 x y = some p
    unfold f_X10_told_6 at h' ⊢
    by_cases h1 : lg_cmp y 0 = 0
    · rw [if_pos h1] at h' ⊢; exact h'
    · rw [if_neg h1] at h' ⊢
      by_cases h2 : ¬ y = 0
      · rw [if_pos h2] at h' ⊢
        exact told_more x0 x2 x4 N M _ _ p h' (by omega)
      · rw [if_neg h2] at h'; cases h'
theorem odds_same (σ σ2 : Sg) {n c : Nat} (hn : n ≤ 8) (hc : c ≤ 2 ^ n) {w : Int32} (hw : w = 0 ∨ w = 1) : ∃ r, l_X9_odds_44 σ w fu (nI c) (nI (2 ^ n)) 0 = some (r, σ) ∧ f_X10_told σ2 (lN c) (lN (2 ^ n)) w = some r := by
  have hb : oddB n c w = true := by
    have := odd_tab n (by omega) c (by omega)
    rcases hw with rfl | rfl
    · exact this.1
    · exact this.2
  unfold oddB at hb
  cases h1 : l_X9_odds_44 s00 w 12 (nI c) (nI (2 ^ n)) 0 with
  | none => rw [h1] at hb; cases hb
  | some p =>
    cases h2 : l_X10_told_6 s00 (lN c) (lN (2 ^ n)) w 12 (lN c) (lN (2 ^ n)) with
    | none => rw [h1, h2] at hb; cases hb
    | some q =>
      rw [h1, h2] at hb
      have e := of_decide_eq_true hb
      have hf : 12 ≤ fu := by unfold fu; omega
      have g1 := odds_more w 12 fu _ _ _ _ h1 hf
      have g2 := told_more _ _ w 12 fu _ _ _ h2 hf
      refine ⟨q, ?_, ?_⟩
      · rw [odds_sg, g1, ← e]; rfl
      · unfold f_X10_told
        rw [told_sg, g2]
theorem odds_loop {σx σm : Sg} {n v t : Nat} {d : Nat → Nat} {g la : Nat → Int32} (TX : TWX σx n d g la) (TM : TWM σm n v d g la) (hx2 : σx 2 2 = nI v) (ht : t < n) (w : Int32) : ∀ (k N j c : Nat) (σ σ2 : Sg), k < N → j + k = 2 ^ n → c ≤ j → FT σx σ → GT σm σ2 → ∃ c' σ' σ2', c' ≤ 2 ^ n ∧ l_X8_setsThatServe_4 (nI t) N (nI c) (nI j) σ = some (nI c', σ') ∧ l_X10_odds_27 (nI t) w N (lN c) (nI j) σ2 = (f_X10_told σ2' (lN c') (lN (2 ^ n)) w).bind (fun r7 => some (r7, σ2')) ∧ FT σx σ' ∧ GT σm σ2' := by
  have hn := TX.1
  have hv := TM.2.1
  have hp := p2_le hn
  have hp1 : 1 ≤ 2 ^ n := Nat.one_le_two_pow
  have hd : ∀ t, t < n → d t < n := fun t ht => (TX.2.2 t ht).1
  intro k
  induction k with
  | zero =>
    intro N j c σ σ2 hN hj hc hF hG
    obtain ⟨N, rfl⟩ : ∃ M, N = M + 1 := ⟨N - 1, by omega⟩
    refine ⟨c, σ, σ2, by omega, ?_, ?_, hF, hG⟩
    · show f_X8_setsThatServe_4 _ σ _ _ _ = _
      unfold f_X8_setsThatServe_4
      rw [x_sets hn (TX.ft hF).2.1, Option.bind_some, if_pos (nI_le (by omega) (by omega))]
    · show f_X10_odds_27 _ σ2 _ _ _ _ = _
      unfold f_X10_odds_27
      rw [m_all hn (TM.gt hG).2.2.1, Option.bind_some, if_pos (nI_lt (by omega) (by omega)), Option.bind_some]
      rw [nI_l (by omega), lN_1, show 2 ^ n - 1 + 1 = 2 ^ n by omega]
  | succ k ih =>
    intro N j c σ σ2 hN hj hc hF hG
    obtain ⟨N, rfl⟩ : ∃ M, N = M + 1 := ⟨N - 1, by omega⟩
    have e2 : σ 2 2 = nI v := by rw [hF 2 (by decide) (by decide) (by decide) (by decide)]; exact hx2
    obtain ⟨σ1, e1, f1, g1⟩ := x_zero hv (nI j) (TX.ft hF)
    obtain ⟨σ3, e3, f3, g3⟩ := m_zero (nI j) (TM.gt hG)
    have hR := hrS_rng (v := v) (g := g) (la := la) (br := bt (nI j)) (hs := hs0) hd
    have s8 : ∀ c, ((hrS v n d g la (bt (nI j)) hs0) t).1 = some c → c < 8 := fun c h => by have := hR t ht c h; omega
    have en := enc_neg s8
    have en' : (0 ≤ enc ((hrS v n d g la (bt (nI j)) hs0) t).1) ↔ ¬ enc ((hrS v n d g la (bt (nI j)) hs0) t).1 < 0 := by rw [Int32.le_iff_toInt_le, Int32.lt_iff_toInt_lt]; omega
    have e9 := enc_9 s8
    show ∃ c' σ' σ2', c' ≤ 2 ^ n ∧ f_X8_setsThatServe_4 _ σ _ _ _ = some (nI c', σ') ∧ f_X10_odds_27 _ σ2 _ _ _ _ = _ ∧ _
    unfold f_X8_setsThatServe_4 f_X10_odds_27 f_X10_odds_57
    rw [x_sets hn (TX.ft hF).2.1, m_all hn (TM.gt hG).2.2.1, e2, Option.bind_some, Option.bind_some, if_neg (nI_ge (show j < 2 ^ n by omega) (by omega)), if_neg (nI_nlt (show j ≤ 2 ^ n - 1 by omega) (by omega)), e1, e3, Option.bind_some, Option.bind_some, x_srv hn g1 ht, Option.bind_some, nI_1, if_pos (vin_k (show t < 8 by omega) (by decide)), nI_clamp (show t < 2 ^ 31 by omega), g3 t ht]
    by_cases q : ((hrS v n d g la (bt (nI j)) hs0) t).1 = none
    · rw [if_pos (e9.mpr q), if_neg (fun z => (en'.mp z) (en.mpr q)), Int64.add_zero]
      exact ih N (j + 1) c σ1 σ3 (by omega) (by omega) (by omega) (hF.tr f1.ft) (hG.tr f3.gt)
    · rw [if_neg (fun z => q (e9.mp z)), if_pos (en'.mpr (fun z => q (en.mp z))), nI_1, lN_1]
      exact ih N (j + 1) (c + 1) σ1 σ3 (by omega) (by omega) (by omega) (hF.tr f1.ft) (hG.tr f3.gt)
theorem sim_odds {σx σm : Sg} (h : REL σx σm) (a1 : Int32) (a2 : Int32) : ∃ r σx1 σm1, f_X9_odds σx a1 a2 = some (r, σx1) ∧ f_X10_odds σm a1 a2 = some (r, σm1) ∧ REL σx1 σm1 := by
  have self := h
  obtain ⟨⟨n, v, b, r, h⟩, hf⟩ := h
  have hn := h.1.1
  obtain ⟨TX, TM⟩ := tw h
  have hp := p2_le hn
  have lost : ∃ q σx1 σm1, some ((-9223372036854775808 : Int64), σx) = some (q, σx1) ∧ f_X10_odds_18 σm = some (q, σm1) ∧ REL σx1 σm1 := ⟨_, _, _, rfl, rfl, self⟩
  unfold f_X9_odds f_X10_odds
  rw [f_thingAt h.2.1.1 h.1.1, f_noThing h.2.1.2 h.1.1, f_beyond, f_in32 σm a2 0 1 (a := 0) (b := 1) rfl rfl, Option.bind_some, Option.bind_some, Option.bind_some]
  by_cases hv : vin a1 n = true
  · obtain ⟨t, ht, rfl⟩ := vin_of hv (by omega)
    rw [if_pos hv, if_pos hv, if_pos rfl]
    dsimp only
    by_cases h2 : 0 ≤ a2 ∧ a2 ≤ (1 : Int32)
    · rw [if_pos h2, if_pos h2, Option.bind_some, if_pos rfl, if_neg (show ¬ (1 : Int32) = 0 by decide)]
      obtain ⟨c', σ', σ2', hc, g1, g2, g3, g4⟩ := odds_loop TX TM h.2.2.1.1 ht a2 (2 ^ n) fu 0 0 σx σm (by unfold fu; omega) (by omega) (Nat.le_refl 0) FT.rf GT.rf
      rw [nI_0, show lN 0 = 0 from rfl] at g2
      rw [nI_0] at g1
      have hw : a2 = 0 ∨ a2 = 1 := by
        obtain ⟨w, hw, rfl⟩ := rng (y := 1) (by decide) h2
        have : w = 0 ∨ w = 1 := by omega
        rcases this with rfl | rfl
        · exact Or.inl rfl
        · exact Or.inr rfl
      obtain ⟨q, k1, k2⟩ := odds_same σ' σ2' hn hc hw
      unfold f_X8_setsThatServe
      rw [g1, g2, k2, Option.bind_some, Option.bind_some]
      refine ⟨q, σ', σ2', ?_, rfl, self.ft g3 g4⟩
      show ((f_X7_sets σ').bind fun r11 => l_X9_odds_44 σ' a2 fu (nI c') r11 0) = _
      rw [x_sets hn (TX.ft g3).2.1, Option.bind_some]
      exact k1
    · rw [if_neg h2, if_neg h2, Option.bind_some, if_neg (show ¬ (1 : Int32) = 0 by decide), if_pos rfl]
      exact lost
  · rw [if_neg hv, if_neg hv, if_neg (show ¬ (1 : Int32) = 0 by decide)]
    exact lost

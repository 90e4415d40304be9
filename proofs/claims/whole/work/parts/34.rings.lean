theorem sim_wave {σx σm : Sg} (h : REL σx σm) (a1 : Int32) : ∃ r σx1 σm1, f_X9_wave σx a1 = some (r, σx1) ∧ f_X10_wave σm a1 = some (r, σm1) ∧ REL σx1 σm1 := by
  have self := h
  obtain ⟨⟨n, v, b, r, h⟩, hf⟩ := h
  have hn := h.1.1
  have hv := h.1.2.2.1
  obtain ⟨TX, TM⟩ := tw h
  have hd : ∀ t, t < n → dO σm t < n := fun t ht => (TX.2.2 t ht).1
  unfold f_X9_wave f_X10_wave
  rw [f_thingAt h.2.1.1 h.1.1, f_noThing h.2.1.2 h.1.1]
  by_cases hw : vin a1 n = true
  · simp only [if_pos hw, Option.bind_some, if_true]
    rw [x_brk h, m_brk h.2.2.2.1.2 h.1.2.2.2.1, h.2.2.1.1]
    simp only [Option.bind_some]
    obtain ⟨σ1, e1, f1, g1⟩ := x_zero hv (bkS σm 0 b) TX
    obtain ⟨σ2, e2, f2, g2⟩ := m_zero (bkS σm 0 b) TM
    obtain ⟨σ3, e3, f3, g3⟩ := x_zero hv (bkS σm 0 b ||| ((1 : Int32) <<< (a1 &&& 31))) (TX.fh f1)
    obtain ⟨σ4, e4, f4, g4⟩ := m_zero (bkS σm 0 b ||| ((1 : Int32) <<< (a1 &&& 31))) (TM.gh f2)
    have el : σ1 2 2 = nI v := by rw [f1 2 (by decide) (by decide) (by decide)]; exact h.2.2.1.1
    rw [e1, e2]
    simp only [Option.bind_some]
    rw [x_pts (TX.fh f1) (hrS_rng hd) g1, m_pts (TM.gh f2) (hrS_rng hd) g2]
    simp only [Option.bind_some]
    rw [el, e3, e4]
    simp only [Option.bind_some]
    rw [x_pts ((TX.fh f1).fh f3) (hrS_rng hd) g3, m_pts ((TM.gh f2).gh f4) (hrS_rng hd) g4]
    exact ⟨_, _, _, rfl, rfl, self.fr (f1.tr f3) (f2.tr f4)⟩
  · simp only [if_neg hw, Option.bind_some, if_neg (show ¬ (1 : Int32) = 0 by decide)]
    exact ⟨_, _, _, rfl, rfl, self⟩
/-! ===== the first undone ===== -/
theorem und_bt {hs : HS} : ∀ k, k ≤ 8 → ∀ i, i < 32 → bt (undS hs k) i = (decide (i < k) && (hs i).1.isNone)
  | 0, _, i, _ => by rw [show undS hs 0 = 0 from rfl, b_0]; simp
  | k + 1, hk, i, hi => by
    rw [show undS hs (k + 1) = (if (hs k).1 = none then undS hs k ||| ((1 : Int32) <<< (nI k &&& 31)) else undS hs k) from rfl]
    by_cases q : (hs k).1 = none
    · rw [if_pos q, b_add _ (show k < 32 by omega) hi, und_bt k (by omega) i hi]
      by_cases e : i = k
      · subst e; rw [q]; simp
      · rw [decide_eq_false e, Bool.false_or]
        congr 1
        by_cases q2 : i < k
        · rw [decide_eq_true q2, decide_eq_true (by omega)]
        · rw [decide_eq_false q2, decide_eq_false (by omega)]
    · rw [if_neg q, und_bt k (by omega) i hi]
      by_cases e : i = k
      · subst e
        cases h : (hs i).1 with
        | none => exact absurd h q
        | some c => simp
      · congr 1
        by_cases q2 : i < k
        · rw [decide_eq_true q2, decide_eq_true (by omega)]
        · rw [decide_eq_false q2, decide_eq_false (by omega)]
theorem und_ex {hs : HS} {n : Nat} (hn : n ≤ 8) (h : ¬ undS hs n = 0) : ∃ k, k < 8 ∧ bt (undS hs n) k = true := by
  apply Classical.byContradiction
  intro q
  apply h
  apply b_ext
  intro i hi
  rw [b_0]
  by_cases hi8 : i < 8
  · exact Bool.eq_false_iff.mpr (fun z => q ⟨i, hi8, z⟩)
  · rw [und_bt n hn i hi, decide_eq_false (by omega)]; rfl
theorem x_least {σ : Sg} {x : Int32} {k : Nat} (hk : k < 8) (h1 : bt x k = true) (h2 : ∀ j, j < k → bt x j = false) : ∀ (m N j : Nat), m < N → j + m = k → l_X9_leastOf_2 σ x N (nI j) = some (nI k) := by
  intro m
  induction m with
  | zero =>
    intro N j hN hj
    obtain ⟨N, rfl⟩ : ∃ M, N = M + 1 := ⟨N - 1, by omega⟩
    have : j = k := by omega
    subst this
    show f_X9_leastOf_2 _ σ _ _ = _
    unfold f_X9_leastOf_2
    rw [if_neg (show ¬ (8 : Int32) ≤ nI j from nI_ge (b := 8) (by omega) (by decide)), if_neg (fun z => by rw [(tb0 x (show j < 32 by omega)).mp z] at h1; cases h1)]
  | succ m ih =>
    intro N j hN hj
    obtain ⟨N, rfl⟩ : ∃ M, N = M + 1 := ⟨N - 1, by omega⟩
    show f_X9_leastOf_2 _ σ _ _ = _
    unfold f_X9_leastOf_2
    rw [if_neg (show ¬ (8 : Int32) ≤ nI j from nI_ge (b := 8) (by omega) (by decide)), if_pos ((tb0 x (show j < 32 by omega)).mpr (h2 j (by omega))), nI_1]
    exact ih N (j + 1) (by omega) (by omega)
theorem m_least {σ : Sg} {x a1 hh : Int32} {k : Nat} (hk : k < 8) (h1 : bt x k = true) (h2 : ∀ j, j < k → bt x j = false) : ∀ (m N j : Nat), m < N → j + m = k → l_X10_first_56 σ a1 hh x N (nI j) = (if a1 = 0 then some (hh, σ) else some (nI k, σ)) := by
  intro m
  induction m with
  | zero =>
    intro N j hN hj
    obtain ⟨N, rfl⟩ : ∃ M, N = M + 1 := ⟨N - 1, by omega⟩
    have : j = k := by omega
    subst this
    show f_X10_first_56 _ σ _ _ _ _ = _
    unfold f_X10_first_56
    rw [f_isIn σ x (show j < 32 by omega), h1]; rfl
  | succ m ih =>
    intro N j hN hj
    obtain ⟨N, rfl⟩ : ∃ M, N = M + 1 := ⟨N - 1, by omega⟩
    show f_X10_first_56 _ σ _ _ _ _ = _
    unfold f_X10_first_56
    rw [f_isIn σ x (show j < 32 by omega), h2 j (by omega), nI_1]
    exact ih N (j + 1) (by omega) (by omega)
theorem first_loop {σx σm : Sg} {n v b r : Nat} (h : REL1 σx σm n v b r) (a1 : Int32) : ∀ (k N j : Nat) (σ σ2 : Sg), k < N → j + k = 30 → FH σx σ → GH σm σ2 → HX σ n (HHS v n (dO σm) (fun t => σx (4 + t) 5) (σm 4) (fun k => bkS σm (nI k) b) j) → HM σ2 n (HHS v n (dO σm) (fun t => σx (4 + t) 5) (σm 4) (fun k => bkS σm (nI k) b) j) → ∃ q σ' σ2', l_X9_first_22 a1 N (nI j) σ = some (q, σ') ∧ l_X10_first_29 a1 N (nI j) σ2 = some (q, σ2') ∧ FH σx σ' ∧ GH σm σ2' := by
  have hn := h.1.1
  have hv := h.1.2.2.1
  obtain ⟨TX, TM⟩ := tw h
  have hd : ∀ t, t < n → dO σm t < n := fun t ht => (TX.2.2 t ht).1
  intro k
  induction k with
  | zero =>
    intro N j σ σ2 hN hj hF hG hH hM
    obtain ⟨N, rfl⟩ : ∃ M, N = M + 1 := ⟨N - 1, by omega⟩
    have : j = 30 := by omega
    subst this
    refine ⟨-9, σ, σ2, ?_, ?_, hF, hG⟩
    · show f_X9_first_22 _ σ _ _ = _
      unfold f_X9_first_22
      rw [if_pos (show (30 : Int32) ≤ nI 30 by decide)]
    · show f_X10_first_29 _ σ2 _ _ = _
      unfold f_X10_first_29
      rw [if_pos (show (30 : Int32) ≤ nI 30 by decide)]
  | succ k ih =>
    intro N j σ σ2 hN hj hF hG hH hM
    obtain ⟨N, rfl⟩ : ∃ M, N = M + 1 := ⟨N - 1, by omega⟩
    have e2 : σ 2 2 = nI v := by rw [hF 2 (by decide) (by decide) (by decide)]; exact h.2.2.1.1
    obtain ⟨σ1, g1, g2, g3⟩ := x_wh hv (HHS_rng hd j) (bkS σm (nI j) b) (TX.fh hF) hH
    obtain ⟨σ3, k1, k2, k3, k4⟩ := m_gh (HHS_rng hd j) (bkS σm (nI j) b) (TM.gh hG) hM
    have hu := x_und hn (TX.fh (hF.tr g2)).2.1 (hrS_rng hd) g3
    have hu2 := m_und hn (TM.gh (hG.tr k2)).2.2.1 (hrS_rng hd) k3
    show ∃ q σ' σ2', f_X9_first_22 _ σ _ _ = some (q, σ') ∧ f_X10_first_29 _ σ2 _ _ = some (q, σ2') ∧ _
    unfold f_X9_first_22 f_X10_first_29
    rw [if_neg (show ¬ (30 : Int32) ≤ nI j from nI_ge (b := 30) (by omega) (by decide)), if_neg (show ¬ (30 : Int32) ≤ nI j from nI_ge (b := 30) (by omega) (by decide)), x_brk (h.fr hF.fx FM.rf), e2, m_brk (b := b) (by rw [hG 0 (by decide) (by decide) (by decide)]; exact h.2.2.2.1.2) h.1.2.2.2.1, hG.bk]
    simp only [Option.bind_some]
    rw [g1, k1]
    simp only [Option.bind_some]
    rw [hu, hu2]
    simp only [Option.bind_some]
    generalize hU : undS (hrS v n (dO σm) (fun t => σx (4 + t) 5) (σm 4) (bt (bkS σm (nI j) b)) (HHS v n (dO σm) (fun t => σx (4 + t) 5) (σm 4) (fun k => bkS σm (nI k) b) j)) n = U
    by_cases q : U = 0
    · rw [if_pos q, if_pos q, nI_1]
      exact ih N (j + 1) σ1 σ3 (by omega) (by omega) (hF.tr g2) (hG.tr k2) g3 k4
    · rw [if_neg q, if_neg q]
      obtain ⟨w, hw1, hw2⟩ := pk_least (fun k => k < 8 ∧ bt U k = true) (by rw [← hU]; exact und_ex hn (by rw [hU]; exact q))
      have hlow : ∀ j, j < w → bt U j = false := fun j hj => Bool.eq_false_iff.mpr (fun z => hw2 j hj ⟨by omega, z⟩)
      have l1 := x_least (σ := σ1) hw1.1 hw1.2 hlow w fu 0 (by unfold fu; omega) (by omega)
      have l2 := m_least (σ := σ3) (a1 := a1) (hh := nI j) hw1.1 hw1.2 hlow w fu 0 (by unfold fu; omega) (by omega)
      rw [nI_0] at l1 l2
      unfold f_X9_leastOf
      rw [l1, l2]
      by_cases q2 : a1 = 0
      · rw [if_pos q2, if_pos q2]
        exact ⟨_, _, _, rfl, rfl, hF.tr g2, hG.tr k2⟩
      · rw [if_neg q2, if_neg q2]
        exact ⟨_, _, _, rfl, rfl, hF.tr g2, hG.tr k2⟩
theorem sim_first {σx σm : Sg} (h : REL σx σm) (a1 : Int32) : ∃ r σx1 σm1, f_X9_first σx a1 = some (r, σx1) ∧ f_X10_first σm a1 = some (r, σm1) ∧ REL σx1 σm1 := by
  have self := h
  obtain ⟨⟨n, v, b, r, h⟩, hf⟩ := h
  have hn := h.1.1
  unfold f_X9_first f_X10_first f_X9_refusalOf
  rw [f_beyond, f_in32 σm a1 0 1 (a := 0) (b := 1) rfl rfl, h.2.1.1, h.2.1.2]
  by_cases h2 : 0 ≤ a1 ∧ a1 ≤ (1 : Int32)
  · simp only [if_pos h2, Option.bind_some, if_true, if_neg (show ¬ (1 : Int32) = 0 by decide)]
    by_cases h0 : nI n = 0
    · simp only [if_pos h0, Option.bind_some, if_neg (show ¬ (-3 : Int32) = 0 by decide)]
      exact ⟨_, _, _, rfl, rfl, self⟩
    · simp only [if_neg h0, Option.bind_some, if_true]
      obtain ⟨σ1, e1, f1, h1⟩ := x_forget (σ := σx) (n := n) hn
      obtain ⟨σ2, e2, f2, h2⟩ := m_bh σm (n := n) hn
      obtain ⟨q, σ', σ2', g1, g2, g3, g4⟩ := first_loop h a1 30 fu 0 σ1 σ2 (by unfold fu; omega) (by omega) f1 f2 h1 h2
      rw [nI_0] at g1 g2
      rw [e1, e2]
      simp only [Option.bind_some]
      exact ⟨_, _, _, g1, g2, self.fr g3 g4⟩
  · simp only [if_neg h2, Option.bind_some, if_true, if_neg (show ¬ (1 : Int32) = 0 by decide), if_neg (show ¬ (-2 : Int32) = 0 by decide)]
    exact ⟨_, _, _, rfl, rfl, self⟩
/-! ===== the ring ===== -/
def cto (d : Nat → Nat) (t : Nat) : Nat → Nat → Bool
  | 0, _ => false
  | k + 1, c => decide (d c = t) || cto d t k (d c)
def rgS (d : Nat → Nat) (n : Nat) : Nat → Int32
  | 0 => 0
  | k + 1 => if cto d k n k = true then rgS d n k ||| ((1 : Int32) <<< (nI k &&& 31)) else rgS d n k
theorem x_cto {σ : Sg} {n : Nat} {d : Nat → Nat} {g la : Nat → Int32} (T : TWX σ n d g la) {t : Nat} (ht : t < n) : ∀ (k N j c : Nat), k < N → j + k = n → c < n → l_X7_comesToItself_8 σ (nI t) N (some c) (nI j) = some (if cto d t k c = true then 1 else 0) := by
  obtain ⟨hn, h1, hT⟩ := T
  intro k
  induction k with
  | zero =>
    intro N j c hN hj hc
    obtain ⟨N, rfl⟩ : ∃ M, N = M + 1 := ⟨N - 1, by omega⟩
    show f_X7_comesToItself_8 _ σ _ _ _ = _
    unfold f_X7_comesToItself_8
    rw [h1, if_pos (nI_le (by omega) (by omega))]; rfl
  | succ k ih =>
    intro N j c hN hj hc
    obtain ⟨N, rfl⟩ : ∃ M, N = M + 1 := ⟨N - 1, by omega⟩
    have hd := (hT c hc).1
    show f_X7_comesToItself_8 _ σ _ _ _ = _
    unfold f_X7_comesToItself_8
    rw [h1, if_neg (nI_ge (by omega) (by omega))]
    show (if c < 8 then _ else _) = _
    rw [if_pos (show c < 8 by omega), (hT c hc).2.1]
    rw [show cto d t (k + 1) c = (decide (d c = t) || cto d t k (d c)) from rfl]
    by_cases q : d c = t
    · rw [if_pos (by rw [q]), decide_eq_true q]; rfl
    · rw [if_neg (ne_of q (by omega) (by omega)), decide_eq_false q, Bool.false_or, xth h1 hn hd, nI_1]
      exact ih N (j + 1) (d c) (by omega) (by omega) hd
theorem i_orr (x y : Int32) : x ||| y ||| y = x ||| y := by
  apply b_ext
  intro i hi
  rw [b_or, b_or, Bool.or_assoc, Bool.or_self]
theorem m_cto {σ : Sg} {n v : Nat} {d : Nat → Nat} {g la : Nat → Int32} (T : TWM σ n v d g la) (ag : Int32 → Int32 → Option Int32) {t : Nat} (ht : t < n) : ∀ (k N j c : Nat) (x : Int32), k < N → j + k = n → c < n → l_X10_ring_27 ag σ (nI t) N x (nI c) (nI j) = ag (if cto d t k c = true then x ||| ((1 : Int32) <<< (nI t &&& 31)) else x) (nI (t + 1)) := by
  obtain ⟨hn, hv, h1, h6, hT⟩ := T
  intro k
  induction k with
  | zero =>
    intro N j c x hN hj hc
    obtain ⟨N, rfl⟩ : ∃ M, N = M + 1 := ⟨N - 1, by omega⟩
    show f_X10_ring_27 _ _ σ _ _ _ _ = _
    unfold f_X10_ring_27
    rw [h1, if_pos (nI_le (by omega) (by omega)), nI_1]; rfl
  | succ k ih =>
    intro N j c x hN hj hc
    obtain ⟨N, rfl⟩ : ∃ M, N = M + 1 := ⟨N - 1, by omega⟩
    have hd := (hT c hc).1
    show f_X10_ring_27 _ _ σ _ _ _ _ = _
    unfold f_X10_ring_27 f_X10_ring_56
    rw [h1, if_neg (nI_ge (by omega) (by omega)), if_pos (vin_k (by omega) (by decide)), nI_clamp (by omega), (hT c hc).2.1, nI_1, i_or0, ih N (j + 1) (d c) _ (by omega) (by omega) hd, ih N (j + 1) (d c) _ (by omega) (by omega) hd]
    rw [show cto d t (k + 1) c = (decide (d c = t) || cto d t k (d c)) from rfl]
    by_cases q : d c = t
    · rw [if_pos (by rw [q]), decide_eq_true q, Bool.true_or, if_pos rfl, i_orr]
      cases cto d t k (d c) <;> rfl
    · rw [if_neg (ne_of q (by omega) (by omega)), decide_eq_false q, Bool.false_or]
theorem sim_ring {σx σm : Sg} (h : REL σx σm) : ∃ r, f_X9_ring σx = some r ∧ f_X10_ring σm = some r := by
  obtain ⟨⟨n, v, b, r, h⟩, hf⟩ := h
  have hn := h.1.1
  obtain ⟨TX, TM⟩ := tw h
  unfold f_X9_ring f_X10_ring
  rw [h.2.1.1, h.2.1.2]
  by_cases h0 : nI n = 0
  · rw [if_pos h0, if_pos h0]; exact ⟨_, rfl, rfl⟩
  · rw [if_neg h0, if_neg h0]
    have X : ∀ (k N j : Nat), k < N → j + k = n → l_X9_ring_17 σx N (rgS (dO σm) n j) (nI j) = some (rgS (dO σm) n n) := by
      intro k
      induction k with
      | zero =>
        intro N j hN hj
        obtain ⟨N, rfl⟩ : ∃ M, N = M + 1 := ⟨N - 1, by omega⟩
        have : j = n := by omega
        subst this
        show f_X9_ring_17 _ σx _ _ = _
        unfold f_X9_ring_17
        rw [h.2.1.1, if_pos (nI_le (Nat.le_refl j) (by omega))]
      | succ k ih =>
        intro N j hN hj
        obtain ⟨N, rfl⟩ : ∃ M, N = M + 1 := ⟨N - 1, by omega⟩
        have hjn : j < n := by omega
        have e1 := x_cto TX hjn n fu 0 j (by unfold fu; omega) (by omega) hjn
        rw [nI_0] at e1
        have := ih N (j + 1) (by omega) (by omega)
        rw [show rgS (dO σm) n (j + 1) = (if cto (dO σm) j n j = true then rgS (dO σm) n j ||| ((1 : Int32) <<< (nI j &&& 31)) else rgS (dO σm) n j) from rfl] at this
        show f_X9_ring_17 _ σx _ _ = _
        unfold f_X9_ring_17 f_X7_comesToItself
        rw [h.2.1.1, if_neg (nI_ge hjn (by omega)), xth h.2.1.1 hn hjn]
        simp only [Option.bind_some]
        rw [e1, nI_1]
        simp only [Option.bind_some]
        by_cases q : cto (dO σm) j n j = true
        · rw [if_pos q, if_neg (show ¬ (1 : Int32) = 0 by decide)]; rw [if_pos q] at this; exact this
        · rw [if_neg q, if_pos rfl]; rw [if_neg q] at this; exact this
    have M : ∀ (k N j : Nat), k < N → j + k = n → l_X10_ring_14 σm N (rgS (dO σm) n j) (nI j) = some (rgS (dO σm) n n) := by
      intro k
      induction k with
      | zero =>
        intro N j hN hj
        obtain ⟨N, rfl⟩ : ∃ M, N = M + 1 := ⟨N - 1, by omega⟩
        have : j = n := by omega
        subst this
        show f_X10_ring_14 _ σm _ _ = _
        unfold f_X10_ring_14
        rw [h.2.1.2, if_pos (nI_le (Nat.le_refl j) (by omega))]
      | succ k ih =>
        intro N j hN hj
        obtain ⟨N, rfl⟩ : ∃ M, N = M + 1 := ⟨N - 1, by omega⟩
        have hjn : j < n := by omega
        have e1 := m_cto TM (l_X10_ring_14 σm N) hjn n fu 0 j (rgS (dO σm) n j) (by unfold fu; omega) (by omega) hjn
        rw [nI_0] at e1
        show f_X10_ring_14 _ σm _ _ = _
        unfold f_X10_ring_14
        rw [h.2.1.2, if_neg (nI_ge hjn (by omega)), e1]
        exact ih N (j + 1) (by omega) (by omega)
    have eX := X n fu 0 (by unfold fu; omega) (by omega)
    have eM := M n fu 0 (by unfold fu; omega) (by omega)
    rw [nI_0] at eX eM
    exact ⟨_, eX, eM⟩

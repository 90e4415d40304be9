/-! ===== the one change that mends most ===== -/
def upN (d : Nat → Nat) (t j : Nat) : Nat → Nat := fun u => if u = t then j else d u
def frv : Option (Nat × Nat) → Nat
  | none => 0
  | some p => p.2
theorem cX_v (q : Option (Nat × Nat)) : cX q = nI (frv q) := by
  cases q with
  | none => rfl
  | some p => rfl
theorem cM_v {q : Option (Nat × Nat)} (h : q ≠ none) : cM q = nI (frv q) := by rw [← cXM h, cX_v]
theorem frPk_le {j w : Nat} (hw : w ≤ 8) {q : Option (Nat × Nat)} (hq : frv q ≤ 8) : frv (frPk j w q) ≤ 8 := by
  cases q with
  | none => exact hw
  | some p =>
    obtain ⟨b, m⟩ := p
    show frv (if m < w then some (j, w) else some (b, m)) ≤ 8
    by_cases y : m < w
    · rw [if_pos y]; exact hw
    · rw [if_neg y]; exact hq
theorem frR_le {pc u : Nat → Nat} (hu : ∀ s, u s ≤ 8) {K : Nat} : ∀ m j q, frv q ≤ 8 → frv (frR pc u K m j q) ≤ 8
  | 0, _, _, h => h
  | m + 1, j, q, h => by
    unfold frR
    apply frR_le hu m
    unfold frStep
    by_cases z : pc j = K
    · rw [if_pos z]; exact frPk_le (hu j) h
    · rw [if_neg z]; exact h
def fm (pc : Nat → Nat) (v n : Nat) (g la : Nat → Int32) (d : Nat → Nat) : Nat := frv (FR pc v n d g la 2)
theorem fm_le {pc : Nat → Nat} (P : PC pc) {v n : Nat} {g la : Nat → Int32} (d : Nat → Nat) : fm pc v n g la d ≤ 8 := frR_le (fun s => P.2.2.1 _) _ _ _ (by decide)
def mdS (F : (Nat → Nat) → Nat) (d : Nat → Nat) (t j : Nat) (q : Int32 × Nat) : Int32 × Nat := if j = t then q else if j = d t then q else if F (upN d t j) < q.2 then ((10 : Int32) * nI t + nI j, F (upN d t j)) else q
def mdI (F : (Nat → Nat) → Nat) (d : Nat → Nat) (t : Nat) : Nat → Nat → Int32 × Nat → Int32 × Nat
  | 0, _, q => q
  | k + 1, j, q => mdI F d t k (j + 1) (mdS F d t j q)
def mdO (F : (Nat → Nat) → Nat) (d : Nat → Nat) (n : Nat) : Nat → Nat → Int32 × Nat → Int32 × Nat
  | 0, _, q => q
  | k + 1, t, q => mdO F d n k (t + 1) (mdI F d t n 0 q)
theorem mdS_le {F : (Nat → Nat) → Nat} (hF : ∀ d, F d ≤ 8) {d : Nat → Nat} {t j : Nat} {q : Int32 × Nat} (h : q.2 ≤ 8) : (mdS F d t j q).2 ≤ 8 := by
  unfold mdS
  by_cases a : j = t
  · rw [if_pos a]; exact h
  · rw [if_neg a]
    by_cases b : j = d t
    · rw [if_pos b]; exact h
    · rw [if_neg b]
      by_cases c : F (upN d t j) < q.2
      · rw [if_pos c]; exact hF _
      · rw [if_neg c]; exact h
theorem mdI_le {F : (Nat → Nat) → Nat} (hF : ∀ d, F d ≤ 8) {d : Nat → Nat} {t : Nat} : ∀ k j q, q.2 ≤ 8 → (mdI F d t k j q).2 ≤ 8
  | 0, _, _, h => h
  | k + 1, j, q, h => by
    unfold mdI
    exact mdI_le hF k (j + 1) _ (mdS_le hF h)
theorem mdI_stop {F : (Nat → Nat) → Nat} {d : Nat → Nat} {t : Nat} : ∀ k j q, q.2 = 0 → mdI F d t k j q = q
  | 0, _, _, _ => rfl
  | k + 1, j, q, h => by
    unfold mdI
    have e : mdS F d t j q = q := by
      unfold mdS
      rw [if_neg (show ¬ F (upN d t j) < q.2 by omega)]
      by_cases a : j = t
      · rw [if_pos a]
      · rw [if_neg a]
        by_cases b : j = d t
        · rw [if_pos b]
        · rw [if_neg b]
    rw [e]
    exact mdI_stop k (j + 1) q h
theorem st_re {σ σ' : Sg} {o k o' : Nat} {w z : Int32} (h : σ' o' = st σ o k w o') : st σ' o k z o' = st σ o k z o' := by
  by_cases ho : o' = o
  · subst ho
    funext k'
    by_cases hk : k' = k
    · rw [hk, st_s, st_s]
    · rw [st_k hk, st_k hk, h, st_k hk]
  · rw [st_o ho, st_o ho, h, st_o ho]
theorem st_id {σ : Sg} {o k : Nat} {z : Int32} (h : σ o k = z) : st σ o k z = σ := by
  funext o'
  by_cases ho : o' = o
  · subst ho
    funext k'
    by_cases hk : k' = k
    · rw [hk, st_s, h]
    · rw [st_k hk]
  · rw [st_o ho]
theorem FT.re {σ σ' : Sg} {o k : Nat} {w z : Int32} (h : FT (st σ o k w) σ') : FT (st σ o k z) (st σ' o k z) := fun o' a1 a2 a3 a4 => st_re (h o' a1 a2 a3 a4)
theorem GT.re {σ σ' : Sg} {k : Nat} {w z : Int32} (h : GT (st σ 2 k w) σ') : GT (st σ 2 k z) (st σ' 2 k z) := ⟨fun o' a1 a2 a3 a4 => st_re (h.1 o' a1 a2 a3 a4), fun k' hk => by
  have := h.2 k' hk
  rw [st_o (by decide)] at this
  rw [st_o (by decide), st_o (by decide)]
  exact this⟩
theorem TWX.up {σ : Sg} {n : Nat} {d : Nat → Nat} {g la : Nat → Int32} (T : TWX σ n d g la) (t : Nat) {j : Nat} (hj : j < n) : TWX (st σ (4 + t) 2 (nI j)) n (upN d t j) g la := by
  obtain ⟨hn, h1, hT⟩ := T
  refine ⟨hn, by rw [st_o (by omega)]; exact h1, fun u hu => ?_⟩
  obtain ⟨c1, c2, c3, c4⟩ := hT u hu
  unfold upN
  by_cases e : u = t
  · subst e
    rw [if_pos rfl, st_s, st_k (by decide), st_k (by decide)]
    exact ⟨hj, rfl, c3, c4⟩
  · rw [if_neg e, st_o (by omega)]
    exact ⟨c1, c2, c3, c4⟩
theorem TWM.up {σ : Sg} {n v : Nat} {d : Nat → Nat} {g la : Nat → Int32} (T : TWM σ n v d g la) (t : Nat) {j : Nat} (hj : j < n) : TWM (st σ 2 t (nI j)) n v (upN d t j) g la := by
  obtain ⟨hn, hv, h1, h6, hT⟩ := T
  refine ⟨hn, hv, by rw [st_o (by decide)]; exact h1, by rw [st_o (by decide)]; exact h6, fun u hu => ?_⟩
  obtain ⟨c1, c2, c3, c4⟩ := hT u hu
  rw [st_o (show 4 ≠ 2 by decide), goodOf_cg (σ := σ) (σ' := st σ 2 t (nI j)) (st_o (by decide)) (st_o (by decide))]
  unfold upN
  by_cases e : u = t
  · subst e
    rw [if_pos rfl, st_s]
    exact ⟨hj, rfl, c3, c4⟩
  · rw [if_neg e, st_k e]
    exact ⟨c1, c2, c3, c4⟩
theorem x_mdI {pc : Nat → Nat} (P : PC pc) {σ0 : Sg} {n v t : Nat} {d : Nat → Nat} {g la : Nat → Int32} (TX : TWX σ0 n d g la) (hv : v ≤ 2) (hx2 : σ0 2 2 = nI v) (ht : t < n) (ag21 : Int32 → Sg → Option Sg) : ∀ (k N j : Nat) (q : Int32 × Nat) (σ : Sg), k < N → j + k = n → q.2 ≤ 8 → FT σ0 σ → σ 22 4 = q.1 → σ 22 5 = nI q.2 → ∃ σ', l_X8_seekMend_58 ag21 (nI t) (some t) (nI (d t)) N (nI j) σ = ag21 (nI (t + 1)) σ' ∧ FT σ0 σ' ∧ σ' 22 4 = (mdI (fm pc v n g la) d t k j q).1 ∧ σ' 22 5 = nI (mdI (fm pc v n g la) d t k j q).2 := by
  have hn := TX.1
  obtain ⟨dt, eT, -, -⟩ := TX.2.2 t ht
  intro k
  induction k with
  | zero =>
    intro N j q σ hN hj hq hF k4 k5
    obtain ⟨N, rfl⟩ : ∃ M, N = M + 1 := ⟨N - 1, by omega⟩
    refine ⟨σ, ?_, hF, k4, k5⟩
    show f_X8_seekMend_58 _ _ σ _ _ _ _ = _
    unfold f_X8_seekMend_58
    rw [(TX.ft hF).2.1, if_pos (nI_le (by omega) (by omega)), nI_1]
  | succ k ih =>
    intro N j q σ hN hj hq hF k4 k5
    obtain ⟨N, rfl⟩ : ∃ M, N = M + 1 := ⟨N - 1, by omega⟩
    have hjn : j < n := by omega
    show ∃ σ', f_X8_seekMend_58 _ _ σ _ _ _ _ = _ ∧ _
    unfold f_X8_seekMend_58
    rw [(TX.ft hF).2.1, if_neg (nI_ge (show j < n by omega) (by omega))]
    dsimp only
    rw [k5]
    by_cases q0 : q.2 = 0
    · rw [if_pos (show nI q.2 ≤ 0 by rw [q0]; decide), nI_1, mdI_stop (k + 1) j q q0]
      exact ⟨σ, rfl, hF, k4, k5⟩
    · rw [if_neg (nI_nle (by omega) (by omega)), nI_1, show mdI (fm pc v n g la) d t (k + 1) j q = mdI (fm pc v n g la) d t k (j + 1) (mdS (fm pc v n g la) d t j q) from rfl]
      by_cases q1 : j = t
      · rw [if_pos (by rw [q1]), show mdS (fm pc v n g la) d t j q = q by unfold mdS; rw [if_pos q1]]
        exact ih N (j + 1) q σ (by omega) (by omega) hq hF k4 k5
      · rw [if_neg (ne_of q1 (by omega) (by omega))]
        by_cases q2 : j = d t
        · rw [if_pos (by rw [q2]), show mdS (fm pc v n g la) d t j q = q by unfold mdS; rw [if_neg q1, if_pos q2]]
          exact ih N (j + 1) q σ (by omega) (by omega) hq hF k4 k5
        · rw [if_neg (ne_of q2 (by omega) (by omega)), if_pos (show t < 8 by omega)]
          have TX1 := (TX.ft hF).up t hjn
          have e2 : (st σ (4 + t) 2 (nI j)) 2 2 = nI v := by rw [st_o (by omega), hF 2 (by decide) (by decide) (by decide) (by decide)]; exact hx2
          obtain ⟨σ1, e1, f1, g1, g2, g3⟩ := x_frail P TX1 hv e2 (show 2 ≤ 8 by decide)
          have n22 : ∀ k, (st σ (4 + t) 2 (nI j)) 22 k = σ 22 k := fun k => by rw [st_o (by omega)]
          have c4 : σ1 22 4 = q.1 := by rw [g3 4 (by decide) (by decide), n22]; exact k4
          have c5 : σ1 22 5 = nI q.2 := by rw [g3 5 (by decide) (by decide), n22]; exact k5
          have c3 : σ1 22 3 = nI (fm pc v n g la (upN d t j)) := by rw [g2, cX_v]; rfl
          have hfm := fm_le P (v := v) (n := n) (g := g) (la := la) (upN d t j)
          rw [show (2 : Int32) = nI 2 from rfl, e1, Option.bind_some]
          have back : ∀ {σ2 : Sg}, FT (st σ (4 + t) 2 (nI j)) σ2 → FT σ0 (st σ2 (4 + t) 2 (nI (d t))) := fun {σ2} hh => by
            have := hh.re (z := nI (d t))
            rw [st_id (σ := σ) (by rw [hF (4 + t) (by omega) (by omega) (by omega) (by omega)]; exact eT)] at this
            exact hF.tr this
          have b22 : ∀ {σ2 : Sg} (k : Nat), (st σ2 (4 + t) 2 (nI (d t))) 22 k = σ2 22 k := fun {σ2} k => by rw [st_o (by omega)]
          unfold f_X8_keepMend
          rw [c5, c3]
          by_cases q3 : fm pc v n g la (upN d t j) < q.2
          · rw [if_neg (nI_ge q3 (by omega)), Option.bind_some, show mdS (fm pc v n g la) d t j q = ((10 : Int32) * nI t + nI j, fm pc v n g la (upN d t j)) by unfold mdS; rw [if_neg q1, if_neg q2, if_pos q3]]
            refine ih N (j + 1) _ _ (by omega) (by omega) hfm (back ((f1.tr FT.to).tr FT.to)) ?_ ?_
            · rw [b22, st_k (by decide), st_s]
            · rw [b22, st_s, st_k (by decide)]; exact c3
          · rw [if_pos (nI_le (by omega) (by omega)), Option.bind_some, show mdS (fm pc v n g la) d t j q = q by unfold mdS; rw [if_neg q1, if_neg q2, if_neg q3]]
            exact ih N (j + 1) q _ (by omega) (by omega) hq (back f1) (by rw [b22]; exact c4) (by rw [b22]; exact c5)
theorem x_mdO {pc : Nat → Nat} (P : PC pc) {σ0 : Sg} {n v : Nat} {d : Nat → Nat} {g la : Nat → Int32} (TX : TWX σ0 n d g la) (hv : v ≤ 2) (hx2 : σ0 2 2 = nI v) : ∀ (k N t : Nat) (q : Int32 × Nat) (σ : Sg), k < N → t + k = n → q.2 ≤ 8 → FT σ0 σ → σ 22 4 = q.1 → σ 22 5 = nI q.2 → ∃ σ', l_X8_seekMend_21 N (nI t) σ = some σ' ∧ FT σ0 σ' ∧ σ' 22 4 = (mdO (fm pc v n g la) d n k t q).1 ∧ σ' 22 5 = nI (mdO (fm pc v n g la) d n k t q).2 := by
  have hn := TX.1
  intro k
  induction k with
  | zero =>
    intro N t q σ hN hj hq hF k4 k5
    obtain ⟨N, rfl⟩ : ∃ M, N = M + 1 := ⟨N - 1, by omega⟩
    refine ⟨σ, ?_, hF, k4, k5⟩
    show f_X8_seekMend_21 _ σ _ = _
    unfold f_X8_seekMend_21
    rw [(TX.ft hF).2.1, if_pos (nI_le (by omega) (by omega))]
  | succ k ih =>
    intro N t q σ hN hj hq hF k4 k5
    obtain ⟨N, rfl⟩ : ∃ M, N = M + 1 := ⟨N - 1, by omega⟩
    have ht : t < n := by omega
    obtain ⟨-, eT, -, -⟩ := (TX.ft hF).2.2 t ht
    show ∃ σ', f_X8_seekMend_21 _ σ _ = _ ∧ _
    unfold f_X8_seekMend_21
    rw [(TX.ft hF).2.1, if_neg (nI_ge ht (by omega)), xth (TX.ft hF).2.1 hn ht, Option.bind_some]
    dsimp only
    rw [if_pos (show t < 8 by omega), eT]
    obtain ⟨σ1, e1, f1, g1, g2⟩ := x_mdI P TX hv hx2 ht (l_X8_seekMend_21 N) n fu 0 q σ (by unfold fu; omega) (by omega) hq hF k4 k5
    rw [nI_0] at e1
    rw [e1]
    exact ih N (t + 1) _ σ1 (by omega) (by omega) (mdI_le (fun d => fm_le P d) n 0 q hq) f1 g1 g2
theorem m_mdI {pc : Nat → Nat} (P : PC pc) {σ0 : Sg} {n v t : Nat} {d : Nat → Nat} {g la : Nat → Int32} (TM : TWM σ0 n v d g la) (hn2 : 2 ≤ n) (ht : t < n) (x1 : Int32) (ag40 : Int32 → Int32 → Int32 → Sg → Option (Int32 × Sg)) : ∀ (k N j : Nat) (q : Int32 × Nat) (σ : Sg) (w : Int32), k < N → j + k = n → q.2 ≤ 8 → GT (st σ0 2 t w) σ → ∃ σ', l_X10_mend_61 ag40 x1 (nI t) (nI (d t)) N (nI q.2) q.1 (nI j) σ = ag40 (nI (mdI (fm pc v n g la) d t k j q).2) (mdI (fm pc v n g la) d t k j q).1 (nI (t + 1)) σ' ∧ GT σ0 σ' := by
  have hn := TM.1
  obtain ⟨dt, eT, -, -⟩ := TM.2.2.2.2 t ht
  intro k
  induction k with
  | zero =>
    intro N j q σ w hN hj hq hG
    obtain ⟨N, rfl⟩ : ∃ M, N = M + 1 := ⟨N - 1, by omega⟩
    refine ⟨st σ 2 t (nI (d t)), ?_, ?_⟩
    · show f_X10_mend_61 _ _ σ _ _ _ _ _ _ = _
      unfold f_X10_mend_61
      rw [hG.2 1 (by decide), st_o (by decide), TM.2.2.1, if_pos (nI_le (by omega) (by omega)), if_pos (vin_k (show t < 8 by omega) (by decide)), nI_clamp (show t < 2 ^ 31 by omega), nI_1]
      rfl
    · have := hG.re (z := nI (d t))
      rw [st_id eT] at this
      exact this
  | succ k ih =>
    intro N j q σ w hN hj hq hG
    obtain ⟨N, rfl⟩ : ∃ M, N = M + 1 := ⟨N - 1, by omega⟩
    have hjn : j < n := by omega
    show ∃ σ', f_X10_mend_61 _ _ σ _ _ _ _ _ _ = _ ∧ _
    unfold f_X10_mend_61
    rw [hG.2 1 (by decide), st_o (show 0 ≠ 2 by decide), TM.2.2.1, if_neg (nI_ge (show j < n by omega) (by omega)), nI_1, show mdI (fm pc v n g la) d t (k + 1) j q = mdI (fm pc v n g la) d t k (j + 1) (mdS (fm pc v n g la) d t j q) from rfl]
    by_cases q1 : j = t
    · rw [if_pos (by rw [q1]), show mdS (fm pc v n g la) d t j q = q by unfold mdS; rw [if_pos q1]]
      exact ih N (j + 1) q σ w (by omega) (by omega) hq hG
    · rw [if_neg (ne_of q1 (by omega) (by omega))]
      by_cases q2 : j = d t
      · rw [if_pos (by rw [q2]), show mdS (fm pc v n g la) d t j q = q by unfold mdS; rw [if_neg q1, if_pos q2]]
        exact ih N (j + 1) q σ w (by omega) (by omega) hq hG
      · rw [if_neg (ne_of q2 (by omega) (by omega)), if_pos (vin_k (show t < 8 by omega) (by decide)), nI_clamp (show t < 2 ^ 31 by omega)]
        have TM1 := (TM.up t hjn).gt (hG.re (z := nI j))
        obtain ⟨σ1, e1, f1, k20⟩ := m_frail P TM1 (show 2 ≤ 8 by decide)
        have hG1 : GT (st σ0 2 t (nI j)) σ1 := (hG.re (z := nI j)).tr f1
        rw [cM_v (FR_some P hn hn2)] at k20
        have c20 : σ1 0 20 = nI (fm pc v n g la (upN d t j)) := k20
        have hfm := fm_le P (v := v) (n := n) (g := g) (la := la) (upN d t j)
        rw [show (2 : Int32) = nI 2 from rfl, e1, Option.bind_some]
        unfold f_X10_mend_119
        dsimp only
        rw [c20, nI_1]
        by_cases q3 : fm pc v n g la (upN d t j) < q.2
        · rw [if_neg (nI_ge q3 (by omega)), if_neg (nI_ge q3 (by omega)), show mdS (fm pc v n g la) d t j q = ((10 : Int32) * nI t + nI j, fm pc v n g la (upN d t j)) by unfold mdS; rw [if_neg q1, if_neg q2, if_pos q3]]
          exact ih N (j + 1) ((10 : Int32) * nI t + nI j, fm pc v n g la (upN d t j)) σ1 _ (by omega) (by omega) hfm hG1
        · rw [if_pos (nI_le (by omega) (by omega)), if_pos (nI_le (by omega) (by omega)), show mdS (fm pc v n g la) d t j q = q by unfold mdS; rw [if_neg q1, if_neg q2, if_neg q3]]
          exact ih N (j + 1) q σ1 _ (by omega) (by omega) hq hG1
theorem m_mdO {pc : Nat → Nat} (P : PC pc) {σ0 : Sg} {n v : Nat} {d : Nat → Nat} {g la : Nat → Int32} (TM : TWM σ0 n v d g la) (hn2 : 2 ≤ n) (x1 : Int32) : ∀ (k N t : Nat) (q : Int32 × Nat) (σ : Sg), k < N → t + k = n → q.2 ≤ 8 → GT σ0 σ → ∃ σ', l_X10_mend_40 x1 N (nI q.2) q.1 (nI t) σ = some ((if x1 = 0 then (mdO (fm pc v n g la) d n k t q).1 else nI (mdO (fm pc v n g la) d n k t q).2), σ') ∧ GT σ0 σ' := by
  have hn := TM.1
  intro k
  induction k with
  | zero =>
    intro N t q σ hN hj hq hG
    obtain ⟨N, rfl⟩ : ∃ M, N = M + 1 := ⟨N - 1, by omega⟩
    refine ⟨σ, ?_, hG⟩
    show f_X10_mend_40 _ σ _ _ _ _ = _
    unfold f_X10_mend_40
    rw [(TM.gt hG).2.2.1, if_pos (nI_le (by omega) (by omega))]
    by_cases z : x1 = 0
    · rw [if_pos z, if_pos z]; rfl
    · rw [if_neg z, if_neg z]; rfl
  | succ k ih =>
    intro N t q σ hN hj hq hG
    obtain ⟨N, rfl⟩ : ∃ M, N = M + 1 := ⟨N - 1, by omega⟩
    have ht : t < n := by omega
    obtain ⟨-, eT, -, -⟩ := (TM.gt hG).2.2.2.2 t ht
    show ∃ σ', f_X10_mend_40 _ σ _ _ _ _ = _ ∧ _
    unfold f_X10_mend_40
    rw [(TM.gt hG).2.2.1, if_neg (nI_ge ht (by omega)), if_pos (vin_k (show t < 8 by omega) (by decide)), nI_clamp (show t < 2 ^ 31 by omega), eT]
    obtain ⟨σ1, e1, f1⟩ := m_mdI P TM hn2 ht x1 (l_X10_mend_40 x1 N) n fu 0 q σ (σ0 2 t) (by unfold fu; omega) (by omega) hq (by rw [st_id rfl]; exact hG)
    rw [nI_0] at e1
    rw [e1]
    exact ih N (t + 1) _ σ1 (by omega) (by omega) (mdI_le (fun d => fm_le P d) n 0 q hq) f1
theorem sim_mend {σx σm : Sg} (h : REL σx σm) (a1 : Int32) : ∃ r σx1 σm1, f_X9_mend σx a1 = some (r, σx1) ∧ f_X10_mend σm a1 = some (r, σm1) ∧ REL σx1 σm1 := by
  have self := h
  obtain ⟨⟨n, v, b, r, h⟩, hf⟩ := h
  have hn := h.1.1
  obtain ⟨TX, TM⟩ := tw h
  unfold f_X9_mend f_X10_mend f_X9_refusalOf
  rw [h.2.1.1, h.2.1.2, f_beyond, f_in32 σm a1 0 1 (a := 0) (b := 1) rfl rfl, Option.bind_some, Option.bind_some]
  by_cases h1 : 0 ≤ a1 ∧ a1 ≤ (1 : Int32)
  · rw [if_pos h1, if_pos h1, if_pos rfl, if_neg (show ¬ (1 : Int32) = 0 by decide)]
    by_cases h0 : nI n = 0
    · rw [if_pos h0, if_pos h0, Option.bind_some, if_neg (show ¬ (-3 : Int32) = 0 by decide)]
      exact ⟨_, _, _, rfl, rfl, self⟩
    · rw [if_neg h0, if_neg h0, Option.bind_some, if_pos rfl]
      have hn2 : 2 ≤ n := by
        have := h.1.2.1
        have : n ≠ 0 := fun z => h0 (by rw [z]; rfl)
        omega
      obtain ⟨pc, P⟩ : ∃ pc, PC pc := ⟨_, pc_ok⟩
      obtain ⟨σ1, e1, f1, g1, g2, -⟩ := x_frail P TX h.1.2.2.1 h.2.2.1.1 (show 2 ≤ 8 by decide)
      obtain ⟨σ2, e2, f2, k2⟩ := m_frail P TM (show 2 ≤ 8 by decide)
      have hne := FR_some (v := v) (d := dO σm) (g := fun t => σx (4 + t) 5) (la := σm 4) P hn hn2
      rw [cM_v hne] at k2
      rw [cX_v] at g2
      have hle : frv (FR pc v n (dO σm) (fun t => σx (4 + t) 5) (σm 4) 2) ≤ 8 := fm_le P (dO σm)
      obtain ⟨σ3, e3, f3, k4, k5⟩ := x_mdO P TX h.1.2.2.1 h.2.2.1.1 n fu 0 ((-9 : Int32), frv (FR pc v n (dO σm) (fun t => σx (4 + t) 5) (σm 4) 2)) (st (st σ1 22 4 (-9)) 22 5 ((st σ1 22 4 (-9)) 22 3)) (by unfold fu; omega) (by omega) hle ((f1.tr FT.to).tr FT.to) (by rw [st_k (by decide), st_s]) (by rw [st_s, st_k (by decide)]; exact g2)
      obtain ⟨σ4, e4, f4⟩ := m_mdO P TM hn2 a1 n fu 0 ((-9 : Int32), frv (FR pc v n (dO σm) (fun t => σx (4 + t) 5) (σm 4) 2)) σ2 (by unfold fu; omega) (by omega) hle f2
      rw [nI_0] at e3 e4
      have k2' : σ2 0 20 = nI (((-9 : Int32), frv (FR pc v n (dO σm) (fun t => σx (4 + t) 5) (σm 4) 2)) : Int32 × Nat).2 := k2
      unfold f_X8_seekMend
      rw [show (2 : Int32) = nI 2 from rfl, e1, e2, Option.bind_some, Option.bind_some, e3, Option.bind_some]
      dsimp only
      rw [k2']
      refine ⟨_, σ3, σ4, ?_, e4, self.ft f3 f4⟩
      by_cases z : a1 = 0
      · rw [if_pos z, if_pos z, k4]
      · rw [if_neg z, if_neg z, k5]
  · rw [if_neg h1, if_neg h1, if_neg (show ¬ (1 : Int32) = 0 by decide), Option.bind_some, if_neg (show ¬ (-2 : Int32) = 0 by decide), if_pos rfl]
    exact ⟨_, _, _, rfl, rfl, self⟩

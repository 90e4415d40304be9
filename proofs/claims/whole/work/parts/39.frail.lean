/-! ===== frail ===== -/
def frPk (j w : Nat) : Option (Nat × Nat) → Option (Nat × Nat)
  | none => some (j, w)
  | some (b, m) => if m < w then some (j, w) else some (b, m)
def frStep (pc u : Nat → Nat) (K s : Nat) (q : Option (Nat × Nat)) : Option (Nat × Nat) := if pc s = K then frPk s (u s) q else q
def frR (pc u : Nat → Nat) (K : Nat) : Nat → Nat → Option (Nat × Nat) → Option (Nat × Nat)
  | 0, _, q => q
  | m + 1, j, q => frR pc u K m (j + 1) (frStep pc u K j q)
theorem frR_stop {pc u : Nat → Nat} {K b x : Nat} (h : ∀ s, pc s = K → u s ≤ K) (hx : K ≤ x) : ∀ m j, frR pc u K m j (some (b, x)) = some (b, x)
  | 0, _ => rfl
  | m + 1, j => by
    unfold frR
    have e : frStep pc u K j (some (b, x)) = some (b, x) := by
      unfold frStep
      by_cases q : pc j = K
      · rw [if_pos q]
        have := h j q
        show (if x < u j then _ else _) = _
        rw [if_neg (by omega)]
      · rw [if_neg q]
    rw [e]
    exact frR_stop h hx m (j + 1)
theorem frStep_some {pc u : Nat → Nat} {K j : Nat} {q : Option (Nat × Nat)} (h : q ≠ none) : frStep pc u K j q ≠ none := by
  unfold frStep
  cases q with
  | none => exact absurd rfl h
  | some p =>
    obtain ⟨b, x⟩ := p
    by_cases z : pc j = K
    · rw [if_pos z]
      show (if x < u j then _ else _) ≠ none
      by_cases y : x < u j
      · rw [if_pos y]; exact fun w => by cases w
      · rw [if_neg y]; exact fun w => by cases w
    · rw [if_neg z]; exact h
theorem frR_some {pc u : Nat → Nat} {K : Nat} : ∀ m j q, q ≠ none → frR pc u K m j q ≠ none
  | 0, _, _, h => h
  | m + 1, j, q, h => by
    unfold frR
    exact frR_some m (j + 1) _ (frStep_some h)
theorem frR_ex {pc u : Nat → Nat} {K s : Nat} (hs : pc s = K) : ∀ m j q, j ≤ s → s < j + m → frR pc u K m j q ≠ none
  | 0, j, q, h1, h2 => by omega
  | m + 1, j, q, h1, h2 => by
    unfold frR
    by_cases e : j = s
    · apply frR_some
      unfold frStep
      rw [e, if_pos hs]
      cases q with
      | none => exact fun w => by cases w
      | some p =>
        obtain ⟨b, x⟩ := p
        show (if x < u s then _ else _) ≠ none
        by_cases y : x < u s
        · rw [if_pos y]; exact fun w => by cases w
        · rw [if_neg y]; exact fun w => by cases w
    · exact frR_ex hs m (j + 1) _ (by omega) (by omega)
def uM (v n : Nat) (d : Nat → Nat) (g la : Nat → Int32) (s : Nat) : Nat := (undS (hrS v n d g la (bt (nI s)) hs0) n).toBitVec.toNat
theorem uM_ok {v n : Nat} {d : Nat → Nat} {g la : Nat → Int32} (hn : n ≤ 8) (s : Nat) : uM v n d g la s < 256 ∧ undS (hrS v n d g la (bt (nI s)) hs0) n = nI (uM v n d g la s) := by
  obtain ⟨U, hU, e⟩ := msk (x := undS (hrS v n d g la (bt (nI s)) hs0) n) (fun i h1 h2 => by rw [und_bt n hn i h2, decide_eq_false (by omega)]; rfl)
  have e2 : uM v n d g la s = U := by
    unfold uM
    rw [e]
    show (BitVec.ofNat 32 U).toNat = U
    rw [BitVec.toNat_ofNat, Nat.mod_eq_of_lt (by omega)]
  rw [e2]
  exact ⟨hU, e⟩
theorem uM_sub {v n : Nat} {d : Nat → Nat} {g la : Nat → Int32} (hn : n ≤ 8) (s : Nat) : ∀ i, (uM v n d g la s).testBit i = true → s.testBit i = true := by
  intro i hi
  obtain ⟨h1, h2⟩ := uM_ok (v := v) (d := d) (g := g) (la := la) hn s
  have hi32 : i < 32 := by
    apply Classical.byContradiction
    intro q
    have h3 : uM v n d g la s < 2 ^ i := Nat.lt_of_lt_of_le h1 (Nat.le_trans (show 256 ≤ 2 ^ 32 by decide) (Nat.pow_le_pow_right (by decide) (by omega)))
    rw [Nat.testBit_lt_two_pow h3] at hi
    cases hi
  rw [← bt_nI hi32, ← h2, und_bt n hn i hi32] at hi
  simp only [Bool.and_eq_true, decide_eq_true_eq] at hi
  obtain ⟨hin, hno⟩ := hi
  have e : (hrS v n d g la (bt (nI s)) hs0 i).1 = srv v d g la (bt (nI s)) hs0 (svU v d g la (bt (nI s)) hs0 i) i := by
    show svU v d g la (bt (nI s)) hs0 n i = _
    rw [svU_st (Nat.lt_succ_self i) n (by omega)]
    exact if_pos rfl
  rw [e] at hno
  unfold srv at hno
  by_cases q : bt (nI s) i = true
  · rw [bt_nI hi32] at q; exact q
  · rw [if_neg q] at hno; cases hno
def FR (pc : Nat → Nat) (v n : Nat) (d : Nat → Nat) (g la : Nat → Int32) (K : Nat) : Option (Nat × Nat) := frR pc (fun s => pc (uM v n d g la s)) K (2 ^ n) 0 none
def cS (q : Option (Nat × Nat)) : Int32 := enc (q.map Prod.fst)
def cX (q : Option (Nat × Nat)) : Int32 := match q with
  | none => 0
  | some p => nI p.2
def cM (q : Option (Nat × Nat)) : Int32 := match q with
  | none => -1
  | some p => nI p.2
theorem x_frail {pc : Nat → Nat} (P : PC pc) {σ0 : Sg} {n v K : Nat} {d : Nat → Nat} {g la : Nat → Int32} (TX : TWX σ0 n d g la) (hv : v ≤ 2) (hx2 : σ0 2 2 = nI v) (hK : K ≤ 8) : ∃ σ', f_X8_seekFrail σ0 (nI K) = some σ' ∧ FT σ0 σ' ∧ σ' 22 2 = cS (FR pc v n d g la K) ∧ σ' 22 3 = cX (FR pc v n d g la K) ∧ ∀ k, k ≠ 2 → k ≠ 3 → σ' 22 k = σ0 22 k := by
  have hn := TX.1
  have hp := p2_le hn
  have hp1 : 1 ≤ 2 ^ n := Nat.one_le_two_pow
  have hd : ∀ t, t < n → d t < n := fun t ht => (TX.2.2 t ht).1
  have hle : ∀ s, pc s = K → (fun s => pc (uM v n d g la s)) s ≤ K := fun s hs => by rw [← hs]; exact P.2.2.2.1 _ _ (uM_sub hn s)
  have loop : ∀ (k N j : Nat) (q : Option (Nat × Nat)) (σ : Sg), k < N → j + k = 2 ^ n → FT σ0 σ → σ 22 2 = cS q → σ 22 3 = cX q → (∀ b m, q = some (b, m) → b < 256 ∧ m ≤ 8) → (∀ k, k ≠ 2 → k ≠ 3 → σ 22 k = σ0 22 k) → ∃ σ', l_X8_seekFrail_13 (nI K) N (nI j) σ = some σ' ∧ FT σ0 σ' ∧ σ' 22 2 = cS (frR pc (fun s => pc (uM v n d g la s)) K k j q) ∧ σ' 22 3 = cX (frR pc (fun s => pc (uM v n d g la s)) K k j q) ∧ ∀ k, k ≠ 2 → k ≠ 3 → σ' 22 k = σ0 22 k := by
    intro k
    induction k with
    | zero =>
      intro N j q σ hN hj hF k2 k3 hq hk
      obtain ⟨N, rfl⟩ : ∃ M, N = M + 1 := ⟨N - 1, by omega⟩
      refine ⟨σ, ?_, hF, k2, k3, hk⟩
      show f_X8_seekFrail_13 _ σ _ _ = _
      unfold f_X8_seekFrail_13
      rw [x_sets hn (TX.ft hF).2.1, Option.bind_some, if_pos (nI_le (by omega) (by omega))]
    | succ k ih =>
      intro N j q σ hN hj hF k2 k3 hq hk
      obtain ⟨N, rfl⟩ : ∃ M, N = M + 1 := ⟨N - 1, by omega⟩
      have hj256 : j < 256 := by omega
      have e2 : σ 2 2 = nI v := by rw [hF 2 (by decide) (by decide) (by decide) (by decide)]; exact hx2
      show ∃ σ', f_X8_seekFrail_13 _ σ _ _ = some σ' ∧ _
      unfold f_X8_seekFrail_13
      rw [x_sets hn (TX.ft hF).2.1, Option.bind_some, if_neg (nI_ge (show j < 2 ^ n by omega) (by omega)), P.1 σ j hj256, Option.bind_some]
      rw [show frR pc (fun s => pc (uM v n d g la s)) K (k + 1) j q = frR pc (fun s => pc (uM v n d g la s)) K k (j + 1) (frStep pc (fun s => pc (uM v n d g la s)) K j q) from rfl]
      by_cases hpc : pc j = K
      · obtain ⟨σ1, e1, f1, g1⟩ := x_zero hv (nI j) (TX.ft hF)
        obtain ⟨hU, eU⟩ := uM_ok (v := v) (d := d) (g := g) (la := la) hn j
        rw [if_pos (show nI (pc j) = nI K by rw [hpc]), e2, e1, Option.bind_some, x_und hn ((TX.ft hF).fh f1).2.1 (hrS_rng hd) g1, Option.bind_some, eU, P.1 σ1 _ hU, Option.bind_some]
        have hst : frStep pc (fun s => pc (uM v n d g la s)) K j q = frPk j (pc (uM v n d g la j)) q := by unfold frStep; rw [if_pos hpc]
        have hu8 := P.2.2.1 (uM v n d g la j)
        have hule : pc (uM v n d g la j) ≤ K := hle j hpc
        rw [hst]
        generalize pc (uM v n d g la j) = w at hu8 hule ⊢
        have n22 : ∀ k, σ1 22 k = σ 22 k := fun k => by rw [f1 22 (by decide) (by decide) (by decide)]
        have hF1 : FT σ0 σ1 := hF.tr f1.ft
        have e88 : ∀ (q' : Option (Nat × Nat)) (σ2 : Sg), FT σ0 σ2 → σ2 22 2 = cS q' → σ2 22 3 = cX q' → (∀ b m, q' = some (b, m) → b < 256 ∧ m ≤ 8) → (∃ b m, q' = some (b, m) ∧ w ≤ m) → (∀ k, k ≠ 2 → k ≠ 3 → σ2 22 k = σ0 22 k) → ∃ σ', f_X8_seekFrail_88 (l_X8_seekFrail_13 (nI K) N) σ2 (nI K) (nI j) (nI w) = some σ' ∧ FT σ0 σ' ∧ σ' 22 2 = cS (frR pc (fun s => pc (uM v n d g la s)) K k (j + 1) q') ∧ σ' 22 3 = cX (frR pc (fun s => pc (uM v n d g la s)) K k (j + 1) q') ∧ ∀ k, k ≠ 2 → k ≠ 3 → σ' 22 k = σ0 22 k := by
          intro q' σ2 a1 a2 a3 a4 a5 a6
          unfold f_X8_seekFrail_88
          by_cases hw : w = K
          · rw [if_pos (by rw [hw])]
            obtain ⟨b, m, e, hm⟩ := a5
            refine ⟨σ2, rfl, a1, ?_, ?_, a6⟩
            · rw [e, frR_stop hle (by omega), ← e]; exact a2
            · rw [e, frR_stop hle (by omega), ← e]; exact a3
          · rw [if_neg (ne_of hw (by omega) (by omega)), nI_1]
            exact ih N (j + 1) q' σ2 (by omega) (by omega) a1 a2 a3 a4 a6
        have take : ∃ σ', f_X8_seekFrail_78 (l_X8_seekFrail_13 (nI K) N) σ1 (nI K) (nI j) (nI w) = some σ' ∧ FT σ0 σ' ∧ σ' 22 2 = cS (frR pc (fun s => pc (uM v n d g la s)) K k (j + 1) (some (j, w))) ∧ σ' 22 3 = cX (frR pc (fun s => pc (uM v n d g la s)) K k (j + 1) (some (j, w))) ∧ ∀ k, k ≠ 2 → k ≠ 3 → σ' 22 k = σ0 22 k := by
          unfold f_X8_seekFrail_78
          refine e88 (some (j, w)) _ ((hF1.tr FT.to).tr FT.to) ?_ ?_ (fun b m e => by cases e; exact ⟨hj256, hu8⟩) ⟨j, w, rfl, Nat.le_refl w⟩ (fun k a b => ?_)
          · rw [st_k (by decide), st_s]; rfl
          · rw [st_s]; rfl
          · rw [st_k b, st_k a, n22]; exact hk k a b
        rw [n22, n22, k2, k3]
        cases q with
        | none =>
          rw [if_pos (show cS none = -9 from rfl)]
          exact take
        | some p =>
          obtain ⟨b, m⟩ := p
          have hbm := hq b m rfl
          have e9 : ¬ cS (some (b, m)) = -9 := fun z => by
            have e1 : (nI b).toInt = (-9 : Int32).toInt := by rw [show nI b = -9 from z]
            rw [nI_toInt (by omega)] at e1
            have e2 : (-9 : Int32).toInt = -9 := rfl
            omega
          rw [if_neg e9, show cX (some (b, m)) = nI m from rfl]
          by_cases hm : m < w
          · rw [if_neg (nI_ge hm (by omega))]
            show ∃ σ', _ ∧ FT σ0 σ' ∧ σ' 22 2 = cS (frR _ _ K k (j + 1) (if m < w then some (j, w) else some (b, m))) ∧ σ' 22 3 = cX (frR _ _ K k (j + 1) (if m < w then some (j, w) else some (b, m))) ∧ _
            rw [if_pos hm]
            exact take
          · rw [if_pos (nI_le (by omega) (by omega))]
            show ∃ σ', _ ∧ FT σ0 σ' ∧ σ' 22 2 = cS (frR _ _ K k (j + 1) (if m < w then some (j, w) else some (b, m))) ∧ σ' 22 3 = cX (frR _ _ K k (j + 1) (if m < w then some (j, w) else some (b, m))) ∧ _
            rw [if_neg hm]
            exact e88 (some (b, m)) σ1 hF1 (by rw [n22]; exact k2) (by rw [n22]; exact k3) hq ⟨b, m, rfl, by omega⟩ (fun k a b => by rw [n22]; exact hk k a b)
      · rw [if_neg (show ¬ nI (pc j) = nI K from ne_of hpc (P.lt j) (by omega)), nI_1]
        have hst : frStep pc (fun s => pc (uM v n d g la s)) K j q = q := by unfold frStep; rw [if_neg hpc]
        rw [hst]
        exact ih N (j + 1) q σ (by omega) (by omega) hF k2 k3 hq hk
  have hF : FT σ0 (st (st σ0 22 2 (-9)) 22 3 0) := FT.to.tr FT.to
  obtain ⟨σ', e1, e2⟩ := loop (2 ^ n) fu 0 none (st (st σ0 22 2 (-9)) 22 3 0) (by unfold fu; omega) (by omega) hF (by rw [st_k (by decide), st_s]; rfl) (by rw [st_s]; rfl) (fun b m h => by cases h) (fun k a b => by rw [st_k b, st_k a])
  rw [nI_0] at e1
  exact ⟨σ', e1, e2⟩
theorem m_frail {pc : Nat → Nat} (P : PC pc) {σ0 : Sg} {n v K : Nat} {d : Nat → Nat} {g la : Nat → Int32} (TM : TWM σ0 n v d g la) (hK : K ≤ 8) : ∃ σ', f_X10_frailest σ0 (nI K) = some (cS (FR pc v n d g la K), σ') ∧ GT σ0 σ' ∧ σ' 0 20 = cM (FR pc v n d g la K) := by
  have hn := TM.1
  have hp := p2_le hn
  have hp1 : 1 ≤ 2 ^ n := Nat.one_le_two_pow
  have hd : ∀ t, t < n → d t < n := fun t ht => (TM.2.2.2.2 t ht).1
  have loop : ∀ (k N j : Nat) (q : Option (Nat × Nat)) (σ : Sg), k < N → j + k = 2 ^ n → GT σ0 σ → σ 0 20 = cM q → (∀ b m, q = some (b, m) → b < 256 ∧ m ≤ 8) → ∃ σ', l_X10_frailest_10 (nI K) N (cS q) (nI j) σ = some (cS (frR pc (fun s => pc (uM v n d g la s)) K k j q), σ') ∧ GT σ0 σ' ∧ σ' 0 20 = cM (frR pc (fun s => pc (uM v n d g la s)) K k j q) := by
    intro k
    induction k with
    | zero =>
      intro N j q σ hN hj hG k20 hq
      obtain ⟨N, rfl⟩ : ∃ M, N = M + 1 := ⟨N - 1, by omega⟩
      refine ⟨σ, ?_, hG, k20⟩
      show f_X10_frailest_10 _ σ _ _ _ = _
      unfold f_X10_frailest_10
      rw [m_all hn (TM.gt hG).2.2.1, Option.bind_some, if_pos (nI_lt (by omega) (by omega))]; rfl
    | succ k ih =>
      intro N j q σ hN hj hG k20 hq
      obtain ⟨N, rfl⟩ : ∃ M, N = M + 1 := ⟨N - 1, by omega⟩
      have hj256 : j < 256 := by omega
      show ∃ σ', f_X10_frailest_10 _ σ _ _ _ = _ ∧ _
      unfold f_X10_frailest_10
      rw [m_all hn (TM.gt hG).2.2.1, Option.bind_some, if_neg (nI_nlt (show j ≤ 2 ^ n - 1 by omega) (by omega)), P.2.1 σ j hj256, Option.bind_some]
      rw [show frR pc (fun s => pc (uM v n d g la s)) K (k + 1) j q = frR pc (fun s => pc (uM v n d g la s)) K k (j + 1) (frStep pc (fun s => pc (uM v n d g la s)) K j q) from rfl]
      by_cases hpc : pc j = K
      · obtain ⟨σ1, e1, f1, g1⟩ := m_zero (nI j) (TM.gt hG)
        obtain ⟨hU, eU⟩ := uM_ok (v := v) (d := d) (g := g) (la := la) hn j
        have eUB : f_X10_undoneBy σ (nI j) = some (nI (pc (uM v n d g la j)), σ1) := by
          unfold f_X10_undoneBy
          rw [e1, Option.bind_some, m_und hn ((TM.gt hG).gh f1).2.2.1 (hrS_rng hd) g1, Option.bind_some, eU, P.2.1 σ1 _ hU, Option.bind_some]
        rw [if_pos (show nI (pc j) = nI K by rw [hpc]), eUB, Option.bind_some]
        have hst : frStep pc (fun s => pc (uM v n d g la s)) K j q = frPk j (pc (uM v n d g la j)) q := by unfold frStep; rw [if_pos hpc]
        have hu8 := P.2.2.1 (uM v n d g la j)
        rw [hst]
        generalize pc (uM v n d g la j) = w at hu8 ⊢
        have e20 : σ1 0 20 = cM q := by rw [f1 0 (by decide) (by decide) (by decide)]; exact k20
        have hG1 : GT σ0 σ1 := hG.tr f1.gt
        have step : ∀ (q' : Option (Nat × Nat)), (∀ b m, q' = some (b, m) → b < 256 ∧ m ≤ 8) → ∃ σ', l_X10_frailest_10 (nI K) N (cS q') (nI (j + 1)) (st σ1 0 20 (cM q')) = some (cS (frR pc (fun s => pc (uM v n d g la s)) K k (j + 1) q'), σ') ∧ GT σ0 σ' ∧ σ' 0 20 = cM (frR pc (fun s => pc (uM v n d g la s)) K k (j + 1) q') := fun q' hq' => ih N (j + 1) q' _ (by omega) (by omega) (hG1.tr GT.to) st_s hq'
        have takes := step (some (j, w)) (fun b m e => by cases e; exact ⟨hj256, hu8⟩)
        have keeps := step q hq
        unfold f_X10_frailest_47 f_X10_frailest_67
        dsimp only
        rw [e20, nI_1]
        cases q with
        | none =>
          rw [if_neg (show ¬ nI w ≤ cM none from fun z => by
            rw [Int32.le_iff_toInt_le, nI_toInt (by omega)] at z
            have e2 : (cM none).toInt = -1 := rfl
            omega), if_neg (show ¬ nI w ≤ cM none from fun z => by
            rw [Int32.le_iff_toInt_le, nI_toInt (by omega)] at z
            have e2 : (cM none).toInt = -1 := rfl
            omega)]
          exact takes
        | some p =>
          obtain ⟨b, m⟩ := p
          have hbm := hq b m rfl
          by_cases hm : m < w
          · rw [if_neg (show ¬ nI w ≤ cM (some (b, m)) from nI_ge hm (by omega)), if_neg (show ¬ nI w ≤ cM (some (b, m)) from nI_ge hm (by omega))]
            show ∃ σ', _ = some (cS (frR _ _ K k (j + 1) (if m < w then some (j, w) else some (b, m))), σ') ∧ GT σ0 σ' ∧ σ' 0 20 = cM (frR _ _ K k (j + 1) (if m < w then some (j, w) else some (b, m)))
            rw [if_pos hm]
            exact takes
          · rw [if_pos (show nI w ≤ cM (some (b, m)) from nI_le (by omega) (by omega)), if_pos (show nI w ≤ cM (some (b, m)) from nI_le (by omega) (by omega))]
            show ∃ σ', _ = some (cS (frR _ _ K k (j + 1) (if m < w then some (j, w) else some (b, m))), σ') ∧ GT σ0 σ' ∧ σ' 0 20 = cM (frR _ _ K k (j + 1) (if m < w then some (j, w) else some (b, m)))
            rw [if_neg hm]
            exact keeps
      · rw [if_neg (show ¬ nI (pc j) = nI K from ne_of hpc (P.lt j) (by omega)), nI_1]
        have hst : frStep pc (fun s => pc (uM v n d g la s)) K j q = q := by unfold frStep; rw [if_neg hpc]
        rw [hst]
        exact ih N (j + 1) q σ (by omega) (by omega) hG k20 hq
  obtain ⟨σ', e1, e2⟩ := loop (2 ^ n) fu 0 none (st σ0 0 20 (-1)) (by unfold fu; omega) (by omega) GT.to st_s (fun b m h => by cases h)
  rw [nI_0] at e1
  exact ⟨σ', e1, e2⟩
theorem FR_some {pc : Nat → Nat} (P : PC pc) {v n K : Nat} {d : Nat → Nat} {g la : Nat → Int32} (hn : n ≤ 8) (hK : K ≤ n) : FR pc v n d g la K ≠ none :=
  frR_ex (s := 2 ^ K - 1) (P.2.2.2.2 K (by omega)) (2 ^ n) 0 none (Nat.zero_le _) (by
    have h1 : 2 ^ K ≤ 2 ^ n := Nat.pow_le_pow_right (by decide) hK
    have h2 : 1 ≤ 2 ^ K := Nat.one_le_two_pow
    omega)
theorem cXM {q : Option (Nat × Nat)} (h : q ≠ none) : cX q = cM q := by
  cases q with
  | none => exact absurd rfl h
  | some p => rfl
theorem sim_frail {σx σm : Sg} (h : REL σx σm) (a1 : Int32) (a2 : Int32) : ∃ r σx1 σm1, f_X9_frail σx a1 a2 = some (r, σx1) ∧ f_X10_frail σm a1 a2 = some (r, σm1) ∧ REL σx1 σm1 := by
  have self := h
  obtain ⟨⟨n, v, b, r, h⟩, hf⟩ := h
  have hn := h.1.1
  obtain ⟨TX, TM⟩ := tw h
  unfold f_X9_frail f_X10_frail
  rw [h.2.1.1, h.2.1.2, f_beyond, f_beyond, f_in32 σm a1 0 (nI n) (a := 0) (b := (nI n).toInt64) rfl rfl, f_in32 σm a2 0 1 (a := 0) (b := 1) rfl rfl, Option.bind_some, Option.bind_some, Option.bind_some, Option.bind_some]
  by_cases h0 : nI n = 0
  · rw [if_pos h0, if_pos h0]
    exact ⟨_, _, _, rfl, rfl, self⟩
  · rw [if_neg h0, if_neg h0]
    by_cases h1 : 0 ≤ a1 ∧ a1 ≤ nI n
    · rw [if_pos h1, if_pos h1, if_pos rfl, if_neg (show ¬ (1 : Int32) = 0 by decide)]
      by_cases h2 : 0 ≤ a2 ∧ a2 ≤ (1 : Int32)
      · rw [if_pos h2, if_pos h2, if_pos rfl, if_neg (show ¬ (1 : Int32) = 0 by decide)]
        obtain ⟨K, hK, rfl⟩ := rng (y := n) (by omega) h1
        obtain ⟨pc, P⟩ : ∃ pc, PC pc := ⟨_, pc_ok⟩
        obtain ⟨σ1, e1, f1, g1, g2, -⟩ := x_frail P TX h.1.2.2.1 h.2.2.1.1 (show K ≤ 8 by omega)
        obtain ⟨σ2, e2, f2, k2⟩ := m_frail P TM (show K ≤ 8 by omega)
        rw [e1, e2, Option.bind_some, Option.bind_some]
        have hne := FR_some (v := v) (d := dO σm) (g := fun t => σx (4 + t) 5) (la := σm 4) P hn hK
        by_cases q : a2 = 0
        · rw [if_pos q]
          refine ⟨_, _, _, rfl, ?_, self.ft f1 f2⟩
          show (if a2 = 0 then _ else _) = _
          rw [if_pos q, g1]
        · rw [if_neg q]
          refine ⟨_, _, _, rfl, ?_, self.ft f1 f2⟩
          show (if a2 = 0 then _ else _) = _
          rw [if_neg q, g2, k2, cXM hne]
      · rw [if_neg h2, if_neg h2, if_neg (show ¬ (1 : Int32) = 0 by decide), if_pos rfl]
        exact ⟨_, _, _, rfl, rfl, self⟩
    · rw [if_neg h1, if_neg h1, if_neg (show ¬ (1 : Int32) = 0 by decide), if_pos rfl]
      exact ⟨_, _, _, rfl, rfl, self⟩

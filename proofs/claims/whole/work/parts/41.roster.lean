/-! ===== the roster ===== -/
theorem rgF_4 {h l : Nat} {a b i n : Int32} : rgF h l a b i n ≤ 4 := by
  unfold rgF
  by_cases q : h = 0
  · rw [if_pos q]; decide
  · rw [if_neg q]
    by_cases q : a = b
    · rw [if_pos q]
      by_cases q : 0 ≤ n
      · rw [if_pos q]
        by_cases q : 0 ≤ i.toInt ∧ i.toInt + n.toInt ≤ l
        · rw [if_pos q]; decide
        · rw [if_neg q]; decide
      · rw [if_neg q]; decide
    · rw [if_neg q]; decide
theorem bar_neg : ∀ w, w ≤ 4 → w ≠ 0 → ¬ (0 : Int32) ≤ -10 - nI w := by decide +kernel
theorem rgF_0 {l : Nat} {a b i n : Int32} (h : rgF 1 l a b i n = 0) : a = b ∧ 0 ≤ n.toInt ∧ 0 ≤ i.toInt ∧ i.toInt + n.toInt ≤ l := by
  unfold rgF at h
  rw [if_neg (show ¬ (1 : Nat) = 0 by decide)] at h
  by_cases q1 : a = b
  · rw [if_pos q1] at h
    by_cases q2 : 0 ≤ n
    · rw [if_pos q2] at h
      by_cases q3 : 0 ≤ i.toInt ∧ i.toInt + n.toInt ≤ l
      · exact ⟨q1, Int32.le_iff_toInt_le.mp q2, q3.1, q3.2⟩
      · rw [if_neg q3] at h; cases h
    · rw [if_neg q2] at h; cases h
  · rw [if_neg q1] at h; cases h
theorem names_loop {σ σm : Sg} {n t i0 l : Nat} (hn : n ≤ 8) (h1 : σ 2 1 = nI n) (hM : σm 0 1 = nI n) (ht : t < 4) (hl : l ≤ 60) (h3 : σ (24 + t) 3 = nI l) (hc : ∀ i, i < l → σ (28 + t) i = σm 19 (60 * t + i)) (hi : i0 + n ≤ l) : ∀ (d N M k : Nat), d < N → d < M → k + d = n → (l_X9_namesThings_2 σ t (nI i0) N (nI k) = some 1 ∧ l_X10_roster_93 σm (nI n) (nI (60 * t + i0)) M (nI k) = (f_X10_goTo σm 0).bind fun σ3 => l_X10_roster_152 σ3 (nI n) (nI (60 * t + i0)) fu 0) ∨ (l_X9_namesThings_2 σ t (nI i0) N (nI k) = some 0 ∧ l_X10_roster_93 σm (nI n) (nI (60 * t + i0)) M (nI k) = some (-1, st σm 0 0 0)) := by
  intro d
  induction d with
  | zero =>
    intro N M k hN hM' hk
    obtain ⟨N, rfl⟩ : ∃ M, N = M + 1 := ⟨N - 1, by omega⟩
    obtain ⟨M, rfl⟩ : ∃ K, M = K + 1 := ⟨M - 1, by omega⟩
    left
    refine ⟨?_, ?_⟩
    · show f_X9_namesThings_2 _ σ _ _ _ = _
      unfold f_X9_namesThings_2
      rw [h1, if_pos (nI_le (by omega) (by omega))]
    · show f_X10_roster_93 _ σm _ _ _ = _
      unfold f_X10_roster_93
      rw [if_pos (nI_le (by omega) (by omega))]
  | succ d ih =>
    intro N M k hN hM' hk
    obtain ⟨N, rfl⟩ : ∃ M, N = M + 1 := ⟨N - 1, by omega⟩
    obtain ⟨M, rfl⟩ : ∃ K, M = K + 1 := ⟨M - 1, by omega⟩
    have := ih N M (k + 1) (by omega) (by omega) (by omega)
    have ec := hc (i0 + k) (by omega)
    rw [show 60 * t + (i0 + k) = 60 * t + i0 + k by omega] at ec
    show (f_X9_namesThings_2 _ σ _ _ _ = _ ∧ f_X10_roster_93 _ σm _ _ _ = _) ∨ (f_X9_namesThings_2 _ σ _ _ _ = _ ∧ f_X10_roster_93 _ σm _ _ _ = _)
    unfold f_X9_namesThings_2 f_X10_roster_93 f_X10_refused
    rw [h1, if_neg (nI_ge (show k < n by omega) (by omega)), if_pos ht, nI_add, nI_add, f_cellAt ht hl h3 (by omega), Option.bind_some, if_neg (nI_ge (show k < n by omega) (by omega)), if_pos (vin_k (show 60 * t + i0 + k < 240 by omega) (by decide)), nI_clamp (show 60 * t + i0 + k < 2 ^ 31 by omega), ← ec, nI_1]
    by_cases q : σ (28 + t) (i0 + k) = -9
    · rw [if_pos q, if_pos q]
      exact this
    · rw [if_neg q, if_neg q, f_thingAt h1 hn, f_noThing hM hn, Option.bind_some, Option.bind_some]
      by_cases hv : vin (σ (28 + t) (i0 + k)) n = true
      · rw [if_pos hv, if_pos hv, if_pos rfl]
        exact this
      · rw [if_neg hv, if_neg hv, if_neg (show ¬ (1 : Int32) = 0 by decide)]
        exact Or.inr ⟨rfl, rfl⟩
theorem unlike_loop {σ σm : Sg} {n t i0 l : Nat} {hs : HS} (hn : n ≤ 8) (h1 : σ 2 1 = nI n) (hH : HX σ n hs) (hS : SM σm n hs) (ht : t < 4) (hl : l ≤ 60) (h3 : σ (24 + t) 3 = nI l) (hc : ∀ i, i < l → σ (28 + t) i = σm 19 (60 * t + i)) (hi : i0 + n ≤ l) : ∀ (d N M k : Nat), d < N → d < M → k + d = n → ∃ q, l_X9_firstUnlike_24 σ t (nI i0) N (nI k) = some (q, σ) ∧ l_X10_roster_152 σm (nI n) (nI (60 * t + i0)) M (nI k) = some (q, st σm 0 0 0) := by
  intro d
  induction d with
  | zero =>
    intro N M k hN hM' hk
    obtain ⟨N, rfl⟩ : ∃ M, N = M + 1 := ⟨N - 1, by omega⟩
    obtain ⟨M, rfl⟩ : ∃ K, M = K + 1 := ⟨M - 1, by omega⟩
    refine ⟨-9, ?_, ?_⟩
    · show f_X9_firstUnlike_24 _ σ _ _ _ = _
      unfold f_X9_firstUnlike_24
      rw [h1, if_pos (nI_le (by omega) (by omega))]
    · show f_X10_roster_152 _ σm _ _ _ = _
      unfold f_X10_roster_152 f_X10_refused
      rw [if_pos (nI_le (by omega) (by omega)), Option.bind_some]
  | succ d ih =>
    intro N M k hN hM' hk
    obtain ⟨N, rfl⟩ : ∃ M, N = M + 1 := ⟨N - 1, by omega⟩
    obtain ⟨M, rfl⟩ : ∃ K, M = K + 1 := ⟨M - 1, by omega⟩
    have := ih N M (k + 1) (by omega) (by omega) (by omega)
    have ec := hc (i0 + k) (by omega)
    rw [show 60 * t + (i0 + k) = 60 * t + i0 + k by omega] at ec
    show ∃ q, f_X9_firstUnlike_24 _ σ _ _ _ = _ ∧ f_X10_roster_152 _ σm _ _ _ = _
    unfold f_X9_firstUnlike_24 f_X10_roster_152 f_X10_refused
    rw [h1, if_neg (nI_ge (show k < n by omega) (by omega)), if_pos ht, nI_add, nI_add, f_cellAt ht hl h3 (by omega), Option.bind_some, x_srv hn hH (show k < n by omega), Option.bind_some, if_neg (nI_ge (show k < n by omega) (by omega)), if_pos (vin_k (show k < 8 by omega) (by decide)), if_pos (vin_k (show 60 * t + i0 + k < 240 by omega) (by decide)), nI_clamp (show k < 2 ^ 31 by omega), nI_clamp (show 60 * t + i0 + k < 2 ^ 31 by omega), ← ec, hS k (by omega), nI_1]
    by_cases q : σ (28 + t) (i0 + k) = enc (hs k).1
    · rw [if_pos q, if_pos q.symm]
      exact this
    · rw [if_neg q, if_neg (fun z => q z.symm), Option.bind_some]
      exact ⟨_, rfl, rfl⟩
theorem roster_core {σx σm : Sg} {n v b r t i0 l : Nat} (h : REL1 σx σm n v b r) (h7 : σx 0 7 = 0) (ht : t < 4) (hl : l ≤ 60) (h3 : σx (24 + t) 3 = nI l) (hc : ∀ i, i < l → σx (28 + t) i = σm 19 (60 * t + i)) (hi : i0 + n ≤ l) : ∃ q σx1 σm1, ((f_X9_namesThings σx t (nI i0)).bind fun r14 => if r14 = 0 then some ((-1 : Int32), σx) else (f_X9_firstUnlike σx t (nI i0)).bind fun (r17, σ18) => some (r17, σ18)) = some (q, σx1) ∧ l_X10_roster_93 σm (nI n) (nI (60 * t + i0)) fu 0 = some (q, σm1) ∧ REL σx1 σm1 := by
  have hn := h.1.1
  obtain ⟨TX, TM⟩ := tw h
  have h0 : REL0 σx σm := ⟨n, v, b, r, h⟩
  have hN := names_loop hn h.2.1.1 h.2.1.2 ht hl h3 hc hi n fu fu 0 (by unfold fu; omega) (by unfold fu; omega) (by omega)
  rw [nI_0] at hN
  unfold f_X9_namesThings
  rcases hN with ⟨e1, e2⟩ | ⟨e1, e2⟩
  · rw [e1, e2, Option.bind_some, if_neg (show ¬ (1 : Int32) = 0 by decide)]
    obtain ⟨σ3, g1, g2, g3⟩ := m_upto h (hh := 0) (by decide)
    obtain ⟨σ4, k1, k2, k3⟩ := x_zero h.1.2.2.1 (bkS σm (nI 0) b) TX
    have k3' : HX σ4 n (HHS v n (dO σm) (fun t => σx (4 + t) 5) (σm 4) (fun k => bkS σm (nI k) b) (0 + 1)) := k3
    obtain ⟨q, u1, u2⟩ := unlike_loop (σ := σ4) (σm := σ3) (l := l) hn (TX.fh k2).2.1 k3' g3 ht hl (by rw [k2 (24 + t) (by omega) (by omega) (by omega)]; exact h3) (fun i hi' => by rw [k2 (28 + t) (by omega) (by omega) (by omega), g2 19 (by decide) (by decide) (by decide)]; exact hc i hi') hi n fu fu 0 (by unfold fu; omega) (by unfold fu; omega) (by omega)
    rw [nI_0] at g1 u1 u2
    have g1' := g1
    unfold f_X9_firstUnlike
    have eb := x_brk h (x := nI 0)
    rw [nI_0] at eb k1
    rw [eb, Option.bind_some, h.2.2.1.1, k1, Option.bind_some, u1, g1, Option.bind_some, Option.bind_some, u2]
    refine ⟨_, _, _, rfl, rfl, ⟨h0.fr k2.fx (g2.fm.tr (FM.st0 (Or.inl rfl))), ?_⟩⟩
    rw [k2 0 (by decide) (by decide) (by decide), h7, st_s]
  · rw [e1, e2, Option.bind_some, if_pos rfl]
    exact ⟨_, _, _, rfl, rfl, ⟨h0.fr FX.rf (FM.st0 (Or.inl rfl)), by rw [h7, st_s]⟩⟩
theorem sim_roster {σx σm : Sg} (h : REL σx σm) (a1 : Int32) (a2 : Int32) (a3 : Int32) (a4 : Int32) : ∃ r σx1 σm1, f_X9_roster σx a1 a2 a3 a4 = some (r, σx1) ∧ f_X10_roster σm a1 a2 a3 a4 = some (r, σm1) ∧ REL σx1 σm1 := by
  obtain ⟨⟨n, v, b, r, h⟩, hf⟩ := h
  have hn := h.1.1
  have h0 : REL0 σx σm := ⟨n, v, b, r, h⟩
  have hX := h.fr (FX.st (σ := σx) (o := 0) (k := 7) (v := 0) (Or.inl rfl)) (FM.rf (σ := σm))
  have out : ∀ x : Int32, ∃ q σx1 σm1, some (x, st σx 0 7 0) = some (q, σx1) ∧ some (x, st σm 0 0 0) = some (q, σm1) ∧ REL σx1 σm1 := fun x => ⟨_, _, _, rfl, rfl, REL.flt h0 0⟩
  unfold f_X9_roster f_X10_roster f_X10_refused f_X9_cameTo
  rw [f_sheetAt, f_noSheet, f_beyond, f_in32 σm a2 0 2 (a := 0) (b := 2) rfl rfl]
  by_cases hv : vin a1 4 = true
  · obtain ⟨t, ht, rfl⟩ := vin_of hv (by omega)
    rw [if_pos hv, if_pos hv, Option.bind_some, Option.bind_some, if_pos rfl, nI_clamp (show t < 2 ^ 31 by omega)]
    dsimp only
    by_cases h2 : 0 ≤ a2 ∧ a2 ≤ (2 : Int32)
    · rw [if_pos h2, if_pos h2, Option.bind_some, Option.bind_some, if_pos rfl, if_neg (show ¬ (1 : Int32) = 0 by decide), hX.2.1.1, h.2.1.2]
      by_cases z : nI n = 0
      · rw [if_pos z, if_pos z, Option.bind_some]
        exact out _
      · rw [if_neg z, if_neg z, if_pos ht]
        rcases hX.2.2.2.2.2.2.2.2.2 t ht with q | ⟨q1, l, q2, q3, q4, q5, q6⟩
        · rw [f_rangeX0 ht q.1, f_barred0 ht q.2, Option.bind_some, Option.bind_some, if_neg (show ¬ nI 1 = 0 by decide), Option.bind_some]
          dsimp only
          rw [if_neg (show ¬ (0 : Int32) ≤ -10 - nI 1 by decide)]
          exact ⟨_, _, _, rfl, rfl, REL.flt2 h0 0 _⟩
        · rw [f_rangeX ht q2 q1 q4, f_barred1 ht q2 q3, q5, Option.bind_some]
          by_cases w0 : rgF 1 l (σm 18 t) a2 a3 a4 = 0
          · obtain ⟨e1, e2, e3, e4⟩ := rgF_0 w0
            rw [w0, if_pos (show nI 0 = 0 from rfl), if_pos rfl, Option.bind_some]
            dsimp only
            rw [if_pos (show (0 : Int32) ≤ 0 by decide)]
            by_cases hn4 : a4 = nI n
            · rw [if_pos hn4, if_pos (show a4 = σm 0 1 from hn4.trans h.2.1.2.symm)]
              rw [hn4, nI_toInt (show n < 2 ^ 31 by omega)] at e4
              obtain ⟨i0, hi0, rfl⟩ := rng_ti (x := a3) (y := l) (by omega) e3 (by omega)
              rw [nI_toInt (show i0 < 2 ^ 31 by omega)] at e4
              rw [hn4, sh_ix]
              exact roster_core hX st_s ht q2 q4 q6 (by omega)
            · rw [if_neg hn4, if_neg (show ¬ a4 = σm 0 1 from fun z => hn4 (z.trans h.2.1.2)), Option.bind_some]
              exact out _
          · rw [if_neg (show ¬ nI (rgF 1 l (σm 18 t) a2 a3 a4) = 0 from ne_of (c := 0) w0 (Nat.lt_of_le_of_lt rgF_4 (by decide)) (by decide)), if_neg w0, Option.bind_some, Option.bind_some]
            dsimp only
            rw [if_neg (bar_neg _ rgF_4 w0)]
            exact ⟨_, _, _, rfl, rfl, REL.flt2 h0 0 _⟩
    · rw [if_neg h2, if_neg h2, Option.bind_some, Option.bind_some, if_neg (show ¬ (1 : Int32) = 0 by decide), if_pos rfl, Option.bind_some]
      exact out _
  · rw [if_neg hv, if_neg hv, Option.bind_some, Option.bind_some, if_neg (show ¬ (1 : Int32) = 0 by decide), Option.bind_some]
    exact out _

/-! ===== a town settled ===== -/
def gd (k b : Int32) : Int32 := if k = 0 then b else if k = 1 then b + 1 else 2 * (b + 1)
theorem gd_x (σ : Sg) (x b : Int32) : f_X6_goodOf σ (kdv x) b = some (gd (kdv x) b) := by
  unfold f_X6_goodOf gd
  rcases kdv_3 x with z | z | z
  · rw [z]; rfl
  · rw [z]; rfl
  · rw [z]; rfl
def FLD (c : Nat → Int32) (σ : Sg) (u : Nat) : Prop := σ (4 + u) 1 = kdv (c (2 + 5 * u)) ∧ σ (4 + u) 2 = c (3 + 5 * u) - 48 ∧ σ (4 + u) 3 = c (4 + 5 * u) - 48 ∧ σ (4 + u) 4 = c (5 + 5 * u) - 48 ∧ σ (4 + u) 5 = gd (kdv (c (2 + 5 * u))) (c (4 + 5 * u) - 48)
theorem become {σ : Sg} {k : Nat} (hk : k < 8) (x x2 x3 x4 : Int32) : ∃ σ', f_X6_become σ k (kdv x) x2 x3 x4 = some σ' ∧ (∀ o, o ≠ 4 + k → σ' o = σ o) ∧ σ' (4 + k) 1 = kdv x ∧ σ' (4 + k) 2 = x2 ∧ σ' (4 + k) 3 = x3 ∧ σ' (4 + k) 4 = x4 ∧ σ' (4 + k) 5 = gd (kdv x) x3 := by
  unfold f_X6_become
  rw [if_pos hk, gd_x, Option.bind_some]
  refine ⟨_, rfl, fun o ho => by rw [st_o ho, st_o ho, st_o ho, st_o ho, st_o ho], ?_, ?_, ?_, ?_, st_s⟩
  · rw [st_k (by decide), st_k (by decide), st_k (by decide), st_k (by decide), st_s]
  · rw [st_k (by decide), st_k (by decide), st_k (by decide), st_s]
  · rw [st_k (by decide), st_k (by decide), st_s]
  · rw [st_k (by decide), st_s]
theorem TXT.up {σx σx' σm : Sg} {t i0 L : Nat} {c : Nat → Int32} (T : TXT σx σm t i0 L c) (h1 : σx' (24 + t) = σx (24 + t)) (h2 : σx' (28 + t) = σx (28 + t)) : TXT σx' σm t i0 L c := by
  obtain ⟨ht, hL, ⟨l, hl, h3, hi⟩, hx, hm⟩ := T
  exact ⟨ht, hL, ⟨l, hl, by rw [h1]; exact h3, hi⟩, fun p hp => by rw [h2]; exact hx p hp, hm⟩
theorem settle_loop {σm : Sg} {t i0 m : Nat} {c : Nat → Int32} (hm : m ≤ 8) (hO : ∀ u, u < m → OKT c u) : ∀ (d N k : Nat) (σ : Sg), d < N → k + d = m → σ 2 1 = nI m → TXT σ σm t i0 (1 + 5 * m) c → ∃ σ', l_X7_settle_18 t (nI i0) N (nI k) σ = some σ' ∧ (∀ o, o < 4 ∨ 12 ≤ o → σ' o = σ o) ∧ (∀ u, u < k → σ' (4 + u) = σ (4 + u)) ∧ ∀ u, k ≤ u → u < m → FLD c σ' u := by
  intro d
  induction d with
  | zero =>
    intro N k σ hN hk h1 T
    obtain ⟨N, rfl⟩ : ∃ K, N = K + 1 := ⟨N - 1, by omega⟩
    refine ⟨σ, ?_, fun _ _ => rfl, fun _ _ => rfl, fun u a b => by omega⟩
    show f_X7_settle_18 _ σ _ _ _ = _
    unfold f_X7_settle_18
    rw [h1, if_pos (nI_le (by omega) (by omega))]
  | succ d ih =>
    intro N k σ hN hk h1 T
    obtain ⟨N, rfl⟩ : ∃ K, N = K + 1 := ⟨N - 1, by omega⟩
    have hkm : k < m := by omega
    have ht := T.1
    have pl : ∀ a, a < 5 → (1 : Int32) + 5 * nI k + nI a = nI (1 + 5 * k + a) := fun a ha => pl5 k a (by omega)
    obtain ⟨σ1, b1, b2, b3, b4, b5, b6, b7⟩ := become (σ := σ) (k := k) (by omega) (c (2 + 5 * k)) (c (3 + 5 * k) - 48) (c (4 + 5 * k) - 48) (c (5 + 5 * k) - 48)
    obtain ⟨σ', e1, e2, e3, e4⟩ := ih N (k + 1) σ1 (by omega) (by omega) (by rw [b2 2 (by omega)]; exact h1) (T.up (b2 _ (by omega)) (b2 _ (by omega)))
    refine ⟨σ', ?_, fun o ho => (e2 o ho).trans (b2 o (by omega)), fun u hu => (e3 u (by omega)).trans (b2 _ (by omega)), fun u a b => ?_⟩
    · show f_X7_settle_18 _ σ _ _ _ = _
      unfold f_X7_settle_18 f_X5_placeOf
      rw [h1, if_neg (nI_ge hkm (by omega)), xth h1 hm hkm, Option.bind_some]
      dsimp only
      have c1 : (1 : Int32) + 5 * nI k + 1 = nI (2 + 5 * k) := (pl 1 (by decide)).trans (by rw [show 1 + 5 * k + 1 = 2 + 5 * k by omega])
      have c2 : (1 : Int32) + 5 * nI k + 2 = nI (3 + 5 * k) := (pl 2 (by decide)).trans (by rw [show 1 + 5 * k + 2 = 3 + 5 * k by omega])
      have c3 : (1 : Int32) + 5 * nI k + 3 = nI (4 + 5 * k) := (pl 3 (by decide)).trans (by rw [show 1 + 5 * k + 3 = 4 + 5 * k by omega])
      have c4 : (1 : Int32) + 5 * nI k + 4 = nI (5 + 5 * k) := (pl 4 (by decide)).trans (by rw [show 1 + 5 * k + 4 = 5 + 5 * k by omega])
      rw [c1, c2, c3, c4, Option.bind_some, if_pos ht, T.cx (by omega), Option.bind_some, (kd_by σ _).1 (hO k hkm).1, Option.bind_some, Option.bind_some, T.cx (by omega), Option.bind_some, Option.bind_some, T.cx (by omega), Option.bind_some, Option.bind_some, T.cx (by omega), Option.bind_some, if_pos (show k < 8 by omega), b1, Option.bind_some, nI_1]
      exact e1
    · by_cases z : u = k
      · subst z
        unfold FLD
        rw [e3 u (by omega)]
        exact ⟨b3, b4, b5, b6, b7⟩
      · exact e4 u (by omega) b
def CPY (c : Nat → Int32) (σ : Sg) (u : Nat) : Prop := σ 1 u = kdv (c (2 + 5 * u)) ∧ σ 2 u = c (3 + 5 * u) - 48 ∧ σ 3 u = c (4 + 5 * u) - 48 ∧ σ 4 u = c (5 + 5 * u) - 48
theorem copy_loop {m : Nat} {c : Nat → Int32} (hm : m ≤ 8) : ∀ (d N k : Nat) (σ : Sg), d < N → k + d = m → σ 0 1 = nI m → (∀ u, u < m → STO c σ u) → (∀ u, u < k → CPY c σ u) → ∃ σ', l_X10_town_90 N (nI k) σ = some (nI m, σ') ∧ (∀ o, o ≠ 0 → o ≠ 1 → o ≠ 2 → o ≠ 3 → o ≠ 4 → σ' o = σ o) ∧ (∀ k, k ≠ 0 → k ≠ 6 → k ≠ 13 → k ≠ 21 → σ' 0 k = σ 0 k) ∧ σ' 0 0 = 0 ∧ σ' 0 6 = 0 ∧ σ' 0 13 = 0 ∧ σ' 0 21 = 0 ∧ ∀ u, u < m → CPY c σ' u := by
  intro d
  induction d with
  | zero =>
    intro N k σ hN hk h1 hS hC
    obtain ⟨N, rfl⟩ : ∃ K, N = K + 1 := ⟨N - 1, by omega⟩
    have hkm : k = m := by omega
    subst hkm
    refine ⟨st (st (st (st σ 0 6 0) 0 13 0) 0 21 0) 0 0 0, ?_, fun o a1 _ _ _ _ => by rw [st_o a1, st_o a1, st_o a1, st_o a1], fun k a b c d => by rw [st_k a, st_k d, st_k c, st_k b], st_s, ?_, ?_, ?_, fun u hu => ?_⟩
    · show f_X10_town_90 _ σ _ = _
      unfold f_X10_town_90 f_X10_refused
      rw [h1, if_pos (nI_le (by omega) (by omega)), Option.bind_some, st_k (show (1 : Nat) ≠ 21 by decide), st_k (show (1 : Nat) ≠ 13 by decide), st_k (show (1 : Nat) ≠ 6 by decide), h1]
    · rw [st_k (by decide), st_k (by decide), st_k (by decide), st_s]
    · rw [st_k (by decide), st_k (by decide), st_s]
    · rw [st_k (by decide), st_s]
    · obtain ⟨b1, b2, b3, b4⟩ := hC u hu
      have e : ∀ o, o ≠ 0 → (st (st (st (st σ 0 6 0) 0 13 0) 0 21 0) 0 0 0) o = σ o := fun o a1 => by rw [st_o a1, st_o a1, st_o a1, st_o a1]
      unfold CPY
      rw [e 1 (by decide), e 2 (by decide), e 3 (by decide), e 4 (by decide)]
      exact ⟨b1, b2, b3, b4⟩
  | succ d ih =>
    intro N k σ hN hk h1 hS hC
    obtain ⟨N, rfl⟩ : ∃ K, N = K + 1 := ⟨N - 1, by omega⟩
    have hkm : k < m := by omega
    have e0 : f_X10_town_90 (l_X10_town_90 N) σ (nI k) = l_X10_town_90 N (nI (k + 1)) (st (st (st (st σ 1 k (σ 5 k)) 2 k (σ 6 k)) 3 k (σ 7 k)) 4 k (σ 8 k)) := by
      unfold f_X10_town_90
      rw [h1, if_neg (nI_ge hkm (by omega)), if_pos (vin_k (show k < 8 by omega) (by decide)), nI_clamp (show k < 2 ^ 31 by omega), nI_1]
      simp only [st_o (show (6 : Nat) ≠ 1 by decide), st_o (show (7 : Nat) ≠ 1 by decide), st_o (show (7 : Nat) ≠ 2 by decide), st_o (show (8 : Nat) ≠ 1 by decide), st_o (show (8 : Nat) ≠ 2 by decide), st_o (show (8 : Nat) ≠ 3 by decide)]
    have eo : ∀ o, o ≠ 1 → o ≠ 2 → o ≠ 3 → o ≠ 4 → (st (st (st (st σ 1 k (σ 5 k)) 2 k (σ 6 k)) 3 k (σ 7 k)) 4 k (σ 8 k)) o = σ o := fun o a1 a2 a3 a4 => by rw [st_o a4, st_o a3, st_o a2, st_o a1]
    have f1 : (st (st (st (st σ 1 k (σ 5 k)) 2 k (σ 6 k)) 3 k (σ 7 k)) 4 k (σ 8 k)) 1 = st σ 1 k (σ 5 k) 1 := by rw [st_o (by decide), st_o (by decide), st_o (by decide)]
    have f2 : (st (st (st (st σ 1 k (σ 5 k)) 2 k (σ 6 k)) 3 k (σ 7 k)) 4 k (σ 8 k)) 2 = st (st σ 1 k (σ 5 k)) 2 k (σ 6 k) 2 := by rw [st_o (by decide), st_o (by decide)]
    have f3 : (st (st (st (st σ 1 k (σ 5 k)) 2 k (σ 6 k)) 3 k (σ 7 k)) 4 k (σ 8 k)) 3 = st (st (st σ 1 k (σ 5 k)) 2 k (σ 6 k)) 3 k (σ 7 k) 3 := by rw [st_o (by decide)]
    show ∃ σ', f_X10_town_90 (l_X10_town_90 N) σ (nI k) = _ ∧ _
    rw [e0]
    obtain ⟨σ', g1, g2, g3, g4⟩ := ih N (k + 1) (st (st (st (st σ 1 k (σ 5 k)) 2 k (σ 6 k)) 3 k (σ 7 k)) 4 k (σ 8 k)) (by omega) (by omega) (by rw [eo 0 (by decide) (by decide) (by decide) (by decide)]; exact h1) (fun u hu => by
      unfold STO
      rw [eo 5 (by decide) (by decide) (by decide) (by decide), eo 6 (by decide) (by decide) (by decide) (by decide), eo 7 (by decide) (by decide) (by decide) (by decide), eo 8 (by decide) (by decide) (by decide) (by decide)]
      exact hS u hu) (fun u hu => by
      obtain ⟨s1, s2, s3, s4⟩ := hS k hkm
      unfold CPY
      rw [f1, f2, f3]
      by_cases z : u = k
      · subst z
        rw [st_s, st_s, st_s, st_s]
        exact ⟨s1, s2, s3, s4⟩
      · rw [st_k z, st_k z, st_k z, st_k z, st_o (show (2 : Nat) ≠ 1 by decide), st_o (show (3 : Nat) ≠ 2 by decide), st_o (show (3 : Nat) ≠ 1 by decide), st_o (show (4 : Nat) ≠ 3 by decide), st_o (show (4 : Nat) ≠ 2 by decide), st_o (show (4 : Nat) ≠ 1 by decide)]
        exact hC u (by omega))
    refine ⟨σ', g1, fun o a0 a1 a2 a3 a4 => (g2 o a0 a1 a2 a3 a4).trans (eo o a1 a2 a3 a4), fun k' a b c d => (g3 k' a b c d).trans (by rw [eo 0 (by decide) (by decide) (by decide) (by decide)]), g4⟩
theorem town_core {σx σm : Sg} {n v b r t i0 L : Nat} {c : Nat → Int32} (h : REL1 σx σm n v b r) (hx7 : σx 0 7 = 0) (T : TXT σx σm t i0 L c) : ∃ q σx1 σm1, ((f_X5_firstFault σx t (nI i0) (nI L)).bind fun r12 => if r12 = (-9) then (f_X5_thingsIn σx (nI L)).bind fun r15 => (f_X7_settle σx t (nI i0) r15).bind fun σ17 => some ((st (st σ17 12 3 0) 16 2 0) 2 1, st (st σ17 12 3 0) 16 2 0) else some ((-100 : Int32) - r12, σx)) = some (q, σx1) ∧ ((f_X10_readsTown σm (nI (60 * t + i0)) (nI L)).bind fun (r12, σ13) => if r12 = 0 then (some ((-100 : Int32) - (σ13 0 7), st σ13 0 0 0)).bind fun (r16, σ17) => some (r16, σ17) else l_X10_town_90 fu 0 (st σ13 0 1 (σ13 0 8))) = some (q, σm1) ∧ REL σx1 σm1 := by
  have h0 : REL0 σx σm := ⟨n, v, b, r, h⟩
  rcases town_read T with ⟨p, σ1, hp, e1, e2, e3, e4⟩ | ⟨m, σ1, m2, m8, eL, hS, e1, e2, e3, e4⟩
  · rw [e4, e1, Option.bind_some, Option.bind_some]
    dsimp only
    rw [if_neg (show ¬ nI p = -9 from fun z => n0 p (by omega) (by rw [z]; decide)), if_pos rfl, Option.bind_some, e3]
    exact ⟨(-100 : Int32) - nI p, σx, st σ1 0 0 0, rfl, rfl, ⟨h0.fr FX.rf (e2.fm.tr (FM.st0 (Or.inl rfl))), by rw [hx7, st_s]⟩⟩
  · subst eL
    rw [e4, e1, Option.bind_some, Option.bind_some, if_pos rfl]
    dsimp only
    rw [if_neg (show ¬ (1 : Int32) = 0 by decide)]
    unfold f_X5_thingsIn f_X7_settle
    have em := (par (1 + 5 * m) (by omega) (by omega)).1
    rw [show (1 + 5 * m - 1) / 5 = m by omega] at em
    rw [em, Option.bind_some, if_neg (show ¬ (8 : Int32) < nI m from nI_nlt (show m ≤ 8 by omega) (by decide))]
    have T1 : TXT (st (st σx 2 1 (nI m)) 2 2 0) σm t i0 (1 + 5 * m) c := T.up (by rw [st_o (by omega), st_o (by omega)]) (by rw [st_o (by omega), st_o (by omega)])
    obtain ⟨σ2, g1, g2, -, g4⟩ := settle_loop m8 (fun u hu => (hS u hu).2.1) m fu 0 (st (st σx 2 1 (nI m)) 2 2 0) (by unfold fu; omega) (by omega) (by rw [st_k (by decide), st_s]) T1
    obtain ⟨σ3, k1, k2, k3, k4, k5, k6, k7, k8⟩ := copy_loop (c := c) m8 m fu 0 (st σ1 0 1 (σ1 0 8)) (by unfold fu; omega) (by omega) (by rw [st_s]; exact e3) (fun u hu => by
      unfold STO
      rw [st_o (by decide), st_o (by decide), st_o (by decide), st_o (by decide)]
      exact (hS u hu).1) (fun u hu => absurd hu (Nat.not_lt_zero u))
    rw [nI_0] at g1 k1
    rw [g1, Option.bind_some, k1]
    have x2 : ∀ k, (st (st σ2 12 3 0) 16 2 0) 2 k = (st (st σx 2 1 (nI m)) 2 2 0) 2 k := fun k => by rw [st_o (by decide), st_o (by decide), g2 2 (by decide)]
    have xo : ∀ o, 12 ≤ o → o ≠ 12 → o ≠ 16 → (st (st σ2 12 3 0) 16 2 0) o = σx o := fun o a1 a2 a3 => by rw [st_o a3, st_o a2, g2 o (by omega), st_o (by omega), st_o (by omega)]
    have x0 : (st (st σ2 12 3 0) 16 2 0) 0 = σx 0 := by rw [st_o (by decide), st_o (by decide), g2 0 (by decide), st_o (by decide), st_o (by decide)]
    have xt : ∀ u, u < m → (st (st σ2 12 3 0) 16 2 0) (4 + u) = σ2 (4 + u) := fun u hu => by rw [st_o (by omega), st_o (by omega)]
    have mo : ∀ o, 9 ≤ o → σ3 o = σm o := fun o a => by rw [k2 o (by omega) (by omega) (by omega) (by omega) (by omega), st_o (by omega), e2.1 o (by omega) (by omega) (by omega) (by omega) (by omega)]
    have m28 : σ3 0 28 = σm 0 28 := by rw [k3 28 (by decide) (by decide) (by decide) (by decide), st_k (by decide), e2.2 28 (by decide) (by decide)]
    have m1 : σ3 0 1 = nI m := by rw [k3 1 (by decide) (by decide) (by decide) (by decide), st_s]; exact e3
    refine ⟨nI m, st (st σ2 12 3 0) 16 2 0, σ3, ?_, rfl, ⟨⟨m, 0, 0, 0, ?_⟩, ?_⟩⟩
    · rw [x2, st_k (by decide), st_s]
    · refine ⟨⟨m8, by omega, by decide, by decide, by decide⟩, ⟨by rw [x2, st_k (by decide), st_s], m1⟩, ⟨by rw [x2, st_s]; rfl, k5⟩, ⟨by rw [st_o (by decide), st_s]; rfl, k6⟩, ⟨by rw [st_s]; rfl, k7⟩, ?_, fun u hu => ?_, fun k hk => absurd hk (Nat.not_lt_zero k), fun k hk => absurd hk (Nat.not_lt_zero k), fun u hu => ?_⟩
      · rw [xo 23 (by decide) (by decide) (by decide), m28]; exact h.2.2.2.2.2.1
      · obtain ⟨a1, a2, a3, a4, a5⟩ := g4 u (Nat.zero_le u) hu
        obtain ⟨b1, b2, b3, b4⟩ := k8 u hu
        obtain ⟨-, hO, hlt⟩ := hS u hu
        obtain ⟨w, hw, ew⟩ := p07_n hO.2.1
        unfold THG
        rw [xt u hu, a1, a2, a3, a4, a5, b1, b2, b3, b4]
        refine ⟨rfl, rfl, ⟨w, ?_, ew⟩, rfl, rfl, kdv_3 _, rfl⟩
        rw [ew] at hlt
        rw [Int32.lt_iff_toInt_lt, nI_toInt (show w < 2 ^ 31 by omega), nI_toInt (show m < 2 ^ 31 by omega)] at hlt
        omega
      · have hsh := h.2.2.2.2.2.2.2.2.2 u hu
        unfold SHT at *
        rw [xo (24 + u) (by omega) (by omega) (by omega), xo (28 + u) (by omega) (by omega) (by omega), mo 17 (by decide), mo 18 (by decide), mo 19 (by decide)]
        exact hsh
    · rw [x0, hx7, k4]
theorem sim_town {σx σm : Sg} (h : REL σx σm) (a1 : Int32) (a2 : Int32) (a3 : Int32) (a4 : Int32) : ∃ r σx1 σm1, f_X9_town σx a1 a2 a3 a4 = some (r, σx1) ∧ f_X10_town σm a1 a2 a3 a4 = some (r, σm1) ∧ REL σx1 σm1 := by
  obtain ⟨⟨n, v, b, r, h⟩, hf⟩ := h
  have hn := h.1.1
  have h0 : REL0 σx σm := ⟨n, v, b, r, h⟩
  have hX := h.fr (FX.st (σ := σx) (o := 0) (k := 7) (v := 0) (Or.inl rfl)) (FM.rf (σ := σm))
  have out : ∀ x : Int32, ∃ q σx1 σm1, some (x, st σx 0 7 0) = some (q, σx1) ∧ some (x, st σm 0 0 0) = some (q, σm1) ∧ REL σx1 σm1 := fun x => ⟨_, _, _, rfl, rfl, REL.flt h0 0⟩
  unfold f_X9_town f_X10_town f_X10_refused f_X9_cameTo
  rw [f_sheetAt, f_noSheet, f_beyond, f_in32 σm a2 0 2 (a := 0) (b := 2) rfl rfl]
  by_cases hv : vin a1 4 = true
  · obtain ⟨t, ht, rfl⟩ := vin_of hv (by omega)
    rw [if_pos hv, if_pos hv, Option.bind_some, Option.bind_some, if_pos rfl, nI_clamp (show t < 2 ^ 31 by omega)]
    dsimp only
    by_cases h2 : 0 ≤ a2 ∧ a2 ≤ (2 : Int32)
    · rw [if_pos h2, if_pos h2, Option.bind_some, Option.bind_some, if_pos rfl, if_neg (show ¬ (1 : Int32) = 0 by decide), if_pos ht]
      rcases hX.2.2.2.2.2.2.2.2.2 t ht with q | ⟨q1, l, q2, q3, q4, q5, q6⟩
      · rw [f_rangeX0 ht q.1, f_barred0 ht q.2, Option.bind_some, Option.bind_some, if_neg (show ¬ nI 1 = 0 by decide), Option.bind_some]
        dsimp only
        rw [if_neg (show ¬ (0 : Int32) ≤ -10 - nI 1 by decide)]
        exact ⟨_, _, _, rfl, rfl, REL.flt2 h0 0 _⟩
      · rw [f_rangeX ht q2 q1 q4, f_barred1 ht q2 q3, q5, Option.bind_some]
        by_cases w0 : rgF 1 l (σm 18 t) a2 a3 a4 = 0
        · obtain ⟨e1, e2, e3, e4⟩ := rgF_0 w0
          rw [w0, if_pos (show nI 0 = 0 from rfl), if_pos rfl, Option.bind_some]
          dsimp only
          rw [if_pos (show (0 : Int32) ≤ 0 by decide)]
          obtain ⟨i0, hi0, rfl⟩ := rng_ti (x := a3) (y := l) (by omega) e3 (by omega)
          obtain ⟨L, hL, rfl⟩ := rng_ti (x := a4) (y := l) (by omega) e2 (by omega)
          rw [nI_toInt (show i0 < 2 ^ 31 by omega), nI_toInt (show L < 2 ^ 31 by omega)] at e4
          rw [sh_ix]
          have T : TXT (st σx 0 7 0) σm t i0 L (fun p => σm 19 (60 * t + i0 + p)) := ⟨ht, by omega, ⟨l, q2, q4, by omega⟩, fun p hp => by rw [q6 (i0 + p) (by omega), show 60 * t + (i0 + p) = 60 * t + i0 + p by omega], fun p hp => rfl⟩
          exact town_core hX st_s T
        · rw [if_neg (show ¬ nI (rgF 1 l (σm 18 t) a2 a3 a4) = 0 from ne_of (c := 0) w0 (Nat.lt_of_le_of_lt rgF_4 (by decide)) (by decide)), if_neg w0, Option.bind_some, Option.bind_some]
          dsimp only
          rw [if_neg (bar_neg _ rgF_4 w0)]
          exact ⟨_, _, _, rfl, rfl, REL.flt2 h0 0 _⟩
    · rw [if_neg h2, if_neg h2, Option.bind_some, Option.bind_some, if_neg (show ¬ (1 : Int32) = 0 by decide), if_pos rfl, Option.bind_some]
      exact out _
  · rw [if_neg hv, if_neg hv, Option.bind_some, Option.bind_some, if_neg (show ¬ (1 : Int32) = 0 by decide), Option.bind_some]
    exact out _

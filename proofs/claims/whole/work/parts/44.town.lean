/-! ===== a town ===== -/
theorem pl5 (k a : Nat) (ha : a < 2 ^ 31) : (1 : Int32) + 5 * nI k + nI a = nI (1 + 5 * k + a) := by rw [show (5 : Int32) * nI k = nI (5 * k) from pk_mul 5 k, show (1 : Int32) = nI 1 from rfl, nI_add, nI_add]
theorem z78 (σ : Sg) : l_X10_readsTown_78 fu 0 0 σ = some (0, σ) := by
  obtain ⟨M, hM⟩ : ∃ M, fu = M + 1 := ⟨1023, rfl⟩
  rw [hM]
  show f_X10_readsTown_78 _ σ 0 0 = _
  unfold f_X10_readsTown_78
  by_cases q : σ 0 8 ≤ 0
  · rw [if_pos q, if_pos (Or.inl rfl)]
  · rw [if_neg q, if_pos rfl, if_pos (Or.inl rfl)]
theorem t78 {σx σm : Sg} {t i0 m : Nat} {c : Nat → Int32} (T : TXT σx σm t i0 (1 + 5 * m) c) (hm : m ≤ 8) : ∀ (d N M k : Nat) (σ : Sg), d < N → d + 1 < M → k + d = m → σ 0 8 = nI m → (∀ u, u < m → σ 6 u = c (3 + 5 * u) - 48) → (∃ p σ', l_X5_firstStranger_2 σx t (nI i0) (nI m) N (nI k) = some (nI p) ∧ p ≤ 60 ∧ l_X10_readsTown_78 M 1 (nI k) σ = some (0, σ') ∧ RH σ σ' ∧ σ' 0 7 = nI p) ∨ (l_X5_firstStranger_2 σx t (nI i0) (nI m) N (nI k) = some (-9) ∧ ∃ σ', l_X10_readsTown_78 M 1 (nI k) σ = some (1, σ') ∧ RH σ σ' ∧ ∀ u, k ≤ u → u < m → c (3 + 5 * u) - 48 < nI m) := by
  intro d
  induction d with
  | zero =>
    intro N M k σ hN hM hk h8 h6
    obtain ⟨N, rfl⟩ : ∃ K, N = K + 1 := ⟨N - 1, by omega⟩
    obtain ⟨M, rfl⟩ : ∃ K, M = K + 1 := ⟨M - 1, by omega⟩
    right
    refine ⟨?_, σ, ?_, ⟨fun _ _ => rfl, fun _ _ => rfl⟩, fun u a b => by omega⟩
    · show f_X5_firstStranger_2 _ σx _ _ _ _ = _
      unfold f_X5_firstStranger_2
      rw [if_pos (nI_le (by omega) (by omega))]
    · show f_X10_readsTown_78 _ σ _ _ = _
      unfold f_X10_readsTown_78
      rw [h8, if_pos (nI_le (by omega) (by omega)), if_pos (Or.inr rfl)]
  | succ d ih =>
    intro N M k σ hN hM hk h8 h6
    obtain ⟨N, rfl⟩ : ∃ K, N = K + 1 := ⟨N - 1, by omega⟩
    obtain ⟨M, rfl⟩ : ∃ K, M = K + 1 := ⟨M - 1, by omega⟩
    have hkm : k < m := by omega
    have cl : l_X5_firstStranger_2 σx t (nI i0) (nI m) (N + 1) (nI k) = if c (3 + 5 * k) - 48 < nI m then l_X5_firstStranger_2 σx t (nI i0) (nI m) N (nI (k + 1)) else some (nI (3 + 5 * k)) := by
      show f_X5_firstStranger_2 _ σx _ _ _ _ = _
      unfold f_X5_firstStranger_2 f_X5_placeOf
      rw [if_neg (nI_ge hkm (by omega)), Option.bind_some, if_pos T.1, show (1 : Int32) + 5 * nI k + 2 = nI (3 + 5 * k) by rw [show (2 : Int32) = nI 2 from rfl, pl5 k 2 (by decide), show 1 + 5 * k + 2 = 3 + 5 * k by omega], T.cx (by omega), Option.bind_some, nI_1]
    have rf : l_X10_readsTown_78 (M + 1) 1 (nI k) σ = if c (3 + 5 * k) - 48 < nI m then l_X10_readsTown_78 M 1 (nI (k + 1)) (st σ 0 7 (σ 0 7)) else l_X10_readsTown_78 M 0 (nI (k + 1)) (st σ 0 7 (nI (3 + 5 * k))) := by
      show f_X10_readsTown_78 _ σ _ _ = _
      unfold f_X10_readsTown_78 f_X10_readsTown_110 f_X10_readsTown_129
      rw [h8, if_neg (nI_ge hkm (by omega)), if_neg (show ¬ (1 : Int32) = 0 by decide), if_pos (vin_k (show k < 8 by omega) (by decide)), nI_clamp (show k < 2 ^ 31 by omega), h6 k hkm]
      by_cases q : c (3 + 5 * k) - 48 < nI m
      · rw [if_pos q, if_neg (show ¬ nI m ≤ c (3 + 5 * k) - 48 by rw [Int32.le_iff_toInt_le]; rw [Int32.lt_iff_toInt_lt] at q; omega), if_neg (show ¬ (1 : Int32) = 0 by decide), nI_1]
      · rw [if_neg q, if_pos (show nI m ≤ c (3 + 5 * k) - 48 by rw [Int32.le_iff_toInt_le]; rw [Int32.lt_iff_toInt_lt] at q; omega), if_pos rfl, nI_1, show (3 : Int32) + 5 * nI k = nI (3 + 5 * k) by rw [show (5 : Int32) * nI k = nI (5 * k) from pk_mul 5 k, show (3 : Int32) = nI 3 from rfl, nI_add]]
    rw [cl, rf]
    by_cases q : c (3 + 5 * k) - 48 < nI m
    · rw [if_pos q, if_pos q]
      rcases ih N M (k + 1) (st σ 0 7 (σ 0 7)) (by omega) (by omega) (by omega) (by rw [st_k (by decide)]; exact h8) (fun u hu => by rw [st_o (by decide)]; exact h6 u hu) with ⟨p, σ', e1, e2, e3, e4, e5⟩ | ⟨e1, σ', e3, e4, e5⟩
      · exact Or.inl ⟨p, σ', e1, e2, e3, RH.to.tr e4, e5⟩
      · refine Or.inr ⟨e1, σ', e3, RH.to.tr e4, fun u a b => ?_⟩
        by_cases z : u = k
        · rw [z]; exact q
        · exact e5 u (by omega) b
    · rw [if_neg q, if_neg q]
      obtain ⟨M, rfl⟩ : ∃ K, M = K + 1 := ⟨M - 1, by omega⟩
      have hL := T.2.1
      refine Or.inl ⟨3 + 5 * k, st σ 0 7 (nI (3 + 5 * k)), rfl, by omega, ?_, RH.to, st_s⟩
      show f_X10_readsTown_78 _ (st σ 0 7 (nI (3 + 5 * k))) _ _ = _
      unfold f_X10_readsTown_78
      by_cases y : (st σ 0 7 (nI (3 + 5 * k))) 0 8 ≤ nI (k + 1)
      · rw [if_pos y, if_pos (Or.inl rfl)]
      · rw [if_neg y, if_pos rfl, if_pos (Or.inl rfl)]
theorem t45 {σx σm : Sg} {t i0 L : Nat} {c : Nat → Int32} (T : TXT σx σm t i0 L c) : ∀ (d N j : Nat) (σ : Sg), d + 1 < N → j + d = 9 → j ≤ 8 → 1 + 5 * j ≤ L → σ 19 = σm 19 → σ 0 7 = nI (1 + 5 * j) → σ 0 8 = nI j → (∀ u, u < j → STO c σ u ∧ OKT c u) →
    (∃ p σ', p ≤ L ∧ l_X10_readsTown_45 (nI (60 * t + i0)) (nI L) N 1 σ = some (0, σ') ∧ RG σ σ' ∧ σ' 0 7 = nI p ∧ ∀ F, 5 * d + 7 < F → l_X5_firstFault_2 σx t (nI i0) (nI L) F (nI (1 + 5 * j)) = some (nI p)) ∨
    (∃ m σ', 2 ≤ m ∧ m ≤ 8 ∧ L = 1 + 5 * m ∧ (∀ u, u < m → STO c σ' u ∧ OKT c u) ∧ l_X10_readsTown_45 (nI (60 * t + i0)) (nI L) N 1 σ = l_X10_readsTown_78 fu 1 0 σ' ∧ RG σ σ' ∧ σ' 0 8 = nI m ∧ ∀ F, 5 * d + 7 < F → ∃ F', l_X5_firstFault_2 σx t (nI i0) (nI L) F (nI (1 + 5 * j)) = l_X5_firstFault_2 σx t (nI i0) (nI L) (F' + 1) (nI (1 + 5 * m))) := by
  intro d
  induction d with
  | zero => intro N j σ hN hj hj8; omega
  | succ d ih =>
    intro N j σ hN hj hj8 hL0 h19 h7 h8 hS
    obtain ⟨N, rfl⟩ : ∃ K, N = K + 2 := ⟨N - 2, by omega⟩
    have hL := T.2.1
    have e45 : l_X10_readsTown_45 (nI (60 * t + i0)) (nI L) (N + 2) 1 σ = f_X10_readsTown_45 (l_X10_readsTown_45 (nI (60 * t + i0)) (nI L) (N + 1)) σ (nI (60 * t + i0)) (nI L) 1 := rfl
    by_cases hgo : 1 + 5 * j < L ∨ j < 2
    · have e65 : f_X10_readsTown_45 (l_X10_readsTown_45 (nI (60 * t + i0)) (nI L) (N + 1)) σ (nI (60 * t + i0)) (nI L) 1 = f_X10_readsTown_65 (l_X10_readsTown_45 (nI (60 * t + i0)) (nI L) (N + 1)) σ (nI (60 * t + i0)) (nI L) := by
        unfold f_X10_readsTown_45
        rw [if_neg (show ¬ (1 : Int32) = 0 by decide), h8, h7]
        by_cases y : j < 2
        · rw [if_pos (show nI j < 2 from nI_lt (b := 2) y (by omega))]
        · rw [if_neg (show ¬ nI j < 2 from nI_nlt (show 2 ≤ j by omega) (by omega)), if_neg (nI_ge (show 1 + 5 * j < L by omega) (by omega))]
      rw [e45, e65]
      unfold f_X10_readsTown_65
      rcases rt T hj8 hL0 hgo h19 h7 h8 with ⟨p, σ', hp, e1, e2, e3, e4⟩ | ⟨hj', hL1, hO, ⟨σ', e1, e2, e3, e4, e5, e6⟩, e7⟩
      · left
        refine ⟨p, σ', hp, ?_, e2, e3, fun F hF => e4 F (by omega)⟩
        rw [e1, Option.bind_some]
        dsimp only
        show f_X10_readsTown_45 _ σ' _ _ 0 = _
        unfold f_X10_readsTown_45
        rw [if_pos rfl, z78]
      · rw [e1, Option.bind_some]
        dsimp only
        rcases ih (N + 1) (j + 1) σ' (by omega) (by omega) (by omega) hL1 (e2.o19.trans h19) e3 e4 (fun u hu => by
          by_cases z : u = j
          · subst z; exact ⟨e5, hO⟩
          · obtain ⟨a1, a2, a3, a4⟩ := e6 u z
            obtain ⟨⟨b1, b2, b3, b4⟩, b5⟩ := hS u (by omega)
            exact ⟨⟨a1.trans b1, a2.trans b2, a3.trans b3, a4.trans b4⟩, b5⟩) with ⟨p, σ2, hp, g1, g2, g3, g4⟩ | ⟨m, σ2, m2, m8, eL, g0, g1, g2, g3, g4⟩
        · refine Or.inl ⟨p, σ2, hp, g1, e2.tr g2, g3, fun F hF => ?_⟩
          obtain ⟨F, rfl⟩ : ∃ K, F = K + 5 := ⟨F - 5, by omega⟩
          rw [e7 F]
          exact g4 F (by omega)
        · refine Or.inr ⟨m, σ2, m2, m8, eL, g0, g1, e2.tr g2, g3, fun F hF => ?_⟩
          obtain ⟨F, rfl⟩ : ∃ K, F = K + 5 := ⟨F - 5, by omega⟩
          rw [e7 F]
          exact g4 F (by omega)
    · right
      refine ⟨j, σ, by omega, hj8, by omega, hS, ?_, RG.rf, h8, fun F hF => ⟨F - 1, by rw [show F - 1 + 1 = F by omega]⟩⟩
      rw [e45]
      unfold f_X10_readsTown_45
      rw [if_neg (show ¬ (1 : Int32) = 0 by decide), h8, if_neg (show ¬ nI j < 2 from nI_nlt (show 2 ≤ j by omega) (by omega)), h7, if_pos (nI_le (by omega) (by omega))]
theorem town_read {σx σm : Sg} {t i0 L : Nat} {c : Nat → Int32} (T : TXT σx σm t i0 L c) :
    (∃ p σ', p ≤ 60 ∧ f_X10_readsTown σm (nI (60 * t + i0)) (nI L) = some (0, σ') ∧ RG σm σ' ∧ σ' 0 7 = nI p ∧ f_X5_firstFault σx t (nI i0) (nI L) = some (nI p)) ∨
    (∃ m σ', 2 ≤ m ∧ m ≤ 8 ∧ L = 1 + 5 * m ∧ (∀ u, u < m → STO c σ' u ∧ OKT c u ∧ c (3 + 5 * u) - 48 < nI m) ∧ f_X10_readsTown σm (nI (60 * t + i0)) (nI L) = some (1, σ') ∧ RG σm σ' ∧ σ' 0 8 = nI m ∧ f_X5_firstFault σx t (nI i0) (nI L) = some (-9)) := by
  have hL := T.2.1
  obtain ⟨M, hM⟩ : ∃ M, fu = M + 2 := ⟨1022, rfl⟩
  have R0 : RG σm (st (st σm 0 7 0) 0 8 0) := (RG.to (Or.inl rfl)).tr (RG.to (Or.inr rfl))
  have a7 : (st (st σm 0 7 0) 0 8 0) 0 7 = nI 0 := by rw [st_k (by decide), st_s]; rfl
  have a8 : (st (st σm 0 7 0) 0 8 0) 0 8 = nI 0 := st_s
  unfold f_X10_readsTown f_X10_readsTown_26 f_X10_readsTown_41 f_X5_firstFault
  rw [T.cm R0.o19 a7 (Nat.zero_le L), Option.bind_some]
  by_cases k0 : 0 < L ∧ c 0 = 101
  · rw [if_pos k0.1, if_pos k0.2, if_neg (show ¬ (1 : Int32) = 0 by decide), a7, show nI 0 + 1 = nI (1 + 5 * 0) from rfl]
    have R1 : RG σm (st (st (st σm 0 7 0) 0 8 0) 0 7 (nI (1 + 5 * 0))) := R0.tr (RG.to (Or.inl rfl))
    have g0 : l_X5_firstFault_2 σx t (nI i0) (nI L) fu (nI 0) = l_X5_firstFault_2 σx t (nI i0) (nI L) (M + 1) (nI (1 + 5 * 0)) := by
      rw [hM]
      exact cl_go T k0.1 (by rw [goes0, if_pos k0.2]) (M + 1)
    rw [nI_0] at g0
    rcases t45 T 9 fu 0 (st (st (st σm 0 7 0) 0 8 0) 0 7 (nI (1 + 5 * 0))) (by unfold fu; omega) (by omega) (by omega) (by omega) R1.o19 st_s (by rw [st_k (by decide)]; exact a8) (fun u hu => by omega) with ⟨p, σ', hp, g1, g2, g3, g4⟩ | ⟨m, σ', m2, m8, eL, gS, g1, g2, g3, g4⟩
    · refine Or.inl ⟨p, σ', by omega, g1, R1.tr g2, g3, ?_⟩
      rw [g0]
      exact g4 (M + 1) (by unfold fu at hM; omega)
    · obtain ⟨F', eF⟩ := g4 (M + 1) (by unfold fu at hM; omega)
      subst eL
      have hT := t78 T m8 m fu fu 0 σ' (by unfold fu; omega) (by unfold fu; omega) (by omega) g3 (fun u hu => (gS u hu).1.2.1)
      rw [nI_0] at hT
      have ec : l_X5_firstFault_2 σx t (nI i0) (nI (1 + 5 * m)) fu 0 = (f_X5_firstStranger σx t (nI i0) (nI m)).bind fun r5 => some r5 := by rw [g0, eF, cl_end T m2]
      unfold f_X5_firstStranger at ec
      rcases hT with ⟨p, σ2, e1, e2, e3, e4, e5⟩ | ⟨e1, σ2, e3, e4, e5⟩
      · rw [e1, Option.bind_some] at ec
        exact Or.inl ⟨p, σ2, e2, g1.trans e3, (R1.tr g2).tr e4.rg, e5, ec⟩
      · rw [e1, Option.bind_some] at ec
        refine Or.inr ⟨m, σ2, m2, m8, rfl, fun u hu => ?_, g1.trans e3, (R1.tr g2).tr e4.rg, by rw [e4.2 8 (by decide)]; exact g3, ec⟩
        obtain ⟨⟨b1, b2, b3, b4⟩, b5⟩ := gS u hu
        refine ⟨⟨?_, ?_, ?_, ?_⟩, b5, e5 u (Nat.zero_le u) hu⟩
        · rw [e4.1 5 (by decide)]; exact b1
        · rw [e4.1 6 (by decide)]; exact b2
        · rw [e4.1 7 (by decide)]; exact b3
        · rw [e4.1 8 (by decide)]; exact b4
  · have ne : ¬ (if 0 < L then c 0 else -9) = 101 := fun z => by
      by_cases y : 0 < L
      · rw [if_pos y] at z; exact k0 ⟨y, z⟩
      · rw [if_neg y] at z; exact absurd z (by decide)
    rw [if_neg ne, if_pos rfl, a7]
    left
    refine ⟨0, st (st (st σm 0 7 0) 0 8 0) 0 7 (nI 0 + 0), by decide, ?_, R0.tr (RG.to (Or.inl rfl)), by rw [st_s]; rfl, ?_⟩
    · rw [hM]
      show f_X10_readsTown_45 _ _ _ _ 0 = _
      unfold f_X10_readsTown_45
      rw [if_pos rfl, z78]
    · rw [hM]
      exact cl_bad T (p := 0) (Nat.zero_le L) (fun h => by rw [goes0, if_neg (fun z => k0 ⟨h, z⟩)]) (fun h z => absurd h.symm z) (M + 1)

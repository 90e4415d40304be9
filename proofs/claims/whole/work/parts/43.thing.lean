/-! ===== a thing read ===== -/
def RG (σ σ' : Sg) : Prop := (∀ o, o ≠ 0 → o ≠ 5 → o ≠ 6 → o ≠ 7 → o ≠ 8 → σ' o = σ o) ∧ ∀ k, k ≠ 7 → k ≠ 8 → σ' 0 k = σ 0 k
theorem RG.rf {σ : Sg} : RG σ σ := ⟨fun _ _ _ _ _ _ => rfl, fun _ _ _ => rfl⟩
theorem RG.tr {a b c : Sg} (h1 : RG a b) (h2 : RG b c) : RG a c := ⟨fun o a1 a2 a3 a4 a5 => (h2.1 o a1 a2 a3 a4 a5).trans (h1.1 o a1 a2 a3 a4 a5), fun k a b => (h2.2 k a b).trans (h1.2 k a b)⟩
theorem RG.to {σ : Sg} {k : Nat} {v : Int32} (hk : k = 7 ∨ k = 8) : RG σ (st σ 0 k v) := ⟨fun o a1 _ _ _ _ => st_o a1, fun k' a b => st_k (by omega)⟩
theorem RG.to2 {σ : Sg} {o k : Nat} {v : Int32} (ho : o = 5 ∨ o = 6 ∨ o = 7 ∨ o = 8) : RG σ (st σ o k v) := ⟨fun o' a1 a2 a3 a4 a5 => st_o (by omega), fun k' a b => by rw [st_o (by omega)]⟩
theorem RG.fm {σ σ' : Sg} (h : RG σ σ') : FM σ σ' := fun o k a0 b5 b6 b7 b8 _ _ _ _ => by
  by_cases ho : o = 0
  · subst ho; exact h.2 k (a0 rfl).2.1 (a0 rfl).2.2.1
  · rw [h.1 o ho b5 b6 b7 b8]
theorem RG.o19 {σ σ' : Sg} (h : RG σ σ') : σ' 19 = σ 19 := h.1 19 (by decide) (by decide) (by decide) (by decide) (by decide)
theorem r166 {σ : Sg} {j : Nat} (hj : j < 8) (h8 : σ 0 8 = nI j) (x4 x5 x6 s0 : Int32) : f_X10_readsThing_166 σ x4 x5 x6 s0 (nI j) = some (1, st (st (st (st (st σ 5 j s0) 6 j x4) 7 j x5) 8 j x6) 0 8 (nI (j + 1))) := by
  unfold f_X10_readsThing_166
  simp only [st_o (show (0 : Nat) ≠ 5 by decide), st_o (show (0 : Nat) ≠ 6 by decide), st_o (show (0 : Nat) ≠ 7 by decide), st_o (show (0 : Nat) ≠ 8 by decide), h8, if_pos (vin_k hj (show 8 < 2 ^ 31 by decide)), nI_clamp (show j < 2 ^ 31 by omega), nI_1]
theorem fig {σx σm : Sg} {t i0 L : Nat} {c : Nat → Int32} (T : TXT σx σm t i0 L c) {σ : Sg} (h19 : σ 19 = σm 19) {p : Nat} (h7 : σ 0 7 = nI p) (hp : p ≤ L) {lo hi z : Int32} {P : Int32 → Prop} (hP : ∀ x, (lo ≤ x - 48 ∧ x - 48 ≤ hi) ↔ P x) (hm : ¬ P (-9)) : ((p < L ∧ P (c p) ∧ ¬ c p - 48 = z) → f_X10_figure σ (nI (60 * t + i0)) (nI L) lo hi z = some (c p - 48, st σ 0 7 (nI (p + 1)))) ∧ (¬ (p < L ∧ P (c p) ∧ ¬ c p - 48 = z) → f_X10_figure σ (nI (60 * t + i0)) (nI L) lo hi z = some (-9, st σ 0 7 (nI p))) := by
  unfold f_X10_figure f_X10_figure_37 f_X10_figure_54
  rw [T.cm h19 h7 hp, Option.bind_some, f_in32 σ _ lo hi rfl rfl, Option.bind_some, h7]
  have e0 : nI p + 0 = nI p := Int32.add_zero _
  have n1 : ¬ (1 : Int32) = 0 := by decide
  have e1 : nI p + 1 = nI (p + 1) := nI_1 p
  by_cases q : p < L
  · rw [if_pos q]
    by_cases w : P (c p)
    · rw [if_pos ((hP _).mpr w), if_neg n1]
      by_cases y : c p - 48 = z
      · rw [if_pos y, if_pos rfl, if_pos rfl, e0]
        exact ⟨fun k => absurd y k.2.2, fun _ => rfl⟩
      · rw [if_neg y, if_neg n1, if_neg n1, e1]
        exact ⟨fun _ => rfl, fun k => absurd ⟨q, w, y⟩ k⟩
    · rw [if_neg (fun k => w ((hP _).mp k)), if_pos rfl, if_pos rfl, if_pos rfl, e0]
      exact ⟨fun k => absurd k.2.1 w, fun _ => rfl⟩
  · rw [if_neg q, if_neg (fun k => hm ((hP _).mp k)), if_pos rfl, if_pos rfl, if_pos rfl, e0]
    exact ⟨fun k => absurd k.1 q, fun _ => rfl⟩
def RH (σ σ' : Sg) : Prop := (∀ o, o ≠ 0 → σ' o = σ o) ∧ ∀ k, k ≠ 7 → σ' 0 k = σ 0 k
theorem RH.tr {a b c : Sg} (h1 : RH a b) (h2 : RH b c) : RH a c := ⟨fun o a1 => (h2.1 o a1).trans (h1.1 o a1), fun k a => (h2.2 k a).trans (h1.2 k a)⟩
theorem RH.to {σ : Sg} {v : Int32} : RH σ (st σ 0 7 v) := ⟨fun o a1 => st_o a1, fun k' a => st_k a⟩
theorem RH.rg {σ σ' : Sg} (h : RH σ σ') : RG σ σ' := ⟨fun o a _ _ _ _ => h.1 o a, fun k a _ => h.2 k a⟩
def P07 (x : Int32) : Prop := ¬ x < 48 ∧ ¬ 55 < x
def P19 (x : Int32) : Prop := ¬ x < 49 ∧ ¬ 57 < x
theorem p19_9 {x : Int32} (h : P19 x) : ¬ x - 48 = -9 := fun z => by
  have := (dig19 x).mpr h
  rw [z] at this
  exact absurd this.1 (by decide)
theorem p07_n {x : Int32} (h : P07 x) : ∃ w, w < 8 ∧ x - 48 = nI w := by
  obtain ⟨w, hw, e⟩ := rng (y := 7) (by decide) ((dig07 x).mpr h)
  exact ⟨w, by omega, e⟩
theorem p19_0 {x : Int32} (h : P19 x) : 0 ≤ x - 48 := by
  have := ((dig19 x).mpr h).1
  rw [Int32.le_iff_toInt_le] at this ⊢
  have e0 : (0 : Int32).toInt = 0 := rfl
  have e1 : (1 : Int32).toInt = 1 := rfl
  omega
/-- a thing's five places hold -/
def OKT (c : Nat → Int32) (j : Nat) : Prop := KD (c (2 + 5 * j)) ∧ P07 (c (3 + 5 * j)) ∧ ¬ c (3 + 5 * j) - 48 = nI j
def STO (c : Nat → Int32) (σ : Sg) (j : Nat) : Prop := σ 5 j = kdv (c (2 + 5 * j)) ∧ σ 6 j = c (3 + 5 * j) - 48 ∧ σ 7 j = c (4 + 5 * j) - 48 ∧ σ 8 j = c (5 + 5 * j) - 48
theorem f128 {σ : Sg} {j : Nat} (hj : j < 8) (h8 : σ 0 8 = nI j) {x : Int32} (hx : KD x) (x4 x5 : Int32) {x6 : Int32} (h6 : 0 ≤ x6) : f_X10_readsThing_128 σ x x4 x5 x6 = some (1, st (st (st (st (st σ 5 j (kdv x)) 6 j x4) 7 j x5) 8 j x6) 0 8 (nI (j + 1))) := by
  unfold f_X10_readsThing_128 kdv
  rw [if_pos h6, h8]
  by_cases a : x = 116
  · rw [if_pos a, if_pos a, r166 hj h8]
  · rw [if_neg a, if_neg a]
    by_cases b : x = 115
    · rw [if_pos b, if_pos b, r166 hj h8]
    · rw [if_neg b, if_neg b, r166 hj h8]
theorem rt {σx σm : Sg} {t i0 L : Nat} {c : Nat → Int32} (T : TXT σx σm t i0 L c) {σ : Sg} {j : Nat} (hj : j ≤ 8) (hL0 : 1 + 5 * j ≤ L) (hgo : 1 + 5 * j < L ∨ j < 2) (h19 : σ 19 = σm 19) (h7 : σ 0 7 = nI (1 + 5 * j)) (h8 : σ 0 8 = nI j) :
    (∃ p σ', p ≤ L ∧ f_X10_readsThing σ (nI (60 * t + i0)) (nI L) = some (0, σ') ∧ RG σ σ' ∧ σ' 0 7 = nI p ∧ ∀ N, 6 < N → l_X5_firstFault_2 σx t (nI i0) (nI L) N (nI (1 + 5 * j)) = some (nI p)) ∨
    (j < 8 ∧ 1 + 5 * (j + 1) ≤ L ∧ OKT c j ∧ (∃ σ', f_X10_readsThing σ (nI (60 * t + i0)) (nI L) = some (1, σ') ∧ RG σ σ' ∧ σ' 0 7 = nI (1 + 5 * (j + 1)) ∧ σ' 0 8 = nI (j + 1) ∧ STO c σ' j ∧ ∀ u, u ≠ j → σ' 5 u = σ 5 u ∧ σ' 6 u = σ 6 u ∧ σ' 7 u = σ 7 u ∧ σ' 8 u = σ 8 u) ∧ ∀ N, l_X5_firstFault_2 σx t (nI i0) (nI L) (N + 5) (nI (1 + 5 * j)) = l_X5_firstFault_2 σx t (nI i0) (nI L) N (nI (1 + 5 * (j + 1)))) := by
  have hL := T.2.1
  have G := fun q (h : 1 + 5 * j + q < 62) (hq : q < 5) => goes σx (j := j) (q := q) h hq
  have bad : ∀ (q N : Nat), q < 5 → 1 + 5 * j + q ≤ L → (1 + 5 * j + q = L → q ≠ 0 ∨ j < 2) → (1 + 5 * j + q < L → ¬ GC j q (c (1 + 5 * j + q))) → l_X5_firstFault_2 σx t (nI i0) (nI L) (N + 1) (nI (1 + 5 * j + q)) = some (nI (1 + 5 * j + q)) := fun q N hq h1 h2 h3 => cl_bad T h1 (fun h => (G q (by omega) hq _).2 (h3 h)) (fun h _ => by have := h2 h; omega) N
  have go : ∀ (q N : Nat), q < 5 → 1 + 5 * j + q < L → GC j q (c (1 + 5 * j + q)) → l_X5_firstFault_2 σx t (nI i0) (nI L) (N + 1) (nI (1 + 5 * j + q)) = l_X5_firstFault_2 σx t (nI i0) (nI L) N (nI (1 + 5 * j + q + 1)) := fun q N hq h1 h2 => cl_go T h1 ((G q (by omega) hq _).1 h2) N
  unfold f_X10_readsThing
  rw [h8]
  by_cases j8 : j = 8
  · left
    refine ⟨1 + 5 * j, σ, hL0, by rw [if_pos (show nI j = 8 by rw [j8]; rfl)], RG.rf, h7, fun N hN => ?_⟩
    obtain ⟨N, rfl⟩ : ∃ M, N = M + 1 := ⟨N - 1, by omega⟩
    exact bad 0 N (by decide) hL0 (fun h => by omega) (fun _ z => by unfold GC at z; omega)
  rw [if_neg (show ¬ nI j = 8 from ne_of (c := 8) j8 (by omega) (by decide)), T.cm h19 h7 hL0, Option.bind_some]
  by_cases k0 : 1 + 5 * j < L ∧ c (1 + 5 * j) = 59
  case neg =>
    left
    have e : ¬ (if 1 + 5 * j < L then c (1 + 5 * j) else -9) = 59 := fun z => by
      by_cases y : 1 + 5 * j < L
      · rw [if_pos y] at z; exact k0 ⟨y, z⟩
      · rw [if_neg y] at z; exact absurd z (by decide)
    refine ⟨1 + 5 * j, σ, hL0, by rw [if_neg e], RG.rf, h7, fun N hN => ?_⟩
    obtain ⟨N, rfl⟩ : ∃ M, N = M + 1 := ⟨N - 1, by omega⟩
    refine bad 0 N (by decide) hL0 (fun h => by omega) (fun y z => ?_)
    rcases z with z | z | z | z
    · exact k0 ⟨y, z.2.1⟩
    all_goals omega
  have g0 := fun N => go 0 N (by decide) k0.1 (Or.inl ⟨rfl, k0.2, by omega⟩)
  rw [if_pos k0.1, if_pos k0.2, h7, nI_1, T.cm (σ := st σ 0 7 (nI (1 + 5 * j + 1))) (by rw [st_o (by decide)]; exact h19) (p := 1 + 5 * j + 1) st_s (by omega), Option.bind_some]
  have R1 : RH σ (st σ 0 7 (nI (1 + 5 * j + 1))) := RH.to
  by_cases k1 : 1 + 5 * j + 1 < L ∧ KD (c (1 + 5 * j + 1))
  case neg =>
    left
    have e : ¬ KD (if 1 + 5 * j + 1 < L then c (1 + 5 * j + 1) else -9) := fun z => by
      by_cases y : 1 + 5 * j + 1 < L
      · rw [if_pos y] at z; exact k1 ⟨y, z⟩
      · rw [if_neg y] at z; exact absurd z (by unfold KD; decide)
    refine ⟨1 + 5 * j + 1, st σ 0 7 (nI (1 + 5 * j + 1)), by omega, by rw [if_neg (fun z => e (Or.inl z)), if_neg (fun z => e (Or.inr (Or.inl z))), if_neg (fun z => e (Or.inr (Or.inr z)))], R1.rg, st_s, fun N hN => ?_⟩
    obtain ⟨N, rfl⟩ : ∃ M, N = M + 2 := ⟨N - 2, by omega⟩
    refine (g0 (N + 1)).trans (bad 1 N (by decide) (by omega) (fun h => Or.inl (by decide)) (fun y z => ?_))
    rcases z with z | z | z | z
    · omega
    · exact k1 ⟨y, z.2⟩
    all_goals omega
  have g1 := fun N => go 1 N (by decide) k1.1 (Or.inr (Or.inl ⟨rfl, k1.2⟩))
  rw [if_pos k1.1]
  have sel : ∀ (A : Option (Int32 × Sg)) (B : Option (Int32 × Sg)), (if c (1 + 5 * j + 1) = 116 then A else if c (1 + 5 * j + 1) = 115 then A else if c (1 + 5 * j + 1) = 109 then A else B) = A := fun A B => by
    rcases k1.2 with z | z | z
    · rw [if_pos z]
    · rw [if_neg (by rw [z]; decide), if_pos z]
    · rw [if_neg (by rw [z]; decide), if_neg (by rw [z]; decide), if_pos z]
  rw [sel]
  unfold f_X10_readsThing_59
  rw [st_s, nI_1]
  have e8 : (st (st σ 0 7 (nI (1 + 5 * j + 1))) 0 7 (nI (1 + 5 * j + 1 + 1))) 0 8 = nI j := by rw [st_k (by decide), st_k (by decide)]; exact h8
  have e19 : (st (st σ 0 7 (nI (1 + 5 * j + 1))) 0 7 (nI (1 + 5 * j + 1 + 1))) 19 = σm 19 := by rw [st_o (by decide), st_o (by decide)]; exact h19
  rw [e8]
  have R2 : RH σ (st (st σ 0 7 (nI (1 + 5 * j + 1))) 0 7 (nI (1 + 5 * j + 1 + 1))) := R1.tr RH.to
  have e7 : (st (st σ 0 7 (nI (1 + 5 * j + 1))) 0 7 (nI (1 + 5 * j + 1 + 1))) 0 7 = nI (1 + 5 * j + 1 + 1) := st_s
  generalize st (st σ 0 7 (nI (1 + 5 * j + 1))) 0 7 (nI (1 + 5 * j + 1 + 1)) = s2 at e8 e19 R2 e7 ⊢
  have m9 : ¬ (0 : Int32) ≤ -9 := by decide
  obtain ⟨F2, B2⟩ := fig T e19 e7 (by omega) (z := nI j) dig07 (P := P07) (by unfold P07; decide)
  by_cases k2 : 1 + 5 * j + 1 + 1 < L ∧ P07 (c (1 + 5 * j + 1 + 1)) ∧ ¬ c (1 + 5 * j + 1 + 1) - 48 = nI j
  case neg =>
    left
    refine ⟨1 + 5 * j + 2, st s2 0 7 (nI (1 + 5 * j + 1 + 1)), by omega, ?_, (R2.tr RH.to).rg, st_s, fun N hN => ?_⟩
    · rw [B2 k2, Option.bind_some]
      dsimp only
      rw [if_neg m9]
      unfold f_X10_readsThing_105 f_X10_readsThing_128
      rw [if_neg m9, if_neg m9]
    · obtain ⟨N, rfl⟩ : ∃ M, N = M + 3 := ⟨N - 3, by omega⟩
      refine (g0 (N + 2)).trans ((g1 (N + 1)).trans (bad 2 N (by decide) (by omega) (fun h => Or.inl (by decide)) (fun y z => ?_)))
      rcases z with z | z | z | z
      · omega
      · omega
      · exact k2 ⟨y, z.2⟩
      · omega
  have g2 := fun N => go 2 N (by decide) k2.1 (Or.inr (Or.inr (Or.inl ⟨rfl, k2.2⟩)))
  obtain ⟨w, hw, ew⟩ := p07_n k2.2.1
  rw [F2 k2, Option.bind_some]
  dsimp only
  rw [if_pos (show 0 ≤ c (1 + 5 * j + 1 + 1) - 48 by rw [ew]; exact nI_pos' (by omega))]
  have R3 : RH σ (st s2 0 7 (nI (1 + 5 * j + 1 + 1 + 1))) := R2.tr RH.to
  have d8 : (st s2 0 7 (nI (1 + 5 * j + 1 + 1 + 1))) 0 8 = nI j := by rw [st_k (by decide)]; exact e8
  have d19 : (st s2 0 7 (nI (1 + 5 * j + 1 + 1 + 1))) 19 = σm 19 := by rw [st_o (by decide)]; exact e19
  have d7 : (st s2 0 7 (nI (1 + 5 * j + 1 + 1 + 1))) 0 7 = nI (1 + 5 * j + 1 + 1 + 1) := st_s
  generalize st s2 0 7 (nI (1 + 5 * j + 1 + 1 + 1)) = s3 at d8 d19 R3 d7 ⊢
  obtain ⟨F3, B3⟩ := fig T d19 d7 (by omega) (z := -9) dig19 (P := P19) (by unfold P19; decide)
  by_cases k3 : 1 + 5 * j + 1 + 1 + 1 < L ∧ P19 (c (1 + 5 * j + 1 + 1 + 1))
  case neg =>
    left
    refine ⟨1 + 5 * j + 3, st s3 0 7 (nI (1 + 5 * j + 1 + 1 + 1)), by omega, ?_, (R3.tr RH.to).rg, st_s, fun N hN => ?_⟩
    · rw [B3 (fun z => k3 ⟨z.1, z.2.1⟩), Option.bind_some]
      dsimp only
      unfold f_X10_readsThing_105 f_X10_readsThing_128
      rw [if_neg m9, if_neg m9]
    · obtain ⟨N, rfl⟩ : ∃ M, N = M + 4 := ⟨N - 4, by omega⟩
      refine (g0 (N + 3)).trans ((g1 (N + 2)).trans ((g2 (N + 1)).trans (bad 3 N (by decide) (by omega) (fun h => Or.inl (by decide)) (fun y z => ?_))))
      rcases z with z | z | z | z
      · omega
      · omega
      · omega
      · exact k3 ⟨y, z.2⟩
  have g3 := fun N => go 3 N (by decide) k3.1 (Or.inr (Or.inr (Or.inr ⟨by decide, k3.2⟩)))
  rw [F3 ⟨k3.1, k3.2, p19_9 k3.2⟩, Option.bind_some]
  dsimp only
  unfold f_X10_readsThing_105
  rw [if_pos (p19_0 k3.2)]
  have R4 : RH σ (st s3 0 7 (nI (1 + 5 * j + 1 + 1 + 1 + 1))) := R3.tr RH.to
  have c8 : (st s3 0 7 (nI (1 + 5 * j + 1 + 1 + 1 + 1))) 0 8 = nI j := by rw [st_k (by decide)]; exact d8
  have c7 : (st s3 0 7 (nI (1 + 5 * j + 1 + 1 + 1 + 1))) 0 7 = nI (1 + 5 * j + 1 + 1 + 1 + 1) := st_s
  have c19 : (st s3 0 7 (nI (1 + 5 * j + 1 + 1 + 1 + 1))) 19 = σm 19 := by rw [st_o (by decide)]; exact d19
  generalize st s3 0 7 (nI (1 + 5 * j + 1 + 1 + 1 + 1)) = s4 at c8 R4 c7 c19 ⊢
  obtain ⟨F4, B4⟩ := fig T c19 c7 (by omega) (z := -9) dig19 (P := P19) (by unfold P19; decide)
  by_cases k4 : 1 + 5 * j + 1 + 1 + 1 + 1 < L ∧ P19 (c (1 + 5 * j + 1 + 1 + 1 + 1))
  case neg =>
    left
    refine ⟨1 + 5 * j + 4, st s4 0 7 (nI (1 + 5 * j + 1 + 1 + 1 + 1)), by omega, ?_, (R4.tr RH.to).rg, st_s, fun N hN => ?_⟩
    · rw [B4 (fun z => k4 ⟨z.1, z.2.1⟩), Option.bind_some]
      dsimp only
      unfold f_X10_readsThing_128
      rw [if_neg m9]
    · obtain ⟨N, rfl⟩ : ∃ M, N = M + 5 := ⟨N - 5, by omega⟩
      refine (g0 (N + 4)).trans ((g1 (N + 3)).trans ((g2 (N + 2)).trans ((g3 (N + 1)).trans (bad 4 N (by decide) (by omega) (fun h => Or.inl (by decide)) (fun y z => ?_)))))
      rcases z with z | z | z | z
      · omega
      · omega
      · omega
      · exact k4 ⟨y, z.2⟩
  have g4 := fun N => go 4 N (by decide) k4.1 (Or.inr (Or.inr (Or.inr ⟨by decide, k4.2⟩)))
  right
  have a2 : 1 + 5 * j + 1 = 2 + 5 * j := by omega
  have a3 : 1 + 5 * j + 1 + 1 = 3 + 5 * j := by omega
  have a4 : 1 + 5 * j + 1 + 1 + 1 = 4 + 5 * j := by omega
  have a5 : 1 + 5 * j + 1 + 1 + 1 + 1 = 5 + 5 * j := by omega
  refine ⟨by omega, by omega, ⟨a2 ▸ k1.2, a3 ▸ k2.2.1, a3 ▸ k2.2.2⟩, ?_, fun N => (g0 (N + 4)).trans ((g1 (N + 3)).trans ((g2 (N + 2)).trans ((g3 (N + 1)).trans (g4 N))))⟩
  rw [F4 ⟨k4.1, k4.2, p19_9 k4.2⟩, Option.bind_some]
  dsimp only
  rw [f128 (j := j) (σ := st s4 0 7 (nI (1 + 5 * j + 1 + 1 + 1 + 1 + 1))) (by omega) (by rw [st_k (by decide)]; exact c8) k1.2 _ _ (p19_0 k4.2)]
  refine ⟨_, rfl, R4.rg.tr (((((((RG.to (Or.inl rfl)).tr (RG.to2 (by omega))).tr (RG.to2 (by omega))).tr (RG.to2 (by omega))).tr (RG.to2 (by omega))).tr (RG.to (Or.inr rfl)))), ?_, st_s, ⟨?_, ?_, ?_, ?_⟩, fun u hu => ⟨?_, ?_, ?_, ?_⟩⟩
  · rw [st_k (by decide), st_o (by decide), st_o (by decide), st_o (by decide), st_o (by decide), st_s, show 1 + 5 * j + 1 + 1 + 1 + 1 + 1 = 1 + 5 * (j + 1) by omega]
  · rw [st_o (by decide), st_o (by decide), st_o (by decide), st_o (by decide), st_s, a2]
  · rw [st_o (by decide), st_o (by decide), st_o (by decide), st_s, a3]
  · rw [st_o (by decide), st_o (by decide), st_s, a4]
  · rw [st_o (by decide), st_s, a5]
  · rw [st_o (by decide), st_o (by decide), st_o (by decide), st_o (by decide), st_k hu, st_o (by decide), R4.1 5 (by decide)]
  · rw [st_o (by decide), st_o (by decide), st_o (by decide), st_k hu, st_o (by decide), st_o (by decide), R4.1 6 (by decide)]
  · rw [st_o (by decide), st_o (by decide), st_k hu, st_o (by decide), st_o (by decide), st_o (by decide), R4.1 7 (by decide)]
  · rw [st_o (by decide), st_k hu, st_o (by decide), st_o (by decide), st_o (by decide), st_o (by decide), R4.1 8 (by decide)]

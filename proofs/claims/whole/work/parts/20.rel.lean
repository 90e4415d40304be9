/-! ===== the class and the reference side by side ===== -/
def THG (σx σm : Sg) (n t : Nat) : Prop := σx (4 + t) 1 = σm 1 t ∧ σx (4 + t) 2 = σm 2 t ∧ (∃ d, d < n ∧ σm 2 t = nI d) ∧ σx (4 + t) 3 = σm 3 t ∧ σx (4 + t) 4 = σm 4 t ∧ (σm 1 t = 0 ∨ σm 1 t = 1 ∨ σm 1 t = 2) ∧ σx (4 + t) 5 = (if σm 1 t = 0 then σm 3 t else if σm 1 t = 1 then σm 3 t + 1 else 2 * (σm 3 t + 1))
def BRK (σx σm : Sg) (k : Nat) : Prop := σx 13 k = σm 9 k ∧ σx 14 k = σm 10 k ∧ σx 15 k = σm 11 k
def RDG (σx σm : Sg) (n k : Nat) : Prop := σx 17 k = σm 15 k ∧ σx 18 k = σm 16 k ∧ ∃ t, t < n ∧ σm 15 k = nI t
def SHT (σx σm : Sg) (t : Nat) : Prop := (σx (24 + t) 1 = 0 ∧ σm 17 t = -1) ∨ (σx (24 + t) 1 = 1 ∧ ∃ ln, ln ≤ 60 ∧ σm 17 t = nI ln ∧ σx (24 + t) 3 = nI ln ∧ σx (24 + t) 2 = σm 18 t ∧ ∀ i, i < ln → σx (28 + t) i = σm 19 (60 * t + i))
def REL1 (σx σm : Sg) (n v b r : Nat) : Prop := (n ≤ 8 ∧ n ≠ 1 ∧ v ≤ 2 ∧ b ≤ 8 ∧ r ≤ 8) ∧ (σx 2 1 = nI n ∧ σm 0 1 = nI n) ∧ (σx 2 2 = nI v ∧ σm 0 6 = nI v) ∧ (σx 12 3 = nI b ∧ σm 0 13 = nI b) ∧ (σx 16 2 = nI r ∧ σm 0 21 = nI r) ∧ σx 23 0 = σm 0 28 ∧ (∀ t, t < n → THG σx σm n t) ∧ (∀ k, k < b → BRK σx σm k) ∧ (∀ k, k < r → RDG σx σm n k) ∧ ∀ t, t < 4 → SHT σx σm t
def REL0 (σx σm : Sg) : Prop := ∃ n v b r : Nat, REL1 σx σm n v b r
def REL (σx σm : Sg) : Prop := REL0 σx σm ∧ σx 0 7 = σm 0 0
theorem rel_0 : REL sX0 sM0 := by
  refine ⟨⟨0, 0, 0, 0, by decide, ⟨rfl, rfl⟩, ⟨rfl, rfl⟩, ⟨rfl, rfl⟩, ⟨rfl, rfl⟩, rfl, fun t h => absurd h (Nat.not_lt_zero _), fun t h => absurd h (Nat.not_lt_zero _), fun t h => absurd h (Nat.not_lt_zero _), fun t h => ?_⟩, rfl⟩
  match t, h with
  | 0, _ => exact Or.inl ⟨rfl, rfl⟩
  | 1, _ => exact Or.inl ⟨rfl, rfl⟩
  | 2, _ => exact Or.inl ⟨rfl, rfl⟩
  | 3, _ => exact Or.inl ⟨rfl, rfl⟩
  | k + 4, h => exact absurd h (by omega)
-- cells behind a write
theorem st_o {σ : Sg} {o o' k : Nat} {v : Int32} (h : o' ≠ o) : st σ o k v o' = σ o' := by simp [st, h]
theorem st_k {σ : Sg} {o k k' : Nat} {v : Int32} (h : k' ≠ k) : st σ o k v o k' = σ o k' := by simp [st, upd, h]
theorem st_s {σ : Sg} {o k : Nat} {v : Int32} : st σ o k v o k = v := by simp [st, upd]
theorem st_ok {σ : Sg} {o o' k k' : Nat} {v : Int32} (h : o' ≠ o ∨ k' ≠ k) : st σ o k v o' k' = σ o' k' := by
  rcases h with h | h
  · rw [st_o h]
  · by_cases ho : o' = o
    · subst ho; exact st_k h
    · rw [st_o ho]
/-- the class's cells that outlast a call, but for its fault -/
def FX (σ σ' : Sg) : Prop := ∀ o k, o ≠ 0 → o ≠ 19 → o ≠ 20 → o ≠ 21 → o ≠ 22 → σ' o k = σ o k
/-- the reference's, likewise -/
def FM (σ σ' : Sg) : Prop := ∀ o k, (o = 0 → k ≠ 0 ∧ k ≠ 7 ∧ k ≠ 8 ∧ k ≠ 20) → o ≠ 5 → o ≠ 6 → o ≠ 7 → o ≠ 8 → o ≠ 12 → o ≠ 13 → o ≠ 14 → o ≠ 20 → σ' o k = σ o k
theorem FX.rf {σ : Sg} : FX σ σ := fun _ _ _ _ _ _ _ => rfl
theorem FM.rf {σ : Sg} : FM σ σ := fun _ _ _ _ _ _ _ _ _ _ _ => rfl
theorem FX.tr {a b c : Sg} (h1 : FX a b) (h2 : FX b c) : FX a c := fun o k a1 a2 a3 a4 a5 => (h2 o k a1 a2 a3 a4 a5).trans (h1 o k a1 a2 a3 a4 a5)
theorem FM.tr {a b c : Sg} (h1 : FM a b) (h2 : FM b c) : FM a c := fun o k a1 a2 a3 a4 a5 a6 a7 a8 a9 => (h2 o k a1 a2 a3 a4 a5 a6 a7 a8 a9).trans (h1 o k a1 a2 a3 a4 a5 a6 a7 a8 a9)
theorem FX.st {σ : Sg} {o k : Nat} {v : Int32} (h : o = 0 ∨ o = 19 ∨ o = 20 ∨ o = 21 ∨ o = 22) : FX σ (st σ o k v) := fun o' k' a1 a2 a3 a4 a5 => by rw [st_o (by omega)]
theorem FM.st0 {σ : Sg} {k : Nat} {v : Int32} (h : k = 0 ∨ k = 7 ∨ k = 8 ∨ k = 20) : FM σ (st σ 0 k v) := fun o' k' a0 _ _ _ _ _ _ _ _ => by
  apply st_ok
  by_cases ho : o' = 0
  · right; have := a0 ho; omega
  · exact Or.inl ho
theorem FM.st {σ : Sg} {o k : Nat} {v : Int32} (h : o = 5 ∨ o = 6 ∨ o = 7 ∨ o = 8 ∨ o = 12 ∨ o = 13 ∨ o = 14 ∨ o = 20) : FM σ (st σ o k v) := fun o' k' a0 a1 a2 a3 a4 a5 a6 a7 a8 => by rw [st_o (by omega)]
theorem REL1.fr {σx σx' σm σm' : Sg} {n v b r : Nat} (h : REL1 σx σm n v b r) (hx : FX σx σx') (hm : FM σm σm') : REL1 σx' σm' n v b r := by
  obtain ⟨h0, h1, h2, h3, h4, h5, h6, h7, h8, h9⟩ := h
  have X : ∀ o k, o ≠ 0 → o ≠ 19 → o ≠ 20 → o ≠ 21 → o ≠ 22 → σx' o k = σx o k := hx
  have M0 : ∀ k, k ≠ 0 → k ≠ 7 → k ≠ 8 → k ≠ 20 → σm' 0 k = σm 0 k := fun k a b c d => hm 0 k (fun _ => ⟨a, b, c, d⟩) (by decide) (by decide) (by decide) (by decide) (by decide) (by decide) (by decide) (by decide)
  have Mo : ∀ o k, o ≠ 0 → o ≠ 5 → o ≠ 6 → o ≠ 7 → o ≠ 8 → o ≠ 12 → o ≠ 13 → o ≠ 14 → o ≠ 20 → σm' o k = σm o k := fun o k a b c d e f g i j => hm o k (fun q => absurd q a) b c d e f g i j
  refine ⟨h0, ?_, ?_, ?_, ?_, ?_, fun t ht => ?_, fun k hk => ?_, fun k hk => ?_, fun t ht => ?_⟩
  · rw [X 2 1 (by decide) (by decide) (by decide) (by decide) (by decide), M0 1 (by decide) (by decide) (by decide) (by decide)]; exact h1
  · rw [X 2 2 (by decide) (by decide) (by decide) (by decide) (by decide), M0 6 (by decide) (by decide) (by decide) (by decide)]; exact h2
  · rw [X 12 3 (by decide) (by decide) (by decide) (by decide) (by decide), M0 13 (by decide) (by decide) (by decide) (by decide)]; exact h3
  · rw [X 16 2 (by decide) (by decide) (by decide) (by decide) (by decide), M0 21 (by decide) (by decide) (by decide) (by decide)]; exact h4
  · rw [X 23 0 (by decide) (by decide) (by decide) (by decide) (by decide), M0 28 (by decide) (by decide) (by decide) (by decide)]; exact h5
  · have := h6 t ht
    have hn := h0.1
    have hX : ∀ k, σx' (4 + t) k = σx (4 + t) k := fun k => X _ _ (by omega) (by omega) (by omega) (by omega) (by omega)
    have hM : ∀ o k, o = 1 ∨ o = 2 ∨ o = 3 ∨ o = 4 → σm' o k = σm o k := fun o k q => Mo o k (by omega) (by omega) (by omega) (by omega) (by omega) (by omega) (by omega) (by omega) (by omega)
    unfold THG at *
    rw [hX, hX, hX, hX, hX, hM 1 t (by omega), hM 2 t (by omega), hM 3 t (by omega), hM 4 t (by omega)]
    exact this
  · have := h7 k hk
    unfold BRK at *
    rw [X 13 k (by decide) (by decide) (by decide) (by decide) (by decide), X 14 k (by decide) (by decide) (by decide) (by decide) (by decide), X 15 k (by decide) (by decide) (by decide) (by decide) (by decide), Mo 9 k (by decide) (by decide) (by decide) (by decide) (by decide) (by decide) (by decide) (by decide) (by decide), Mo 10 k (by decide) (by decide) (by decide) (by decide) (by decide) (by decide) (by decide) (by decide) (by decide), Mo 11 k (by decide) (by decide) (by decide) (by decide) (by decide) (by decide) (by decide) (by decide) (by decide)]
    exact this
  · have := h8 k hk
    unfold RDG at *
    rw [X 17 k (by decide) (by decide) (by decide) (by decide) (by decide), X 18 k (by decide) (by decide) (by decide) (by decide) (by decide), Mo 15 k (by decide) (by decide) (by decide) (by decide) (by decide) (by decide) (by decide) (by decide) (by decide), Mo 16 k (by decide) (by decide) (by decide) (by decide) (by decide) (by decide) (by decide) (by decide) (by decide)]
    exact this
  · have := h9 t ht
    have hX : ∀ k, σx' (24 + t) k = σx (24 + t) k := fun k => X _ _ (by omega) (by omega) (by omega) (by omega) (by omega)
    have hY : ∀ k, σx' (28 + t) k = σx (28 + t) k := fun k => X _ _ (by omega) (by omega) (by omega) (by omega) (by omega)
    have hM : ∀ o k, o = 17 ∨ o = 18 ∨ o = 19 → σm' o k = σm o k := fun o k q => Mo o k (by omega) (by omega) (by omega) (by omega) (by omega) (by omega) (by omega) (by omega) (by omega)
    unfold SHT at *
    rw [hX, hX, hX, hM 17 t (by omega), hM 18 t (by omega)]
    rcases this with q | ⟨q1, ln, q2, q3, q4, q5, q6⟩
    · exact Or.inl q
    · exact Or.inr ⟨q1, ln, q2, q3, q4, q5, fun i hi => by rw [hY, hM 19 _ (by omega)]; exact q6 i hi⟩
theorem REL0.fr {σx σx' σm σm' : Sg} (h : REL0 σx σm) (hx : FX σx σx') (hm : FM σm σm') : REL0 σx' σm' := by
  obtain ⟨n, v, b, r, h⟩ := h
  exact ⟨n, v, b, r, h.fr hx hm⟩
/-- the fault is set on both sides -/
theorem REL.flt {σx σm : Sg} (h : REL0 σx σm) (v : Int32) : REL (st σx 0 7 v) (st σm 0 0 v) := ⟨h.fr (FX.st (Or.inl rfl)) (FM.st0 (Or.inl rfl)), by rw [st_s, st_s]⟩
theorem REL.flt2 {σx σm : Sg} (h : REL0 σx σm) (u v : Int32) : REL (st (st σx 0 7 u) 0 7 v) (st σm 0 0 v) := ⟨h.fr ((FX.st (Or.inl rfl)).tr (FX.st (Or.inl rfl))) (FM.st0 (Or.inl rfl)), by rw [st_s, st_s]⟩
theorem REL.flt3 {σx σm : Sg} (h : REL0 σx σm) (u w v : Int32) : REL (st (st σx 0 7 u) 0 7 v) (st (st σm 0 0 w) 0 0 v) := ⟨h.fr ((FX.st (Or.inl rfl)).tr (FX.st (Or.inl rfl))) ((FM.st0 (Or.inl rfl)).tr (FM.st0 (Or.inl rfl))), by rw [st_s, st_s]⟩

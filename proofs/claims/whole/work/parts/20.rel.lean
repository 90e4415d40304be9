/-! ===== the class and the reference side by side ===== -/
def THG (σx σm : Sg) (n t : Nat) : Prop := σx (4 + t) 1 = σm 1 t ∧ σx (4 + t) 2 = σm 2 t ∧ (∃ d, d < n ∧ σm 2 t = nI d) ∧ σx (4 + t) 3 = σm 3 t ∧ σx (4 + t) 4 = σm 4 t ∧ (σm 1 t = 0 ∨ σm 1 t = 1 ∨ σm 1 t = 2) ∧ σx (4 + t) 5 = (if σm 1 t = 0 then σm 3 t else if σm 1 t = 1 then σm 3 t + 1 else 2 * (σm 3 t + 1))
def BRK (σx σm : Sg) (k : Nat) : Prop := σx 13 k = σm 9 k ∧ σx 14 k = σm 10 k ∧ σx 15 k = σm 11 k
def RDG (σx σm : Sg) (n k : Nat) : Prop := σx 17 k = σm 15 k ∧ σx 18 k = σm 16 k ∧ ∃ t, t < n ∧ σm 15 k = nI t
def SHT (σx σm : Sg) (t : Nat) : Prop := (σx (24 + t) 1 = 0 ∧ σm 17 t = -1) ∨ (σx (24 + t) 1 = 1 ∧ ∃ ln, ln ≤ 60 ∧ σm 17 t = nI ln ∧ σx (24 + t) 3 = nI ln ∧ σx (24 + t) 2 = σm 18 t ∧ ∀ i, i < ln → σx (28 + t) i = σm 19 (60 * t + i))
def REL (σx σm : Sg) : Prop := ∃ n v b r : Nat, (n ≤ 8 ∧ n ≠ 1 ∧ v ≤ 2 ∧ b ≤ 8 ∧ r ≤ 8) ∧ (σx 2 1 = nI n ∧ σm 0 1 = nI n) ∧ (σx 2 2 = nI v ∧ σm 0 6 = nI v) ∧ (σx 12 3 = nI b ∧ σm 0 13 = nI b) ∧ (σx 16 2 = nI r ∧ σm 0 21 = nI r) ∧ σx 0 7 = σm 0 0 ∧ σx 23 0 = σm 0 28 ∧ (∀ t, t < n → THG σx σm n t) ∧ (∀ k, k < b → BRK σx σm k) ∧ (∀ k, k < r → RDG σx σm n k) ∧ ∀ t, t < 4 → SHT σx σm t
theorem rel_0 : REL sX0 sM0 := by
  refine ⟨0, 0, 0, 0, by decide, ⟨rfl, rfl⟩, ⟨rfl, rfl⟩, ⟨rfl, rfl⟩, ⟨rfl, rfl⟩, rfl, rfl, fun t h => absurd h (Nat.not_lt_zero _), fun t h => absurd h (Nat.not_lt_zero _), fun t h => absurd h (Nat.not_lt_zero _), fun t h => ?_⟩
  match t, h with
  | 0, _ => exact Or.inl ⟨rfl, rfl⟩
  | 1, _ => exact Or.inl ⟨rfl, rfl⟩
  | 2, _ => exact Or.inl ⟨rfl, rfl⟩
  | 3, _ => exact Or.inl ⟨rfl, rfl⟩
  | k + 4, h => exact absurd h (by omega)

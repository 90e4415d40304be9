/-! ===== a town's text ===== -/
theorem bmv (z : Int) (h1 : -2147483648 ≤ z + 48) (h2 : z < 2147483648) : (z < -2147483648 ∧ z.bmod (2 ^ 32) = z + 4294967296) ∨ (-2147483648 ≤ z ∧ z.bmod (2 ^ 32) = z) := by
  by_cases h : z < -2147483648
  · refine Or.inl ⟨h, ?_⟩
    unfold Int.bmod
    dsimp only
    split <;> omega
  · refine Or.inr ⟨by omega, ?_⟩
    unfold Int.bmod
    dsimp only
    split <;> omega
theorem dig07 (x : Int32) : (0 ≤ x - 48 ∧ x - 48 ≤ 7) ↔ (¬ x < 48 ∧ ¬ 55 < x) := by
  have h1 := Int32.le_toInt x
  have h2 := Int32.toInt_lt x
  have e0 : (0 : Int32).toInt = 0 := rfl
  have e7 : (7 : Int32).toInt = 7 := rfl
  have e48 : (48 : Int32).toInt = 48 := rfl
  have e55 : (55 : Int32).toInt = 55 := rfl
  simp only [Int32.le_iff_toInt_le, Int32.lt_iff_toInt_lt, Int32.toInt_sub, e0, e7, e48, e55]
  have h3 := bmv (x.toInt - 48) (by omega) (by omega)
  constructor
  · intro h; omega
  · intro h; omega
theorem dig19 (x : Int32) : (1 ≤ x - 48 ∧ x - 48 ≤ 9) ↔ (¬ x < 49 ∧ ¬ 57 < x) := by
  have h1 := Int32.le_toInt x
  have h2 := Int32.toInt_lt x
  have e0 : (1 : Int32).toInt = 1 := rfl
  have e7 : (9 : Int32).toInt = 9 := rfl
  have e48 : (48 : Int32).toInt = 48 := rfl
  have e49 : (49 : Int32).toInt = 49 := rfl
  have e57 : (57 : Int32).toInt = 57 := rfl
  simp only [Int32.le_iff_toInt_le, Int32.lt_iff_toInt_lt, Int32.toInt_sub, e0, e7, e48, e49, e57]
  have h3 := bmv (x.toInt - 48) (by omega) (by omega)
  constructor
  · intro h; omega
  · intro h; omega
theorem par : ∀ p, p < 62 → p ≠ 0 → (nI p - 1) / 5 = nI ((p - 1) / 5) ∧ (nI p - 1) - (nI p - 1) / 5 * 5 = nI ((p - 1) % 5) := by decide +kernel
def KD (x : Int32) : Prop := x = 116 ∨ x = 115 ∨ x = 109
def kdv (x : Int32) : Int32 := if x = 116 then 0 else if x = 115 then 1 else 2
theorem kd_by (σ : Sg) (x : Int32) : (KD x → f_X5_kindBy σ x = some (kdv x)) ∧ (¬ KD x → f_X5_kindBy σ x = some (-9)) := by
  unfold f_X5_kindBy kdv KD
  refine ⟨fun h => ?_, fun h => ?_⟩
  · rcases h with rfl | rfl | rfl
    · decide
    · decide
    · decide
  · rw [if_neg (fun z => h (Or.inr (Or.inr z))), if_neg (fun z => h (Or.inr (Or.inl z))), if_neg (fun z => h (Or.inl z))]
theorem kdv_3 (x : Int32) : kdv x = 0 ∨ kdv x = 1 ∨ kdv x = 2 := by
  unfold kdv
  by_cases a : x = 116
  · rw [if_pos a]; exact Or.inl rfl
  · rw [if_neg a]
    by_cases b : x = 115
    · rw [if_pos b]; exact Or.inr (Or.inl rfl)
    · rw [if_neg b]; exact Or.inr (Or.inr rfl)
/-- what goes on at a thing's five places -/
def GC (j q : Nat) (x : Int32) : Prop := (q = 0 ∧ x = 59 ∧ j < 8) ∨ (q = 1 ∧ KD x) ∨ (q = 2 ∧ (¬ x < 48 ∧ ¬ 55 < x) ∧ ¬ x - 48 = nI j) ∨ (3 ≤ q ∧ ¬ x < 49 ∧ ¬ 57 < x)
theorem goes (σ : Sg) {j q : Nat} (h : 1 + 5 * j + q < 62) (hq : q < 5) (x : Int32) : (GC j q x → f_X5_goesOn σ (nI (1 + 5 * j + q)) x = some 1) ∧ (¬ GC j q x → f_X5_goesOn σ (nI (1 + 5 * j + q)) x = some 0) := by
  obtain ⟨a1, a2⟩ := par (1 + 5 * j + q) h (by omega)
  rw [show (1 + 5 * j + q - 1) % 5 = q by omega] at a2
  rw [show (1 + 5 * j + q - 1) / 5 = j by omega] at a1
  have n0 : ¬ nI (1 + 5 * j + q) = 0 := ne_of (c := 0) (by omega) (by omega) (by decide)
  unfold f_X5_goesOn
  rw [if_neg n0, a2, a1]
  unfold GC
  have hq5 : q = 0 ∨ q = 1 ∨ q = 2 ∨ q = 3 ∨ q = 4 := by omega
  rcases hq5 with rfl | rfl | rfl | hq5
  · rw [if_pos (show nI 0 = 0 from rfl)]
    by_cases e : x = 59
    · rw [if_pos e]
      by_cases g : j < 8
      · rw [if_neg (show ¬ (8 : Int32) ≤ nI j from nI_ge (b := 8) (by omega) (by decide))]
        exact ⟨fun _ => rfl, fun z => absurd (Or.inl ⟨rfl, e, g⟩) z⟩
      · rw [if_pos (show (8 : Int32) ≤ nI j from nI_le (a := 8) (by omega) (by omega))]
        exact ⟨fun z => by rcases z with z | z | z | z <;> omega, fun _ => rfl⟩
    · rw [if_neg e]
      exact ⟨fun z => by rcases z with z | z | z | z; exact absurd z.2.1 e; all_goals omega, fun _ => rfl⟩
  · rw [if_neg (show ¬ nI 1 = 0 by decide), if_pos (show nI 1 = 1 from rfl)]
    by_cases e : KD x
    · rw [(kd_by σ x).1 e, Option.bind_some, if_neg (by rcases kdv_3 x with z | z | z <;> rw [z] <;> decide)]
      exact ⟨fun _ => rfl, fun z => absurd (Or.inr (Or.inl ⟨rfl, e⟩)) z⟩
    · rw [(kd_by σ x).2 e, Option.bind_some, if_pos rfl]
      exact ⟨fun z => by rcases z with z | z | z | z; omega; exact absurd z.2 e; all_goals omega, fun _ => rfl⟩
  · rw [if_neg (show ¬ nI 2 = 0 by decide), if_neg (show ¬ nI 2 = 1 by decide), if_pos (show nI 2 = 2 from rfl)]
    by_cases e : x < 48
    · rw [if_pos e]
      exact ⟨fun z => by rcases z with z | z | z | z; omega; omega; exact absurd e z.2.1.1; omega, fun _ => rfl⟩
    · rw [if_neg e]
      by_cases f : 55 < x
      · rw [if_pos f]
        exact ⟨fun z => by rcases z with z | z | z | z; omega; omega; exact absurd f z.2.1.2; omega, fun _ => rfl⟩
      · rw [if_neg f]
        by_cases g : x - 48 = nI j
        · rw [if_pos g]
          exact ⟨fun z => by rcases z with z | z | z | z; omega; omega; exact absurd g z.2.2; omega, fun _ => rfl⟩
        · rw [if_neg g]
          exact ⟨fun _ => rfl, fun z => absurd (Or.inr (Or.inr (Or.inl ⟨rfl, ⟨e, f⟩, g⟩))) z⟩
  · rw [if_neg (show ¬ nI q = 0 from ne_of (c := 0) (by omega) (by omega) (by decide)), if_neg (show ¬ nI q = 1 from ne_of (c := 1) (by omega) (by omega) (by decide)), if_neg (show ¬ nI q = 2 from ne_of (c := 2) (by omega) (by omega) (by decide))]
    by_cases e : x < 49
    · rw [if_pos e]
      exact ⟨fun z => by rcases z with z | z | z | z; omega; omega; omega; exact absurd e z.2.1, fun _ => rfl⟩
    · rw [if_neg e]
      by_cases f : 57 < x
      · rw [if_pos f]
        exact ⟨fun z => by rcases z with z | z | z | z; omega; omega; omega; exact absurd f z.2.2, fun _ => rfl⟩
      · rw [if_neg f]
        exact ⟨fun _ => rfl, fun z => absurd (Or.inr (Or.inr (Or.inr ⟨by omega, e, f⟩))) z⟩
theorem goes0 (σ : Sg) (x : Int32) : f_X5_goesOn σ (nI 0) x = some (if x = 101 then 1 else 0) := by
  unfold f_X5_goesOn
  rw [if_pos (show nI 0 = 0 from rfl)]
  by_cases e : x = 101
  · rw [if_pos e, if_pos e]
  · rw [if_neg e, if_neg e]
/-- the text, as both sides hold it -/
def TXT (σx σm : Sg) (t i0 L : Nat) (c : Nat → Int32) : Prop := t < 4 ∧ L ≤ 60 ∧ (∃ l, l ≤ 60 ∧ σx (24 + t) 3 = nI l ∧ i0 + L ≤ l) ∧ (∀ p, p < L → σx (28 + t) (i0 + p) = c p) ∧ ∀ p, p < L → σm 19 (60 * t + i0 + p) = c p
theorem TXT.cx {σx σm : Sg} {t i0 L : Nat} {c : Nat → Int32} (T : TXT σx σm t i0 L c) {p : Nat} (hp : p < L) : f_X4_cellAt σx t (nI i0 + nI p) = some (c p) := by
  obtain ⟨ht, hL, ⟨l, hl, h3, hi⟩, hx, -⟩ := T
  rw [nI_add, f_cellAt ht hl h3 (by omega), hx p hp]
theorem TXT.cm {σx σm : Sg} {t i0 L : Nat} {c : Nat → Int32} (T : TXT σx σm t i0 L c) {σ : Sg} (h19 : σ 19 = σm 19) {p : Nat} (h7 : σ 0 7 = nI p) (hp : p ≤ L) : f_X10_codeAt σ (nI (60 * t + i0)) (nI L) = some (if p < L then c p else -9) := by
  obtain ⟨ht, hL, ⟨l, hl, h3, hi⟩, -, hm⟩ := T
  unfold f_X10_codeAt
  rw [h7]
  by_cases q : p < L
  · rw [if_neg (nI_ge q (by omega)), if_pos q, nI_add, if_pos (vin_k (by omega) (by decide)), nI_clamp (by omega), h19, hm p q]
  · rw [if_pos (nI_le (by omega) (by omega)), if_neg q]
theorem cl_go {σx σm : Sg} {t i0 L : Nat} {c : Nat → Int32} (T : TXT σx σm t i0 L c) {p : Nat} (hp : p < L) (hg : f_X5_goesOn σx (nI p) (c p) = some 1) (N : Nat) : l_X5_firstFault_2 σx t (nI i0) (nI L) (N + 1) (nI p) = l_X5_firstFault_2 σx t (nI i0) (nI L) N (nI (p + 1)) := by
  have hL := T.2.1
  show f_X5_firstFault_2 _ σx _ _ _ _ = _
  unfold f_X5_firstFault_2
  rw [if_neg (nI_ge hp (by omega)), if_pos T.1, T.cx hp, Option.bind_some, hg, Option.bind_some, if_neg (show ¬ (1 : Int32) = 0 by decide), nI_1]
theorem cl_bad {σx σm : Sg} {t i0 L : Nat} {c : Nat → Int32} (T : TXT σx σm t i0 L c) {p : Nat} (hp : p ≤ L) (hg : p < L → f_X5_goesOn σx (nI p) (c p) = some 0) (he : p = L → L ≠ 0 → (L - 1) / 5 < 2 ∨ 1 + 5 * ((L - 1) / 5) ≠ L) (N : Nat) : l_X5_firstFault_2 σx t (nI i0) (nI L) (N + 1) (nI p) = some (nI p) := by
  have hL := T.2.1
  show f_X5_firstFault_2 _ σx _ _ _ _ = _
  unfold f_X5_firstFault_2
  by_cases q : p < L
  · rw [if_neg (nI_ge q (by omega)), if_pos T.1, T.cx q, Option.bind_some, hg q, Option.bind_some, if_pos rfl]
  · have e : p = L := by omega
    subst e
    rw [if_pos (nI_le (Nat.le_refl p) (by omega))]
    unfold f_X5_firstFault_54 f_X5_thingsIn f_X5_placeOf
    by_cases z : p = 0
    · subst z
      rw [Option.bind_some, if_pos (show (nI 0 - 1) / 5 < 2 by decide), if_neg (show ¬ (1 : Int32) = 0 by decide)]
    · rw [(par p (by omega) z).1, Option.bind_some]
      by_cases y : (p - 1) / 5 < 2
      · rw [if_pos (show nI ((p - 1) / 5) < 2 from nI_lt (b := 2) y (by omega)), if_neg (show ¬ (1 : Int32) = 0 by decide)]
      · rw [if_neg (show ¬ nI ((p - 1) / 5) < 2 from nI_nlt (show 2 ≤ (p - 1) / 5 by omega) (by omega)), Option.bind_some, Option.bind_some]
        have hh := (he rfl z).resolve_left y
        rw [show (1 : Int32) + 5 * nI ((p - 1) / 5) + 0 = nI (1 + 5 * ((p - 1) / 5)) by rw [show (5 : Int32) * nI ((p - 1) / 5) = nI (5 * ((p - 1) / 5)) from pk_mul 5 _, show (1 : Int32) = nI 1 from rfl, nI_add]; exact Int32.add_zero _, if_neg (ne_of hh (by omega) (by omega)), if_neg (show ¬ (1 : Int32) = 0 by decide)]
theorem cl_end {σx σm : Sg} {t i0 m : Nat} {c : Nat → Int32} (T : TXT σx σm t i0 (1 + 5 * m) c) (hm : 2 ≤ m) (N : Nat) : l_X5_firstFault_2 σx t (nI i0) (nI (1 + 5 * m)) (N + 1) (nI (1 + 5 * m)) = (f_X5_firstStranger σx t (nI i0) (nI m)).bind fun r5 => some r5 := by
  have hL := T.2.1
  show f_X5_firstFault_2 _ σx _ _ _ _ = _
  unfold f_X5_firstFault_2
  rw [if_pos (nI_le (Nat.le_refl _) (by omega))]
  unfold f_X5_firstFault_54 f_X5_thingsIn f_X5_placeOf
  have e := (par (1 + 5 * m) (by omega) (by omega)).1
  rw [show (1 + 5 * m - 1) / 5 = m by omega] at e
  rw [e, Option.bind_some, if_neg (show ¬ nI m < 2 from nI_nlt (show 2 ≤ m by omega) (by omega)), Option.bind_some, Option.bind_some, show (1 : Int32) + 5 * nI m + 0 = nI (1 + 5 * m) by rw [show (5 : Int32) * nI m = nI (5 * m) from pk_mul 5 _, show (1 : Int32) = nI 1 from rfl, nI_add]; exact Int32.add_zero _, if_pos rfl, if_pos rfl, Option.bind_some]

/-! ===== one bit ===== -/
theorem b_1 : ∀ i, i < 32 → bt 1 i = decide (i = 0) := by decide +kernel
theorem tbv (x : Int32) {u : Nat} (hu : u < 32) : ((x >>> (nI u &&& 31)) &&& 1) = if bt x u = true then 1 else 0 := by
  apply b_ext
  intro i hi
  rw [b_and, b_1 i hi, b_sshr u hu x hi]
  by_cases h0 : i = 0
  · subst h0
    rw [if_pos (by omega)]
    cases hb : bt x (u + 0) with
    | false => rw [if_neg (by decide), b_0]; rfl
    | true => rw [if_pos rfl, b_1 0 (by omega)]; rfl
  · rw [decide_eq_false h0, Bool.and_false]
    split
    · rw [b_1 i hi, decide_eq_false h0]
    · rw [b_0]
theorem tb0 (x : Int32) {u : Nat} (hu : u < 32) : ((x >>> (nI u &&& 31)) &&& 1) = 0 ↔ bt x u = false := by
  rw [tbv x hu]
  cases bt x u <;> decide
theorem tb1 (x : Int32) {u : Nat} (hu : u < 32) : ((x >>> (nI u &&& 31)) &&& 1) = 1 ↔ bt x u = true := by
  rw [tbv x hu]
  cases bt x u <;> decide
theorem b_one {t u : Nat} (ht : t < 32) (hu : u < 32) : bt ((1 : Int32) <<< (nI t &&& 31)) u = decide (u = t) := by
  rw [b_shl t ht 1 hu, b_1 _ (by omega)]
  by_cases h : u = t
  · subst h; simp
  · rw [decide_eq_false h]
    by_cases h2 : t ≤ u
    · rw [decide_eq_false (show ¬ u - t = 0 by omega), Bool.and_false]
    · rw [decide_eq_false h2, Bool.false_and]
theorem b_add (x : Int32) {t u : Nat} (ht : t < 32) (hu : u < 32) : bt (x ||| ((1 : Int32) <<< (nI t &&& 31))) u = (decide (u = t) || bt x u) := by
  rw [b_or, b_one ht hu, Bool.or_comm]
theorem f_isIn (σ : Sg) (x : Int32) {u : Nat} (hu : u < 32) : f_X10_isIn σ x (nI u) = some (if bt x u = true then 1 else 0) := by
  unfold f_X10_isIn
  by_cases h : bt x u = true
  · rw [if_pos ((tb1 x hu).mpr h), if_pos h]
  · rw [if_neg (fun q => h ((tb1 x hu).mp q)), if_neg h]
/-! ===== who stands in, as told ===== -/
def enc : Option Nat → Int32
  | none => -9
  | some t => nI t
theorem enc_inj {a b : Option Nat} (ha : ∀ t, a = some t → t < 8) (hb : ∀ t, b = some t → t < 8) : enc a = enc b ↔ a = b := by
  cases a with
  | none =>
    cases b with
    | none => exact ⟨fun _ => rfl, fun _ => rfl⟩
    | some u =>
      have := hb u rfl
      refine ⟨fun e => ?_, fun e => by cases e⟩
      exfalso
      have e1 : (enc none).toInt = (enc (some u)).toInt := by rw [e]
      rw [show (enc (some u)).toInt = (u : Int) from nI_toInt (by omega)] at e1
      have e2 : (enc none).toInt = -9 := rfl
      omega
  | some t =>
    have h1 := ha t rfl
    cases b with
    | none =>
      refine ⟨fun e => ?_, fun e => by cases e⟩
      exfalso
      have e1 : (enc none).toInt = (enc (some t)).toInt := by rw [e]
      rw [show (enc (some t)).toInt = (t : Int) from nI_toInt (by omega)] at e1
      have e2 : (enc none).toInt = -9 := rfl
      omega
    | some u =>
      have h2 := hb u rfl
      show nI t = nI u ↔ _
      rw [nI_eq (by omega) (by omega)]
      exact ⟨fun e => by rw [e], fun e => by cases e; rfl⟩
theorem enc_neg {a : Option Nat} (ha : ∀ t, a = some t → t < 8) : enc a < 0 ↔ a = none := by
  cases a with
  | none => exact ⟨fun _ => rfl, fun _ => by decide⟩
  | some t => exact ⟨fun e => absurd e (n0 t (by have := ha t rfl; omega)), fun e => by cases e⟩
theorem enc_9 {a : Option Nat} (ha : ∀ t, a = some t → t < 8) : enc a = -9 ↔ a = none := enc_inj (b := none) ha (fun _ h => by cases h)
/-- the row of who might stand in, till one would come that is in it already -/
def rowS (d : Nat → Nat) (may : Nat → Bool) (prf : Nat → Option Nat → Bool) : Nat → (Nat → Bool) → Option Nat → Nat → Option Nat
  | 0, _, b, _ => b
  | k + 1, sn, b, t => if sn t = true then b else rowS d may prf k (fun u => decide (u = t) || sn u) (if (may t && prf t b) = true then some t else b) (d t)
def cn (sn : Nat → Bool) : Nat → Nat
  | 0 => 0
  | k + 1 => cn sn k + (if sn k = true then 0 else 1)
theorem cn_le (sn : Nat → Bool) : ∀ k, cn sn k ≤ k
  | 0 => Nat.le_refl 0
  | k + 1 => by
    have := cn_le sn k
    unfold cn
    split <;> omega
theorem cn_add (sn : Nat → Bool) (t : Nat) (h : sn t = false) : ∀ k, cn (fun u => decide (u = t) || sn u) k + (if t < k then 1 else 0) = cn sn k
  | 0 => by simp [cn]
  | k + 1 => by
    have ih := cn_add sn t h k
    unfold cn
    by_cases hk : k = t
    · subst hk
      simp only [decide_true, Bool.true_or, if_true, h]
      rw [if_neg (Nat.lt_irrefl k)] at ih
      rw [if_pos (Nat.lt_succ_self k)]
      simp
      omega
    · simp only [decide_eq_false hk, Bool.false_or]
      generalize (if sn k = true then 0 else 1) = z
      by_cases ht : t < k
      · rw [if_pos ht] at ih
        rw [if_pos (show t < k + 1 by omega)]
        omega
      · rw [if_neg ht] at ih
        rw [if_neg (show ¬ t < k + 1 by omega)]
        omega
theorem cn_0 (sn : Nat → Bool) : ∀ k, cn sn k = 0 → ∀ t, t < k → sn t = true
  | 0, _, t, ht => absurd ht (Nat.not_lt_zero t)
  | k + 1, h, t, ht => by
    unfold cn at h
    by_cases hk : sn k = true
    · by_cases e : t = k
      · rw [e]; exact hk
      · exact cn_0 sn k (by rw [if_pos hk] at h; omega) t (by omega)
    · rw [if_neg hk] at h
      omega
theorem rowS_in (d : Nat → Nat) (may : Nat → Bool) (prf : Nat → Option Nat → Bool) {n u : Nat} (hd : ∀ t, t < n → d t < n) : ∀ (k : Nat) (sn : Nat → Bool) (b : Option Nat) (t : Nat), t < n → sn u = true → (∀ c, b = some c → c < n ∧ c ≠ u ∧ may c = true) → ∀ c, rowS d may prf k sn b t = some c → c < n ∧ c ≠ u ∧ may c = true
  | 0, sn, b, t, ht, hu, hb, c, hc => hb c hc
  | k + 1, sn, b, t, ht, hu, hb, c, hc => by
    unfold rowS at hc
    by_cases h : sn t = true
    · rw [if_pos h] at hc; exact hb c hc
    · rw [if_neg h] at hc
      refine rowS_in d may prf hd k _ _ (d t) (hd t ht) (by simp [hu]) (fun c hc => ?_) c hc
      by_cases q : (may t && prf t b) = true
      · rw [if_pos q] at hc
        cases hc
        simp only [Bool.and_eq_true] at q
        exact ⟨ht, fun e => h (by rw [e]; exact hu), q.1⟩
      · rw [if_neg q] at hc; exact hb c hc
abbrev HS : Type := Nat → Option Nat × Int32
def tir (la : Nat → Int32) (hs : HS) (u t : Nat) : Bool := decide ((hs u).1 = some t) && decide (la t ≤ (hs u).2)
def stn (sv : Nat → Option Nat) (t : Nat) : Nat → Bool
  | 0 => false
  | k + 1 => stn sv t k || (decide (sv k = some t) && !decide (k = t))
def prfS (v : Nat) (g : Nat → Int32) (sta : Nat → Bool) (t : Nat) (b : Option Nat) : Bool := if v = 1 then b.isNone && !sta t else if v = 2 then (match b with | none => true | some c => decide (g c < g t)) else b.isNone
def srv (v : Nat) (d : Nat → Nat) (g la : Nat → Int32) (br : Nat → Bool) (hs : HS) (sv : Nat → Option Nat) (u : Nat) : Option Nat := if br u = true then rowS d (fun t => !br t && !tir la hs u t) (prfS v g (fun t => stn sv t u)) 8 (fun w => decide (w = u)) none (d u) else some u
def svU (v : Nat) (d : Nat → Nat) (g la : Nat → Int32) (br : Nat → Bool) (hs : HS) : Nat → Nat → Option Nat
  | 0 => fun _ => none
  | k + 1 => fun u => if u = k then srv v d g la br hs (svU v d g la br hs k) k else svU v d g la br hs k u
def nst (hs : HS) (u : Nat) (s : Option Nat) : Int32 := if s = none ∨ s = some u then 0 else if (hs u).1 = s then (hs u).2 + 1 else 1
/-- an hour: who serves each use, and for how many hours on end -/
def hrS (v n : Nat) (d : Nat → Nat) (g la : Nat → Int32) (br : Nat → Bool) (hs : HS) : HS := fun u => (svU v d g la br hs n u, nst hs u (svU v d g la br hs n u))
/-- the town: on the class's side, on the reference's -/
def TWX (σ : Sg) (n : Nat) (d : Nat → Nat) (g la : Nat → Int32) : Prop := n ≤ 8 ∧ σ 2 1 = nI n ∧ ∀ t, t < n → d t < n ∧ σ (4 + t) 2 = nI (d t) ∧ σ (4 + t) 4 = la t ∧ σ (4 + t) 5 = g t
def TWM (σ : Sg) (n v : Nat) (d : Nat → Nat) (g la : Nat → Int32) : Prop := n ≤ 8 ∧ v ≤ 2 ∧ σ 0 1 = nI n ∧ σ 0 6 = nI v ∧ ∀ t, t < n → d t < n ∧ σ 2 t = nI (d t) ∧ σ 4 t = la t ∧ f_X10_goodOf σ (nI t) = some (g t)
def RNG (n : Nat) (hs : HS) : Prop := ∀ u, u < n → ∀ t, (hs u).1 = some t → t < n
def HX (σ : Sg) (n : Nat) (hs : HS) : Prop := ∀ u, u < n → σ 20 u = enc (hs u).1 ∧ σ 21 u = (hs u).2
def HM (σ : Sg) (n : Nat) (hs : HS) : Prop := ∀ u, u < n → σ 13 u = (if (hs u).1 = some u then -9 else enc (hs u).1) ∧ σ 14 u = (hs u).2
theorem svU_st {v : Nat} {d : Nat → Nat} {g la : Nat → Int32} {br : Nat → Bool} {hs : HS} {k u : Nat} (h : u < k) : ∀ m, k ≤ m → svU v d g la br hs m u = svU v d g la br hs k u := by
  intro m
  induction m with
  | zero => intro hm; omega
  | succ m ih =>
    intro hm
    by_cases e : k = m + 1
    · rw [e]
    · rw [show svU v d g la br hs (m + 1) u = (if u = m then srv v d g la br hs (svU v d g la br hs m) m else svU v d g la br hs m u) from rfl, if_neg (by omega)]
      exact ih (by omega)
theorem stn_congr {sv sv' : Nat → Option Nat} {t : Nat} : ∀ k, (∀ u, u < k → sv u = sv' u) → stn sv t k = stn sv' t k
  | 0, _ => rfl
  | k + 1, h => by
    unfold stn
    rw [stn_congr k (fun u hu => h u (by omega)), h k (by omega)]
theorem srv_in {v n : Nat} {d : Nat → Nat} {g la : Nat → Int32} {br : Nat → Bool} {hs : HS} {sv : Nat → Option Nat} (hd : ∀ t, t < n → d t < n) {u : Nat} (hu : u < n) {c : Nat} (h : srv v d g la br hs sv u = some c) : c < n ∧ (br u = true → c ≠ u) := by
  unfold srv at h
  by_cases hb : br u = true
  · rw [if_pos hb] at h
    have := rowS_in d _ _ (n := n) (u := u) hd 8 _ none (d u) (hd u hu) (by simp) (fun c hc => by cases hc) c h
    exact ⟨this.1, fun _ => this.2.1⟩
  · rw [if_neg hb] at h
    cases h
    exact ⟨hu, fun q => absurd q hb⟩
theorem svU_in {v n : Nat} {d : Nat → Nat} {g la : Nat → Int32} {br : Nat → Bool} {hs : HS} (hd : ∀ t, t < n → d t < n) {k u : Nat} (hk : k ≤ n) {c : Nat} (h : svU v d g la br hs k u = some c) : c < n := by
  induction k with
  | zero => cases h
  | succ k ih =>
    rw [show svU v d g la br hs (k + 1) u = (if u = k then srv v d g la br hs (svU v d g la br hs k) k else svU v d g la br hs k u) from rfl] at h
    by_cases e : u = k
    · rw [if_pos e] at h
      exact (srv_in hd (by omega) h).1
    · rw [if_neg e] at h
      exact ih (by omega) h
theorem hrS_rng {v n : Nat} {d : Nat → Nat} {g la : Nat → Int32} {br : Nat → Bool} {hs : HS} (hd : ∀ t, t < n → d t < n) : RNG n (hrS v n d g la br hs) := fun u hu t h => svU_in hd (Nat.le_refl n) h

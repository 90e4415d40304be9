/-! ===== Int32 by its bits: bt x i ===== -/
def bt (x : Int32) (i : Nat) : Bool := x.toBitVec.getLsbD i
theorem b_ext {x y : Int32} (h : ∀ i, i < 32 → bt x i = bt y i) : x = y := Int32.toBitVec_inj.mp (BitVec.eq_of_getLsbD_eq (fun i hi => h i hi))
theorem b_or (x y : Int32) (i : Nat) : bt (x ||| y) i = (bt x i || bt y i) := by unfold bt; rw [Int32.toBitVec_or, BitVec.getLsbD_or]
theorem b_and (x y : Int32) (i : Nat) : bt (x &&& y) i = (bt x i && bt y i) := by unfold bt; rw [Int32.toBitVec_and, BitVec.getLsbD_and]
theorem b_xor (x y : Int32) (i : Nat) : bt (x ^^^ y) i = (bt x i ^^ bt y i) := by unfold bt; rw [Int32.toBitVec_xor, BitVec.getLsbD_xor]
theorem b_big {x : Int32} {i : Nat} (h : 32 ≤ i) : bt x i = false := BitVec.getLsbD_of_ge _ _ h
theorem b_255 (i : Nat) : bt 255 i = decide (i < 8) := by
  rcases Nat.lt_or_ge i 32 with h | h
  · exact (by decide +kernel : ∀ i, i < 32 → bt 255 i = decide (i < 8)) i h
  · rw [b_big h, decide_eq_false (by omega)]
theorem b_65535 (i : Nat) : bt 65535 i = decide (i < 16) := by
  rcases Nat.lt_or_ge i 32 with h | h
  · exact (by decide +kernel : ∀ i, i < 32 → bt 65535 i = decide (i < 16)) i h
  · rw [b_big h, decide_eq_false (by omega)]
theorem b_m1 : ∀ i, i < 32 → bt (-1) i = true := by decide +kernel
theorem b_0 (i : Nat) : bt 0 i = false := BitVec.getLsbD_zero
theorem s_l : ∀ n, n < 32 → ((nI n &&& 31).toBitVec.smod 32).toNat = n := by decide +kernel
theorem s_u : ∀ n, n < 32 → (((nI n).toUInt32 &&& Int32.toUInt32 31).toBitVec % 32).toNat = n := by decide +kernel
theorem b_shl (n : Nat) (hn : n < 32) (x : Int32) {i : Nat} (hi : i < 32) : bt (x <<< (nI n &&& 31)) i = (decide (n ≤ i) && bt x (i - n)) := by
  unfold bt
  rw [Int32.toBitVec_shiftLeft]
  show (x.toBitVec <<< ((nI n &&& 31).toBitVec.smod 32).toNat).getLsbD i = _
  rw [s_l n hn, BitVec.getLsbD_shiftLeft]
  rcases Nat.lt_or_ge i n with h | h
  · simp [h, Nat.not_le.mpr h]
  · simp [hi, h, Nat.not_lt.mpr h]
theorem b_ushr (n : Nat) (hn : n < 32) (x : Int32) (i : Nat) : bt ((x.toUInt32 >>> ((nI n).toUInt32 &&& Int32.toUInt32 31)).toInt32) i = bt x (n + i) := by
  show (x.toUInt32 >>> ((nI n).toUInt32 &&& Int32.toUInt32 31)).toBitVec.getLsbD i = x.toUInt32.toBitVec.getLsbD (n + i)
  rw [UInt32.toBitVec_shiftRight]
  show (x.toUInt32.toBitVec >>> (((nI n).toUInt32 &&& Int32.toUInt32 31).toBitVec % 32).toNat).getLsbD i = _
  rw [s_u n hn, BitVec.getLsbD_ushiftRight]
theorem b_sshr (n : Nat) (hn : n < 32) (x : Int32) {i : Nat} (hi : i < 32) : bt (x >>> (nI n &&& 31)) i = if n + i < 32 then bt x (n + i) else bt x 31 := by
  unfold bt
  rw [Int32.toBitVec_shiftRight]
  show (x.toBitVec.sshiftRight ((nI n &&& 31).toBitVec.smod 32).toNat).getLsbD i = _
  rw [s_l n hn, BitVec.getLsbD_sshiftRight, BitVec.msb_eq_getLsbD_last]
  simp [hi]
theorem b_shl8 (x : Int32) {i : Nat} (hi : i < 32) : bt (x <<< ((8 : Int32) &&& 31)) i = (decide (8 ≤ i) && bt x (i - 8)) := b_shl 8 (by omega) x hi
theorem b_shl16 (x : Int32) {i : Nat} (hi : i < 32) : bt (x <<< ((16 : Int32) &&& 31)) i = (decide (16 ≤ i) && bt x (i - 16)) := b_shl 16 (by omega) x hi
theorem b_shl24 (x : Int32) {i : Nat} (hi : i < 32) : bt (x <<< ((24 : Int32) &&& 31)) i = (decide (24 ≤ i) && bt x (i - 24)) := b_shl 24 (by omega) x hi
theorem b_sshr8 (x : Int32) {i : Nat} (hi : i < 32) : bt (x >>> ((8 : Int32) &&& 31)) i = if 8 + i < 32 then bt x (8 + i) else bt x 31 := b_sshr 8 (by omega) x hi

/-! ===== small numbers ===== -/
theorem vin_iff {x : Int32} {n : Nat} : vin x n = true ↔ 0 ≤ x.toInt ∧ x.toInt < n := by simp [vin]
theorem vin_k {k n : Nat} (h : k < n) (hn : n < 2 ^ 31) : vin (nI k) n = true := by rw [vin_iff, nI_toInt (by omega)]; omega
theorem vin_of {x : Int32} {n : Nat} (h : vin x n = true) (hn : n < 2 ^ 31) : ∃ k, k < n ∧ x = nI k := vp_in_of (vin_in h) hn
theorem vin_nk {k n : Nat} (h : n ≤ k) (hk : k < 2 ^ 31) : ¬ vin (nI k) n = true := by rw [vin_iff, nI_toInt hk]; omega
theorem i64_toInt (x : Int32) : x.toInt64.toInt = x.toInt := by simp
theorem ite_zero {c : Prop} [Decidable c] : ((if c then (0 : Int32) else 1) = 0) ↔ c := by
  by_cases h : c <;> simp [h]
theorem ite_one {c : Prop} [Decidable c] : ((if c then (1 : Int32) else 0) = 0) ↔ ¬ c := by
  by_cases h : c <;> simp [h]
theorem f_in (σ : Sg) (a b c : Int64) : f_X10_in σ a b c = some (if b ≤ a ∧ a ≤ c then 1 else 0) := by
  unfold f_X10_in
  simp only [lg_cmp_lt, lg_cmp_gt]
  by_cases h1 : a < b
  · have : ¬ (b ≤ a ∧ a ≤ c) := fun q => by simp only [Int64.le_iff_toInt_le, Int64.lt_iff_toInt_lt] at *; omega
    rw [if_pos h1, if_neg this]
  · rw [if_neg h1]
    by_cases h2 : c < a
    · have : ¬ (b ≤ a ∧ a ≤ c) := fun q => by simp only [Int64.le_iff_toInt_le, Int64.lt_iff_toInt_lt] at *; omega
      rw [if_pos h2, if_neg this]
    · have : b ≤ a ∧ a ≤ c := by simp only [Int64.le_iff_toInt_le, Int64.lt_iff_toInt_lt] at *; omega
      rw [if_neg h2, if_pos this]
theorem f_in32 (σ : Sg) (x lo hi : Int32) {a b : Int64} (ha : lo.toInt64 = a) (hb : hi.toInt64 = b) : f_X10_in σ x.toInt64 a b = some (if lo ≤ x ∧ x ≤ hi then 1 else 0) := by
  subst ha; subst hb
  rw [f_in]
  simp only [Int64.le_iff_toInt_le, Int32.le_iff_toInt_le, i64_toInt]
theorem lN_pred {n : Nat} (hn : n < 2 ^ 31) : ((nI n).toInt64 - 1).toInt = (n : Int) - 1 := by
  rw [Int64.toInt_sub, i64_toInt, nI_toInt hn]
  apply Int.bmod_eq_of_le
  · show -(2 ^ 64 / 2 : Int) ≤ (n : Int) - 1
    omega
  · show (n : Int) - 1 < (2 ^ 64 + 1) / 2
    omega
theorem f_noThing {σ : Sg} {n : Nat} (h : σ 0 1 = nI n) (hn : n ≤ 8) (x : Int32) : f_X10_noThing σ x = some (if vin x n = true then 0 else 1) := by
  unfold f_X10_noThing
  rw [f_in, h]
  have e : ((0 : Int64) ≤ x.toInt64 ∧ x.toInt64 ≤ (nI n).toInt64 - 1) ↔ vin x n = true := by
    rw [vin_iff, Int64.le_iff_toInt_le, Int64.le_iff_toInt_le, lN_pred (by omega), i64_toInt]
    show (0 ≤ x.toInt ∧ _) ↔ _
    omega
  by_cases hv : vin x n = true
  · rw [if_pos (e.mpr hv), if_pos hv]; rfl
  · rw [if_neg (fun q => hv (e.mp q)), if_neg hv]; rfl
theorem f_thingAt {σ : Sg} {n : Nat} (h : σ 2 1 = nI n) (hn : n ≤ 8) (x : Int32) : f_X7_thingAt σ x = some (if vin x n = true then some x.toNatClampNeg else none) := by
  unfold f_X7_thingAt
  rw [h]
  have hnI : (nI n).toInt = n := nI_toInt (by omega)
  have h8 : (8 : Int32).toInt = 8 := rfl
  have h0 : (0 : Int32).toInt = 0 := rfl
  by_cases hv : vin x n = true
  · have h1 := vin_iff.mp hv
    have v8 : vin x 8 = true := vin_iff.mpr ⟨h1.1, by omega⟩
    rw [if_neg (by rw [Int32.lt_iff_toInt_lt]; omega), if_neg (by rw [Int32.le_iff_toInt_le]; omega), if_neg (by rw [Int32.le_iff_toInt_le]; omega), if_pos v8, if_pos hv]
  · rw [if_neg hv]
    rw [vin_iff] at hv
    by_cases h1 : x < 0
    · rw [if_pos h1]
    · rw [if_neg h1, if_pos]
      rw [Int32.le_iff_toInt_le]
      rw [Int32.lt_iff_toInt_lt] at h1
      omega
theorem f_beyond (σ : Sg) (x y : Int32) : f_X9_isBeyond σ x y = some (if 0 ≤ x ∧ x ≤ y then 0 else 1) := by
  unfold f_X9_isBeyond
  simp only [Int32.le_iff_toInt_le, Int32.lt_iff_toInt_lt]
  have h0 : (0 : Int32).toInt = 0 := rfl
  by_cases h1 : x.toInt < (0 : Int32).toInt
  · rw [if_pos h1, if_neg (by omega)]
  · rw [if_neg h1]
    by_cases h2 : x.toInt ≤ y.toInt
    · rw [if_pos h2, if_pos (by omega)]
    · rw [if_neg h2, if_neg (by omega)]
theorem f_sheetAt (σ : Sg) (x : Int32) : f_X9_sheetAt σ x = some (if vin x 4 = true then some x.toNatClampNeg else none) := by
  unfold f_X9_sheetAt
  have h4 : (4 : Int32).toInt = 4 := rfl
  have h0 : (0 : Int32).toInt = 0 := rfl
  by_cases hv : vin x 4 = true
  · have h1 := vin_iff.mp hv
    rw [if_neg (by rw [Int32.lt_iff_toInt_lt]; omega), if_neg (by rw [Int32.le_iff_toInt_le]; omega), if_pos hv, if_pos hv]
  · rw [show (if vin x 4 = true then some x.toNatClampNeg else none) = none from if_neg hv]
    have hv' := hv
    rw [vin_iff] at hv
    by_cases h1 : x < 0
    · rw [if_pos h1]
    · rw [if_neg h1, if_pos]
      rw [Int32.le_iff_toInt_le]
      rw [Int32.lt_iff_toInt_lt] at h1
      omega
theorem f_noSheet (σ : Sg) (x : Int32) : f_X10_noSheet σ x = some (if vin x 4 = true then 0 else 1) := by
  unfold f_X10_noSheet
  rw [f_in32 σ x 0 3 (a := 0) (b := 3) rfl rfl]
  have e : ((0 : Int32) ≤ x ∧ x ≤ 3) ↔ vin x 4 = true := by
    rw [vin_iff, Int32.le_iff_toInt_le, Int32.le_iff_toInt_le]
    show (0 ≤ x.toInt ∧ x.toInt ≤ 3) ↔ _
    omega
  by_cases hv : vin x 4 = true
  · rw [if_pos (e.mpr hv), if_pos hv]; rfl
  · rw [if_neg (fun q => hv (e.mp q)), if_neg hv]; rfl
theorem f_isHour (σ : Sg) (x : Int32) : f_X10_isHour σ x = some (if 0 ≤ x ∧ x ≤ 29 then 1 else 0) := by
  unfold f_X10_isHour
  rw [f_in32 σ x 0 29 (a := 0) (b := 29) rfl rfl]
  by_cases h : 0 ≤ x ∧ x ≤ (29 : Int32)
  · rw [if_pos h]; rfl
  · rw [if_neg h]; rfl

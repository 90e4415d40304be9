/-! ===== sheets ===== -/
theorem tI {x : Int32} {k : Nat} (h : x = nI k) (hk : k < 2 ^ 31) : x.toInt = (k : Int) := by rw [h, nI_toInt hk]
theorem sub_ti {l : Nat} (hl : l ≤ 60) {i : Int32} (h1 : 0 ≤ i.toInt) (h2 : i.toInt ≤ (l : Int)) : (nI l - i).toInt = (l : Int) - i.toInt := by
  obtain ⟨k, hk, rfl⟩ := vin_of (x := i) (n := l + 1) (by rw [vin_iff]; omega) (by omega)
  rw [nI_toInt (by omega)] at *
  exact pk_sub_toInt (by omega) (by omega)
/-- over the end of a row: on both sides the same -/
theorem f_isOver {σ : Sg} {t l : Nat} (ht : t < 4) (hl : l ≤ 60) (h3 : σ (24 + t) 3 = nI l) (i n : Int32) (hn : 0 ≤ n.toInt) : f_X4_isOver σ t i n = some (if 0 ≤ i.toInt ∧ i.toInt + n.toInt ≤ l then 0 else 1) := by
  unfold f_X4_isOver
  have e0 : (0 : Int32).toInt = 0 := rfl
  have el := nI_toInt (n := l) (by omega)
  rw [h3]
  by_cases h1 : i < 0
  · rw [if_pos h1, if_neg]
    rw [Int32.lt_iff_toInt_lt] at h1
    omega
  · rw [if_neg h1, if_pos ht]
    rw [Int32.lt_iff_toInt_lt] at h1
    by_cases h2 : nI l < i
    · rw [if_pos h2, if_neg]
      rw [Int32.lt_iff_toInt_lt] at h2
      omega
    · rw [if_neg h2]
      rw [Int32.lt_iff_toInt_lt] at h2
      have e := sub_ti hl (i := i) (by omega) (by omega)
      by_cases h4 : n ≤ nI l - i
      · rw [if_pos h4, if_pos]
        rw [Int32.le_iff_toInt_le, e] at h4
        omega
      · rw [if_neg h4, if_neg]
        rw [Int32.le_iff_toInt_le, e] at h4
        omega
theorem i64_add (a b : Int32) : (a.toInt64 + b.toInt64).toInt = a.toInt + b.toInt := by
  rw [Int64.toInt_add, i64_toInt, i64_toInt]
  have h1 := a.le_toInt
  have h2 := a.toInt_lt
  have h3 := b.le_toInt
  have h4 := b.toInt_lt
  apply Int.bmod_eq_of_le
  · show -(2 ^ 64 / 2 : Int) ≤ _
    omega
  · show _ < ((2 ^ 64 + 1) / 2 : Int)
    omega
theorem f_Mbeyond (σ : Sg) {l : Nat} (hl : l ≤ 60) (i n : Int32) : f_X10_isBeyond σ i n.toInt64 (nI l) = some (if 0 ≤ i.toInt ∧ 0 ≤ n.toInt ∧ i.toInt + n.toInt ≤ l then 0 else 1) := by
  unfold f_X10_isBeyond
  have e0 : (0 : Int32).toInt = 0 := rfl
  have e0' : (0 : Int64).toInt = 0 := rfl
  have el := nI_toInt (n := l) (by omega)
  simp only [lg_cmp_lt, lg_cmp_le]
  simp only [Int64.lt_iff_toInt_lt, Int64.le_iff_toInt_le, Int32.lt_iff_toInt_lt, i64_add, i64_toInt, e0, e0', el]
  by_cases h1 : i.toInt < 0
  · rw [if_pos h1, if_neg (by omega)]
  · rw [if_neg h1]
    by_cases h2 : n.toInt < 0
    · rw [if_pos h2, if_neg (by omega)]
    · rw [if_neg h2]
      by_cases h3 : i.toInt + n.toInt ≤ l
      · rw [if_pos h3, if_pos (by omega)]
      · rw [if_neg h3, if_neg (by omega)]
/-- what a sheet's cells from i on come to: the fault's number, 0: none -/
def rgF (has ln : Nat) (lane asL i n : Int32) : Nat := if has = 0 then 1 else if lane = asL then (if 0 ≤ n then (if 0 ≤ i.toInt ∧ i.toInt + n.toInt ≤ ln then 0 else 3) else 4) else 2
theorem f_rangeX {σ : Sg} {t l : Nat} (ht : t < 4) (hl : l ≤ 60) (h1 : σ (24 + t) 1 = 1) (h3 : σ (24 + t) 3 = nI l) (asL i n : Int32) : f_X4_rangeFault σ t asL i n = some (nI (rgF 1 l (σ (24 + t) 2) asL i n)) := by
  unfold f_X4_rangeFault rgF
  rw [if_pos ht, h1, if_neg (show ¬ (1 : Int32) = 0 by decide), if_neg (show ¬ (1 : Nat) = 0 by decide)]
  by_cases hL : σ (24 + t) 2 = asL
  · rw [if_pos hL, if_pos hL]
    by_cases hn : 0 ≤ n
    · have hn' : 0 ≤ n.toInt := Int32.le_iff_toInt_le.mp hn
      rw [if_pos hn, if_pos hn, f_isOver ht hl h3 i n hn']
      by_cases h : 0 ≤ i.toInt ∧ i.toInt + n.toInt ≤ l
      · rw [if_pos h, if_pos h]; rfl
      · rw [if_neg h, if_neg h]; rfl
    · rw [if_neg hn, if_neg hn]; rfl
  · rw [if_neg hL, if_neg hL]; rfl
theorem f_rangeX0 {σ : Sg} {t : Nat} (ht : t < 4) (h1 : σ (24 + t) 1 = 0) (asL i n : Int32) : f_X4_rangeFault σ t asL i n = some (nI 1) := by
  unfold f_X4_rangeFault
  rw [if_pos ht, h1, if_pos rfl]; rfl
theorem f_barred1 {σ : Sg} {t l : Nat} (ht : t < 4) (hl : l ≤ 60) (h1 : σ 17 t = nI l) (asL i n : Int32) : f_X10_cellsBarred σ (nI t) asL i n.toInt64 = (if rgF 1 l (σ 18 t) asL i n = 0 then some (0, σ) else some (-10 - nI (rgF 1 l (σ 18 t) asL i n), st σ 0 0 (nI (rgF 1 l (σ 18 t) asL i n)))) := by
  unfold f_X10_cellsBarred f_X10_cellsBarred_25 f_X10_faulted rgF
  have c := nI_clamp (n := t) (by omega)
  have v4 : vin (nI t) 4 = true := vin_k ht (by decide)
  have e0' : (0 : Int64).toInt = 0 := rfl
  have e0 : (0 : Int32).toInt = 0 := rfl
  rw [if_pos v4, if_pos v4, c, h1, if_neg (n0 l (by omega)), if_pos (nI_pos' (by omega)), if_neg (show ¬ (1 : Nat) = 0 by decide)]
  by_cases hL : σ 18 t = asL
  · rw [if_pos hL, if_pos hL, f_Mbeyond σ hl]
    simp only [lg_cmp_ge]
    simp only [Int64.le_iff_toInt_le, Int32.le_iff_toInt_le, i64_toInt, e0', e0]
    by_cases hn : 0 ≤ n.toInt
    · rw [if_pos hn, if_pos hn]
      by_cases h : 0 ≤ i.toInt ∧ i.toInt + n.toInt ≤ l
      · rw [if_pos h, if_pos (show 0 ≤ i.toInt ∧ 0 ≤ n.toInt ∧ i.toInt + n.toInt ≤ l from ⟨h.1, hn, h.2⟩)]; rfl
      · rw [if_neg h, if_neg (fun q => h ⟨q.1, q.2.2⟩)]; rfl
    · rw [if_neg hn, if_neg hn]; rfl
  · rw [if_neg hL, if_neg hL]; rfl
theorem f_barred0 {σ : Sg} {t : Nat} (ht : t < 4) (h1 : σ 17 t = -1) (asL i : Int32) (n : Int64) : f_X10_cellsBarred σ (nI t) asL i n = some (-10 - nI 1, st σ 0 0 (nI 1)) := by
  unfold f_X10_cellsBarred f_X10_cellsBarred_25 f_X10_faulted
  have c := nI_clamp (n := t) (by omega)
  have v4 : vin (nI t) 4 = true := vin_k ht (by decide)
  rw [if_pos v4, if_pos v4, c, h1, if_pos (by decide), if_neg (by decide)]; rfl

/-! ===== the reference's hour ===== -/
theorem m_codes {b : Bool} : ((if b = true then (1 : Int32) else 0) = 0) ↔ b = false := by cases b <;> decide
theorem m_tired {σ : Sg} {n v u t : Nat} {d : Nat → Nat} {g la : Nat → Int32} {hs : HS} (T : TWM σ n v d g la) (hR : RNG n hs) (h13 : σ 13 u = (if (hs u).1 = some u then -9 else enc (hs u).1)) (h14 : σ 14 u = (hs u).2) (hu : u < n) (ht : t < n) (htu : t ≠ u) : f_X10_isTired σ (nI t) (nI u) = some (if tir la hs u t = true then 1 else 0) := by
  obtain ⟨hn, hv, h1, h6, hT⟩ := T
  unfold f_X10_isTired
  rw [if_pos (vin_k (show u < 8 by omega) (by decide)), if_pos (vin_k (show t < 8 by omega) (by decide)), nI_clamp (show u < 2 ^ 31 by omega), nI_clamp (show t < 2 ^ 31 by omega), h13, h14, (hT t ht).2.2.1]
  have e : (if (hs u).1 = some u then (-9 : Int32) else enc (hs u).1) = nI t ↔ (hs u).1 = some t := by
    by_cases q : (hs u).1 = some u
    · rw [if_pos q, q]
      have : ¬ (-9 : Int32) = nI t := fun z => by have := (enc_inj (a := none) (b := some t) (fun _ h => by cases h) (fun c h => by cases h; omega)).mp z; cases this
      exact ⟨fun z => absurd z this, fun z => absurd (Option.some.inj z).symm htu⟩
    · rw [if_neg q]
      exact enc_inj (b := some t) (fun c hc => by have := hR u hu c hc; omega) (fun c hc => by cases hc; omega)
  unfold tir
  by_cases h2 : (hs u).1 = some t
  · rw [if_pos (e.mpr h2), decide_eq_true h2]
    by_cases h3 : (hs u).2 < la t
    · rw [if_pos h3, decide_eq_false (by rw [Int32.lt_iff_toInt_lt] at h3; rw [Int32.le_iff_toInt_le]; omega)]; rfl
    · rw [if_neg h3, decide_eq_true (by rw [Int32.lt_iff_toInt_lt] at h3; rw [Int32.le_iff_toInt_le]; omega)]; rfl
  · rw [if_neg (fun q => h2 (e.mp q)), decide_eq_false h2]; rfl
theorem m_ahead {σ : Sg} {t u : Nat} {sv : Nat → Option Nat} (ht : t < 8) (hu : u ≤ 8) (h12 : ∀ w, w < u → σ 12 w = enc (sv w)) (hsv : ∀ w, w < u → ∀ c, sv w = some c → c < 8) : ∀ (k N j : Nat), k < N → j + k = u → l_X10_standsAhead_5 σ (nI t) (nI u) N (if stn sv t j = true then 1 else 0) (nI j) = some (if stn sv t u = true then 1 else 0) := by
  intro k
  induction k with
  | zero =>
    intro N j hN hj
    obtain ⟨N, rfl⟩ : ∃ M, N = M + 1 := ⟨N - 1, by omega⟩
    have : j = u := by omega
    subst this
    show f_X10_standsAhead_5 _ σ _ _ _ _ = _
    unfold f_X10_standsAhead_5
    rw [if_pos (nI_le (Nat.le_refl j) (by omega)), if_pos]
    cases stn sv t j <;> decide
  | succ k ih =>
    intro N j hN hj
    obtain ⟨N, rfl⟩ : ∃ M, N = M + 1 := ⟨N - 1, by omega⟩
    show f_X10_standsAhead_5 _ σ _ _ _ _ = _
    unfold f_X10_standsAhead_5 f_X10_standsAhead_37
    have ih' := ih N (j + 1) (by omega) (by omega)
    have hju : j < u := by omega
    rw [if_neg (nI_ge hju (by omega)), nI_1]
    rw [show stn sv t (j + 1) = (stn sv t j || (decide (sv j = some t) && !decide (j = t))) from rfl] at ih'
    cases hst : stn sv t j with
    | true =>
      rw [hst] at ih'
      rw [Bool.true_or] at ih'
      rw [if_neg (by decide)]
      exact ih'
    | false =>
      rw [hst] at ih'
      rw [Bool.false_or] at ih'
      rw [if_pos (by decide), if_pos (vin_k (show j < 8 by omega) (by decide)), nI_clamp (show j < 2 ^ 31 by omega), h12 j hju]
      have e : enc (sv j) = nI t ↔ sv j = some t := enc_inj (b := some t) (hsv j hju) (fun c h => by cases h; exact ht)
      by_cases q : sv j = some t
      · rw [if_pos (e.mpr q)]
        by_cases q2 : j = t
        · rw [if_pos (by rw [q2])]
          rw [decide_eq_true q, decide_eq_true q2] at ih'
          exact ih'
        · rw [if_neg (ne_of q2 (by omega) (by omega))]
          rw [decide_eq_true q, decide_eq_false q2] at ih'
          exact ih'
      · rw [if_neg (fun z => q (e.mp z))]
        rw [decide_eq_false q] at ih'
        exact ih'
theorem m_74 {σ : Sg} {n v t : Nat} {d : Nat → Nat} {g la : Nat → Int32} (T : TWM σ n v d g la) (ag : Int32 → Int32 → Int32 → Option Int32) (x1 x2 x3 : Int32) {b : Option Nat} (hb : ∀ c, b = some c → c < n) (ht : t < n) (mayb rather : Bool) (hr : v ≠ 1 → rather = prfS v g (fun _ => false) t b) (hr1 : v = 1 → rather = b.isNone) : f_X10_standsFor_74 ag σ x1 x2 x3 (enc b) (nI t) (if mayb = true then 1 else 0) = ag x3 (enc (if (mayb && rather) = true then some t else b)) (nI (d t)) := by
  obtain ⟨hn, hv, h1, h6, hT⟩ := T
  have hb8 : ∀ c, b = some c → c < 8 := fun c h => by have := hb c h; omega
  have e128 : ∀ s0 : Int32, f_X10_standsFor_128 ag σ x1 x2 x3 (nI t) s0 = ag x3 s0 (nI (d t)) := fun s0 => by
    unfold f_X10_standsFor_128
    rw [if_pos (vin_k (show t < 8 by omega) (by decide)), nI_clamp (show t < 2 ^ 31 by omega), (hT t ht).2.1]
  have e109 : ∀ r : Bool, f_X10_standsFor_109 ag σ x1 x2 x3 (enc b) (nI t) (if mayb = true then 1 else 0) (if r = true then 1 else 0) = ag x3 (enc (if (mayb && r) = true then some t else b)) (nI (d t)) := fun r => by
    unfold f_X10_standsFor_109
    rw [e128, e128]
    cases mayb <;> cases r <;> rfl
  unfold f_X10_standsFor_74
  rw [h6]
  cases b with
  | none =>
    have hrt : rather = true := by
      by_cases q : v = 1
      · rw [hr1 q]; rfl
      · rw [hr q]; unfold prfS; rw [if_neg q]; split <;> rfl
    rw [if_pos (show enc none < 0 by decide), hrt]
    exact e109 true
  | some c =>
    have hc := hb c rfl
    rw [if_neg (fun q => by have := (enc_neg hb8).mp q; cases this)]
    by_cases q2 : v = 2
    · subst q2
      rw [if_pos (show nI 2 = 2 from rfl)]
      show ((f_X10_goodOf σ (nI t)).bind fun r4 => (f_X10_goodOf σ (nI c)).bind _) = _
      rw [(hT t ht).2.2.2, (hT c hc).2.2.2]
      have hrt := hr (by decide)
      rw [show prfS 2 g (fun _ => false) t (some c) = decide (g c < g t) from rfl] at hrt
      simp only [Option.bind_some]
      by_cases q : g t ≤ g c
      · rw [if_pos q, hrt, decide_eq_false (by rw [Int32.lt_iff_toInt_lt]; rw [Int32.le_iff_toInt_le] at q; omega)]
        exact e109 false
      · rw [if_neg q, hrt, decide_eq_true (by rw [Int32.lt_iff_toInt_lt]; rw [Int32.le_iff_toInt_le] at q; omega)]
        exact e109 true
    · have hrt : rather = false := by
        by_cases q : v = 1
        · rw [hr1 q]; rfl
        · rw [hr q]; unfold prfS; rw [if_neg q, if_neg q2]; rfl
      rw [if_neg (show ¬ nI v = 2 from ne_of (c := 2) q2 (by omega) (by omega)), hrt]
      exact e109 false
theorem m_row {σ : Sg} {n v u : Nat} {d : Nat → Nat} {g la : Nat → Int32} {hs : HS} {sv : Nat → Option Nat} (T : TWM σ n v d g la) (hR : RNG n hs) (h13 : σ 13 u = (if (hs u).1 = some u then -9 else enc (hs u).1)) (h14 : σ 14 u = (hs u).2) (h12 : ∀ w, w < u → σ 12 w = enc (sv w)) (hsv : ∀ w, w < u → ∀ c, sv w = some c → c < 8) (br : Int32) (hu : u < n) : ∀ (k N : Nat) (b : Option Nat) (t : Nat) (x3 : Int32) (sn : Nat → Bool), k < N → cn sn 8 ≤ k → t < n → sn u = true → (∀ c, b = some c → c < n) → (∀ t, t < 8 → bt x3 t = sn t) → l_X10_standsFor_16 σ (nI u) br N x3 (enc b) (nI t) = some (enc (rowS d (fun t => !bt br t && !tir la hs u t) (prfS v g (fun t => stn sv t u)) k sn b t)) := by
  obtain ⟨hn, hv, h1, h6, hT⟩ := id T
  intro k
  induction k with
  | zero =>
    intro N b t x3 sn hN hc ht hsu hb hx
    obtain ⟨N, rfl⟩ : ∃ M, N = M + 1 := ⟨N - 1, by omega⟩
    show f_X10_standsFor_16 _ σ _ _ _ _ _ = _
    unfold f_X10_standsFor_16
    have hst : sn t = true := cn_0 sn 8 (by omega) t (by omega)
    rw [f_isIn σ x3 (show t < 32 by omega), hx t (by omega), hst]
    simp only [Option.bind_some, if_true]
    rw [if_neg (by decide)]; rfl
  | succ k ih =>
    intro N b t x3 sn hN hc ht hsu hb hx
    obtain ⟨N, rfl⟩ : ∃ M, N = M + 1 := ⟨N - 1, by omega⟩
    show f_X10_standsFor_16 _ σ _ _ _ _ _ = _
    unfold f_X10_standsFor_16
    have ht8 : t < 8 := by omega
    rw [f_isIn σ x3 (show t < 32 by omega), hx t ht8]
    unfold rowS
    cases hst : sn t with
    | true =>
      simp only [Option.bind_some, if_true]
      rw [if_neg (by decide)]
    | false =>
      have htu : t ≠ u := fun e => by rw [e, hsu] at hst; cases hst
      have hx' : ∀ w, w < 8 → bt (x3 ||| ((1 : Int32) <<< (nI t &&& 31))) w = (decide (w = t) || sn w) := fun w hw => by rw [b_add x3 (by omega) (by omega), hx w hw]
      have hcn : cn (fun w => decide (w = t) || sn w) 8 ≤ k := by
        have := cn_add sn t hst 8
        rw [if_pos ht8] at this
        omega
      have hd := (hT t ht).1
      have goon : ∀ b', (∀ c, b' = some c → c < n) → l_X10_standsFor_16 σ (nI u) br N (x3 ||| ((1 : Int32) <<< (nI t &&& 31))) (enc b') (nI (d t)) = some (enc (rowS d (fun t => !bt br t && !tir la hs u t) (prfS v g (fun t => stn sv t u)) k (fun w => decide (w = t) || sn w) b' (d t))) := fun b' hb' => ih N b' (d t) _ _ (by omega) hcn hd (by simp [hsu]) hb' hx'
      have hbt : ∀ q : Bool, ∀ c, (if q = true then some t else b) = some c → c < n := fun q c h => by
        cases q with
        | false => exact hb c h
        | true => cases h; exact ht
      simp only [Option.bind_some]
      rw [if_neg (show ¬ false = true by decide), if_pos rfl, if_neg (show ¬ false = true by decide), f_isIn σ br (show t < 32 by omega)]
      simp only [Option.bind_some]
      have R0 : ∀ mayb : Bool, mayb = (!bt br t && !tir la hs u t) → v ≠ 1 → f_X10_standsFor_74 (l_X10_standsFor_16 σ (nI u) br N) σ (nI u) br (x3 ||| ((1 : Int32) <<< (nI t &&& 31))) (enc b) (nI t) (if mayb = true then 1 else 0) = some (enc (rowS d (fun t => !bt br t && !tir la hs u t) (prfS v g (fun t => stn sv t u)) k (fun w => decide (w = t) || sn w) (if ((!bt br t && !tir la hs u t) && prfS v g (fun t => stn sv t u) t b) = true then some t else b) (d t))) := by
        intro mayb hm hv1
        rw [m_74 T _ _ _ _ hb ht mayb (prfS v g (fun t => stn sv t u) t b) (fun _ => by unfold prfS; rw [if_neg hv1, if_neg hv1]) (fun q => absurd q hv1), hm]
        exact goon _ (hbt _)
      have R1 : ∀ mayb : Bool, mayb = ((!bt br t && !tir la hs u t) && !stn sv t u) → v = 1 → f_X10_standsFor_74 (l_X10_standsFor_16 σ (nI u) br N) σ (nI u) br (x3 ||| ((1 : Int32) <<< (nI t &&& 31))) (enc b) (nI t) (if mayb = true then 1 else 0) = some (enc (rowS d (fun t => !bt br t && !tir la hs u t) (prfS v g (fun t => stn sv t u)) k (fun w => decide (w = t) || sn w) (if ((!bt br t && !tir la hs u t) && prfS v g (fun t => stn sv t u) t b) = true then some t else b) (d t))) := by
        intro mayb hm hv1
        rw [m_74 T _ _ _ _ hb ht mayb b.isNone (fun q => absurd hv1 q) (fun _ => rfl), hm]
        have e : ((!bt br t && !tir la hs u t) && !stn sv t u && b.isNone) = ((!bt br t && !tir la hs u t) && prfS v g (fun t => stn sv t u) t b) := by
          unfold prfS
          rw [if_pos hv1, Bool.and_assoc, Bool.and_comm (!stn sv t u)]
        rw [e]
        exact goon _ (hbt _)
      have hv01 : ∀ mayb : Bool, mayb = (!bt br t && !tir la hs u t) → mayb = false → f_X10_standsFor_74 (l_X10_standsFor_16 σ (nI u) br N) σ (nI u) br (x3 ||| ((1 : Int32) <<< (nI t &&& 31))) (enc b) (nI t) 0 = some (enc (rowS d (fun t => !bt br t && !tir la hs u t) (prfS v g (fun t => stn sv t u)) k (fun w => decide (w = t) || sn w) (if ((!bt br t && !tir la hs u t) && prfS v g (fun t => stn sv t u) t b) = true then some t else b) (d t))) := by
        intro mayb hm hf
        by_cases q : v = 1
        · exact R1 false (by rw [← hm, hf]; rfl) q
        · exact R0 false (by rw [← hm, hf]) q
      cases hbr : bt br t with
      | true =>
        rw [if_neg (show ¬ (if true = true then (1 : Int32) else 0) = 0 by decide)]
        have := hv01 (!bt br t && !tir la hs u t) rfl (by rw [hbr]; rfl)
        rw [hbr] at this
        exact this
      | false =>
        rw [if_pos (show (if false = true then (1 : Int32) else 0) = 0 by decide), m_tired T hR h13 h14 hu ht htu]
        simp only [Option.bind_some]
        cases hti : tir la hs u t with
        | true =>
          rw [if_neg (show ¬ (if true = true then (1 : Int32) else 0) = 0 by decide)]
          have := hv01 (!bt br t && !tir la hs u t) rfl (by rw [hti]; simp)
          rw [hbr, hti] at this
          exact this
        | false =>
          rw [if_pos (show (if false = true then (1 : Int32) else 0) = 0 by decide), h6]
          by_cases hv1 : v = 1
          · subst hv1
            rw [if_pos (show nI 1 = 1 from rfl)]
            have ea := m_ahead (σ := σ) (sv := sv) ht8 (by omega) h12 hsv u fu 0 (by unfold fu; omega) (by omega)
            rw [nI_0, show stn sv t 0 = false from rfl, if_neg (by decide)] at ea
            unfold f_X10_standsAhead
            rw [ea]
            simp only [Option.bind_some]
            cases hsa : stn sv t u with
            | true =>
              rw [if_neg (show ¬ (if true = true then (1 : Int32) else 0) = 0 by decide)]
              have := R1 false (by rw [hbr, hti, hsa]; rfl) rfl
              rw [hbr, hti] at this
              exact this
            | false =>
              rw [if_pos (show (if false = true then (1 : Int32) else 0) = 0 by decide)]
              have := R1 true (by rw [hbr, hti, hsa]; rfl) rfl
              rw [hbr, hti] at this
              exact this
          · rw [if_neg (show ¬ nI v = 1 from ne_of (c := 1) hv1 (by omega) (by omega))]
            have := R0 true (by rw [hbr, hti]; rfl) hv1
            rw [hbr, hti] at this
            exact this
theorem m_sif {σ : Sg} {n v u : Nat} {d : Nat → Nat} {g la : Nat → Int32} {hs : HS} {sv : Nat → Option Nat} (T : TWM σ n v d g la) (hR : RNG n hs) (h13 : σ 13 u = (if (hs u).1 = some u then -9 else enc (hs u).1)) (h14 : σ 14 u = (hs u).2) (h12 : ∀ w, w < u → σ 12 w = enc (sv w)) (hsv : ∀ w, w < u → ∀ c, sv w = some c → c < 8) (br : Int32) (hu : u < n) : f_X10_standsFor σ (nI u) br = some (enc (rowS d (fun t => !bt br t && !tir la hs u t) (prfS v g (fun t => stn sv t u)) 8 (fun w => decide (w = u)) none (d u))) := by
  obtain ⟨hn, hv, h1, h6, hT⟩ := id T
  unfold f_X10_standsFor
  rw [if_pos (vin_k (show u < 8 by omega) (by decide)), nI_clamp (show u < 2 ^ 31 by omega), (hT u hu).2.1]
  exact m_row T hR h13 h14 h12 hsv br hu 8 fu none (d u) _ (fun w => decide (w = u)) (by unfold fu; omega) (cn_le _ 8) (hT u hu).1 (by simp) (fun c hc => by cases hc) (fun t ht => b_one (by omega) (by omega))
def GH (σ σ' : Sg) : Prop := ∀ o, o ≠ 12 → o ≠ 13 → o ≠ 14 → σ' o = σ o
theorem GH.rf {σ : Sg} : GH σ σ := fun _ _ _ _ => rfl
theorem GH.tr {a b c : Sg} (h1 : GH a b) (h2 : GH b c) : GH a c := fun o a1 a2 a3 => (h2 o a1 a2 a3).trans (h1 o a1 a2 a3)
theorem GH.to {σ : Sg} {o k : Nat} {v : Int32} (h : o = 12 ∨ o = 13 ∨ o = 14) : GH σ (st σ o k v) := fun o' a1 a2 a3 => st_o (by omega)
theorem GH.fm {σ σ' : Sg} (h : GH σ σ') : FM σ σ' := fun o k _ _ _ _ _ a1 a2 a3 _ => by rw [h o a1 a2 a3]
theorem goodOf_cg {σ σ' : Sg} (h1 : σ' 1 = σ 1) (h3 : σ' 3 = σ 3) (x : Int32) : f_X10_goodOf σ' x = f_X10_goodOf σ x := by unfold f_X10_goodOf; rw [h1, h3]
theorem TWM.gh {σ σ' : Sg} {n v : Nat} {d : Nat → Nat} {g la : Nat → Int32} (T : TWM σ n v d g la) (h : GH σ σ') : TWM σ' n v d g la := by
  obtain ⟨hn, hv, h1, h6, hT⟩ := T
  have e : ∀ o, o ≠ 12 → o ≠ 13 → o ≠ 14 → σ' o = σ o := h
  refine ⟨hn, hv, by rw [e 0 (by decide) (by decide) (by decide)]; exact h1, by rw [e 0 (by decide) (by decide) (by decide)]; exact h6, fun t ht => ?_⟩
  rw [e 2 (by decide) (by decide) (by decide), e 4 (by decide) (by decide) (by decide), goodOf_cg (e 1 (by decide) (by decide) (by decide)) (e 3 (by decide) (by decide) (by decide))]
  exact hT t ht
/-- the second walk: for how many hours on end -/
theorem m_hour2 {n v : Nat} {d : Nat → Nat} {g la : Nat → Int32} {hs : HS} (hR : RNG n hs) (sv : Nat → Option Nat) (hsv : ∀ w, w < n → ∀ c, sv w = some c → c < n) : ∀ (k N u : Nat) (σ : Sg), k < N → u + k = n → TWM σ n v d g la → (∀ w, w < n → σ 12 w = enc (sv w)) → HM σ n (fun w => if w < u then (sv w, nst hs w (sv w)) else hs w) → ∃ σ', l_X10_goHour_42 N (nI u) σ = some σ' ∧ GH σ σ' ∧ σ' 12 = σ 12 ∧ HM σ' n (fun w => (sv w, nst hs w (sv w))) := by
  intro k
  induction k with
  | zero =>
    intro N u σ hN hu T h12 hH
    obtain ⟨N, rfl⟩ : ∃ M, N = M + 1 := ⟨N - 1, by omega⟩
    have : u = n := by omega
    subst this
    refine ⟨σ, ?_, GH.rf, rfl, fun w hw => ?_⟩
    · show f_X10_goHour_42 _ σ _ = _
      unfold f_X10_goHour_42
      rw [T.2.2.1, if_pos (nI_le (Nat.le_refl u) (by have := T.1; omega))]
    · have := hH w hw
      simp only [if_pos hw] at this
      exact this
  | succ k ih =>
    intro N u σ hN hu T h12 hH
    obtain ⟨N, rfl⟩ : ∃ M, N = M + 1 := ⟨N - 1, by omega⟩
    obtain ⟨hn, hv, h1, h6, hT⟩ := id T
    have hun : u < n := by omega
    have cu := nI_clamp (show u < 2 ^ 31 by omega)
    have v8 : vin (nI u) 8 = true := vin_k (by omega) (by decide)
    have hHu := hH u hun
    simp only [if_neg (Nat.lt_irrefl u)] at hHu
    have hR8 : ∀ c, (hs u).1 = some c → c < 8 := fun c h => by have := hR u hun c h; omega
    have hS8 : ∀ c, sv u = some c → c < 8 := fun c h => by have := hsv u hun c h; omega
    have next : ∀ x s : Int32, x = (if sv u = some u then -9 else enc (sv u)) → s = nst hs u (sv u) → ∃ σ', f_X10_goHour_111 (l_X10_goHour_42 N) σ (nI u) x s (nI u) = some σ' ∧ GH σ σ' ∧ σ' 12 = σ 12 ∧ HM σ' n (fun w => (sv w, nst hs w (sv w))) := by
      intro x s hx hs'
      unfold f_X10_goHour_111
      rw [if_pos v8, if_pos v8, cu, nI_1]
      have hF : GH σ (st (st σ 14 u s) 13 u x) := (GH.to (by omega)).tr (GH.to (by omega))
      obtain ⟨σ', e1, e2, e3, e4⟩ := ih N (u + 1) (st (st σ 14 u s) 13 u x) (by omega) (by omega) (T.gh hF) (fun w hw => by simp (disch := omega) only [st_ok]; exact h12 w hw) (fun w hw => by
        by_cases e : w = u
        · subst e
          simp only [if_pos (Nat.lt_succ_self w)]
          rw [st_s, st_o (by decide), st_s]
          exact ⟨hx, hs'⟩
        · have := hH w hw
          simp (disch := omega) only [st_ok]
          by_cases q : w < u
          · simp only [if_pos q] at this
            simp only [if_pos (show w < u + 1 by omega)]
            exact this
          · simp only [if_neg q] at this
            simp only [if_neg (show ¬ w < u + 1 by omega)]
            exact this)
      exact ⟨σ', e1, hF.tr e2, by rw [e3, st_o (by decide), st_o (by decide)], e4⟩
    show ∃ σ', f_X10_goHour_42 _ σ _ = some σ' ∧ _
    unfold f_X10_goHour_42
    rw [h1, if_neg (nI_ge hun (by omega)), if_pos v8, cu, h12 u hun]
    have eu : enc (sv u) = nI u ↔ sv u = some u := enc_inj (b := some u) hS8 (fun c h => by cases h; omega)
    by_cases q : sv u = some u
    · rw [if_pos (eu.mpr q)]
      unfold f_X10_goHour_71 f_X10_goHour_102
      rw [if_pos (show (-9 : Int32) < 0 by decide), if_pos (show (-9 : Int32) < 0 by decide)]
      exact next _ _ (by rw [if_pos q]) (by unfold nst; rw [if_pos (Or.inr q)])
    · rw [if_neg (fun z => q (eu.mp z))]
      unfold f_X10_goHour_71 f_X10_goHour_102
      by_cases q2 : sv u = none
      · rw [if_pos ((enc_neg hS8).mpr q2), if_pos ((enc_neg hS8).mpr q2)]
        exact next _ _ (by rw [if_neg q]) (by unfold nst; rw [if_pos (Or.inl q2)])
      · rw [if_neg (fun z => q2 ((enc_neg hS8).mp z)), if_neg (fun z => q2 ((enc_neg hS8).mp z)), if_pos v8, cu, hHu.1, hHu.2]
        have e13 : enc (sv u) = (if (hs u).1 = some u then (-9 : Int32) else enc (hs u).1) ↔ (hs u).1 = sv u := by
          by_cases q3 : (hs u).1 = some u
          · rw [if_pos q3, enc_9 hS8, q3]
            exact ⟨fun z => absurd z q2, fun z => absurd z.symm q⟩
          · rw [if_neg q3, enc_inj hS8 hR8]
            exact eq_comm
        by_cases q4 : (hs u).1 = sv u
        · rw [if_pos (e13.mpr q4)]
          exact next _ _ (by rw [if_neg q]) (by unfold nst; rw [if_neg (fun z => z.elim q2 q), if_pos q4])
        · rw [if_neg (fun z => q4 (e13.mp z))]
          exact next _ _ (by rw [if_neg q]) (by unfold nst; rw [if_neg (fun z => z.elim q2 q), if_neg q4])
def SM (σ : Sg) (n : Nat) (hs : HS) : Prop := ∀ w, w < n → σ 12 w = enc (hs w).1
theorem m_hour1 {n v : Nat} {d : Nat → Nat} {g la : Nat → Int32} {hs : HS} (hR : RNG n hs) (br : Int32) : ∀ (k N u : Nat) (σ : Sg), k < N → u + k = n → TWM σ n v d g la → (∀ w, w < u → σ 12 w = enc (svU v d g la (bt br) hs u w)) → HM σ n hs → ∃ σ', l_X10_goHour_2 br N (nI u) σ = some σ' ∧ GH σ σ' ∧ SM σ' n (hrS v n d g la (bt br) hs) ∧ HM σ' n (hrS v n d g la (bt br) hs) := by
  intro k
  induction k with
  | zero =>
    intro N u σ hN hu T h12 hH
    obtain ⟨N, rfl⟩ : ∃ M, N = M + 1 := ⟨N - 1, by omega⟩
    have : u = n := by omega
    subst this
    have hd : ∀ t, t < u → d t < u := fun t ht => (T.2.2.2.2 t ht).1
    obtain ⟨σ', e1, e2, e3, e4⟩ := m_hour2 hR (svU v d g la (bt br) hs u) (fun w hw c h => svU_in hd (Nat.le_refl u) h) u fu 0 σ (by have := T.1; unfold fu; omega) (by omega) T h12 (fun w hw => by simp only [if_neg (Nat.not_lt_zero w)]; exact hH w hw)
    refine ⟨σ', ?_, e2, fun w hw => by rw [e3]; exact h12 w hw, e4⟩
    show f_X10_goHour_2 _ σ _ _ = _
    unfold f_X10_goHour_2
    rw [T.2.2.1, if_pos (nI_le (Nat.le_refl u) (by have := T.1; omega))]
    rw [nI_0] at e1
    exact e1
  | succ k ih =>
    intro N u σ hN hu T h12 hH
    obtain ⟨N, rfl⟩ : ∃ M, N = M + 1 := ⟨N - 1, by omega⟩
    obtain ⟨hn, hv, h1, h6, hT⟩ := id T
    have hun : u < n := by omega
    have hd : ∀ t, t < n → d t < n := fun t ht => (hT t ht).1
    have cu := nI_clamp (show u < 2 ^ 31 by omega)
    have v8 : vin (nI u) 8 = true := vin_k (by omega) (by decide)
    have next : ∀ x : Int32, x = enc (srv v d g la (bt br) hs (svU v d g la (bt br) hs u) u) → ∃ σ', f_X10_goHour_33 (l_X10_goHour_2 br N) σ br (nI u) x (nI u) = some σ' ∧ GH σ σ' ∧ SM σ' n (hrS v n d g la (bt br) hs) ∧ HM σ' n (hrS v n d g la (bt br) hs) := by
      intro x hx
      unfold f_X10_goHour_33
      rw [if_pos v8, cu, nI_1]
      have hF : GH σ (st σ 12 u x) := GH.to (by omega)
      obtain ⟨σ', e1, e2, e3, e4⟩ := ih N (u + 1) (st σ 12 u x) (by omega) (by omega) (T.gh hF) (fun w hw => by
        rw [show svU v d g la (bt br) hs (u + 1) w = (if w = u then srv v d g la (bt br) hs (svU v d g la (bt br) hs u) u else svU v d g la (bt br) hs u w) from rfl]
        by_cases e : w = u
        · subst e; rw [st_s, if_pos rfl]; exact hx
        · rw [st_k e, if_neg e]; exact h12 w (by omega)) (fun w hw => by simp (disch := omega) only [st_ok]; exact hH w hw)
      exact ⟨σ', e1, hF.tr e2, e3, e4⟩
    show ∃ σ', f_X10_goHour_2 _ σ _ _ = some σ' ∧ _
    unfold f_X10_goHour_2
    rw [h1, if_neg (nI_ge hun (by omega)), f_isIn σ br (show u < 32 by omega)]
    simp only [Option.bind_some]
    cases hb : bt br u with
    | true =>
      rw [if_neg (show ¬ (if true = true then (1 : Int32) else 0) = 0 by decide), m_sif T hR (hH u hun).1 (hH u hun).2 (sv := svU v d g la (bt br) hs u) h12 (fun w hw c h => by have := svU_in hd (show u ≤ n by omega) h; omega) br hun]
      simp only [Option.bind_some]
      exact next _ (by unfold srv; rw [if_pos hb])
    | false =>
      rw [if_pos (show (if false = true then (1 : Int32) else 0) = 0 by decide)]
      exact next _ (by unfold srv; rw [if_neg (by rw [hb]; decide)]; rfl)
theorem m_gh {σ : Sg} {n v : Nat} {d : Nat → Nat} {g la : Nat → Int32} {hs : HS} (hR : RNG n hs) (br : Int32) (T : TWM σ n v d g la) (hH : HM σ n hs) : ∃ σ', f_X10_goHour σ br = some σ' ∧ GH σ σ' ∧ SM σ' n (hrS v n d g la (bt br) hs) ∧ HM σ' n (hrS v n d g la (bt br) hs) := by
  obtain ⟨σ', e1, e2⟩ := m_hour1 hR br n fu 0 σ (by have := T.1; unfold fu; omega) (by omega) T (fun w hw => absurd hw (Nat.not_lt_zero w)) hH
  rw [nI_0] at e1
  exact ⟨σ', e1, e2⟩
theorem m_begin : ∀ (k N j : Nat) (σ : Sg), k < N → j + k = 8 → (∀ w, w < j → σ 13 w = -9 ∧ σ 14 w = 0) → ∃ σ', l_X10_beginHours_2 N (nI j) σ = some σ' ∧ GH σ σ' ∧ ∀ w, w < 8 → σ' 13 w = -9 ∧ σ' 14 w = 0 := by
  intro k
  induction k with
  | zero =>
    intro N j σ hN hj h
    obtain ⟨N, rfl⟩ : ∃ M, N = M + 1 := ⟨N - 1, by omega⟩
    have : j = 8 := by omega
    subst this
    refine ⟨σ, ?_, GH.rf, h⟩
    show f_X10_beginHours_2 _ σ _ = _
    unfold f_X10_beginHours_2
    rw [if_pos (show (8 : Int32) ≤ nI 8 by decide)]
  | succ k ih =>
    intro N j σ hN hj h
    obtain ⟨N, rfl⟩ : ∃ M, N = M + 1 := ⟨N - 1, by omega⟩
    have hF : GH σ (st (st σ 13 j (-9)) 14 j 0) := (GH.to (by omega)).tr (GH.to (by omega))
    obtain ⟨σ', e1, e2, e3⟩ := ih N (j + 1) (st (st σ 13 j (-9)) 14 j 0) (by omega) (by omega) (fun w hw => by
      by_cases e : w = j
      · subst e; rw [st_o (by decide), st_s, st_s]; exact ⟨rfl, rfl⟩
      · simp (disch := omega) only [st_ok]; exact h w (by omega))
    refine ⟨σ', ?_, hF.tr e2, e3⟩
    show f_X10_beginHours_2 _ σ _ = _
    unfold f_X10_beginHours_2
    rw [if_neg (show ¬ (8 : Int32) ≤ nI j from nI_ge (b := 8) (by omega) (by decide)), if_pos (vin_k (by omega) (by decide)), nI_clamp (by omega), nI_1]
    exact e1
theorem m_bh (σ : Sg) {n : Nat} (hn : n ≤ 8) : ∃ σ', f_X10_beginHours σ = some σ' ∧ GH σ σ' ∧ HM σ' n hs0 := by
  obtain ⟨σ', e1, e2, e3⟩ := m_begin 8 fu 0 σ (by unfold fu; omega) (by omega) (fun w hw => absurd hw (Nat.not_lt_zero w))
  rw [nI_0] at e1
  exact ⟨σ', e1, e2, fun u hu => ⟨by rw [(e3 u (by omega)).1]; rfl, (e3 u (by omega)).2⟩⟩
theorem m_zero {σ : Sg} {n v : Nat} {d : Nat → Nat} {g la : Nat → Int32} (br : Int32) (T : TWM σ n v d g la) : ∃ σ', f_X10_goFirst σ br = some σ' ∧ GH σ σ' ∧ SM σ' n (hrS v n d g la (bt br) hs0) := by
  obtain ⟨σ1, e1, f1, h1⟩ := m_bh σ T.1
  obtain ⟨σ2, e2, f2, h2, -⟩ := m_gh hs0_rng br (T.gh f1) h1
  refine ⟨σ2, ?_, f1.tr f2, h2⟩
  unfold f_X10_goFirst
  rw [e1]
  simp only [Option.bind_some]
  rw [e2]; rfl

/-! ===== what is read off the hours ===== -/
def undS (hs : HS) : Nat → Int32
  | 0 => 0
  | k + 1 => if (hs k).1 = none then undS hs k ||| ((1 : Int32) <<< (nI k &&& 31)) else undS hs k
def ptsS (hs : HS) (g : Nat → Int32) : Nat → Int32
  | 0 => 0
  | k + 1 => match (hs k).1 with
    | none => ptsS hs g k
    | some c => ptsS hs g k + (if c = k then 100 else if 99 < 10 * g c then 99 else 10 * g c)
theorem i_or0 (x : Int32) : x ||| 0 = x := by
  apply b_ext
  intro i hi
  rw [b_or, b_0, Bool.or_false]
theorem x_und {σ : Sg} {n : Nat} {hs : HS} (hn : n ≤ 8) (h1 : σ 2 1 = nI n) (hR : RNG n hs) (hH : HX σ n hs) : f_X3_undoneUses σ = some (undS hs n) := by
  have loop : ∀ (k N j : Nat), k < N → j + k = n → l_X3_undoneUses_4 σ N (undS hs j) (nI j) = some (undS hs n) := by
    intro k
    induction k with
    | zero =>
      intro N j hN hj
      obtain ⟨N, rfl⟩ : ∃ M, N = M + 1 := ⟨N - 1, by omega⟩
      have : j = n := by omega
      subst this
      show f_X3_undoneUses_4 _ σ _ _ = _
      unfold f_X3_undoneUses_4
      rw [h1, if_pos (nI_le (Nat.le_refl j) (by omega))]
    | succ k ih =>
      intro N j hN hj
      obtain ⟨N, rfl⟩ : ∃ M, N = M + 1 := ⟨N - 1, by omega⟩
      have hjn : j < n := by omega
      show f_X3_undoneUses_4 _ σ _ _ = _
      unfold f_X3_undoneUses_4
      rw [h1, if_neg (nI_ge hjn (by omega)), if_neg (show ¬ (8 : Int32) ≤ nI j from nI_ge (b := 8) (by omega) (by decide)), if_pos (vin_k (by omega) (by decide)), nI_clamp (by omega), (hH j hjn).1, nI_1]
      have e9 := enc_9 (a := (hs j).1) (fun t ht => by have := hR j hjn t ht; omega)
      have := ih N (j + 1) (by omega) (by omega)
      unfold undS at this
      by_cases q : (hs j).1 = none
      · rw [if_pos (e9.mpr q)]; rw [if_pos q] at this
        cases hn0 : n with
        | zero => omega
        | succ m => rw [hn0] at this; exact this
      · rw [if_neg (fun z => q (e9.mp z))]; rw [if_neg q] at this
        cases hn0 : n with
        | zero => omega
        | succ m => rw [hn0] at this; exact this
  have := loop n fu 0 (by unfold fu; omega) (by omega)
  rw [nI_0] at this
  exact this
theorem m_und {σ : Sg} {n : Nat} {hs : HS} (hn : n ≤ 8) (h1 : σ 0 1 = nI n) (hR : RNG n hs) (hH : SM σ n hs) : f_X10_undoneNow σ = some (undS hs n) := by
  have loop : ∀ (k N j : Nat), k < N → j + k = n → l_X10_undoneNow_4 σ N (undS hs j) (nI j) = some (undS hs n) := by
    intro k
    induction k with
    | zero =>
      intro N j hN hj
      obtain ⟨N, rfl⟩ : ∃ M, N = M + 1 := ⟨N - 1, by omega⟩
      have : j = n := by omega
      subst this
      show f_X10_undoneNow_4 _ σ _ _ = _
      unfold f_X10_undoneNow_4
      rw [h1, if_pos (nI_le (Nat.le_refl j) (by omega))]
    | succ k ih =>
      intro N j hN hj
      obtain ⟨N, rfl⟩ : ∃ M, N = M + 1 := ⟨N - 1, by omega⟩
      have hjn : j < n := by omega
      show f_X10_undoneNow_4 _ σ _ _ = _
      unfold f_X10_undoneNow_4 f_X10_undoneNow_29
      rw [h1, if_neg (nI_ge hjn (by omega)), if_pos (vin_k (by omega) (by decide)), nI_clamp (by omega), hH j hjn, nI_1, i_or0]
      have e9 := enc_neg (a := (hs j).1) (fun t ht => by have := hR j hjn t ht; omega)
      have e9' : (0 ≤ enc (hs j).1) ↔ ¬ enc (hs j).1 < 0 := by rw [Int32.le_iff_toInt_le, Int32.lt_iff_toInt_lt]; omega
      have := ih N (j + 1) (by omega) (by omega)
      rw [show undS hs (j + 1) = (if (hs j).1 = none then undS hs j ||| ((1 : Int32) <<< (nI j &&& 31)) else undS hs j) from rfl] at this
      by_cases q : (hs j).1 = none
      · rw [if_neg (fun z => (e9'.mp z) (e9.mpr q))]; rw [if_pos q] at this; exact this
      · rw [if_pos (e9'.mpr (fun z => q (e9.mp z)))]; rw [if_neg q] at this; exact this
  have := loop n fu 0 (by unfold fu; omega) (by omega)
  rw [nI_0] at this
  exact this
theorem x_pts {σ : Sg} {n : Nat} {d : Nat → Nat} {g la : Nat → Int32} {hs : HS} (T : TWX σ n d g la) (hR : RNG n hs) (hH : HX σ n hs) : f_X3_points σ = some (ptsS hs g n) := by
  obtain ⟨hn, h1, hT⟩ := T
  have loop : ∀ (k N j : Nat), k < N → j + k = n → l_X3_points_4 σ N (ptsS hs g j) (nI j) = some (ptsS hs g n) := by
    intro k
    induction k with
    | zero =>
      intro N j hN hj
      obtain ⟨N, rfl⟩ : ∃ M, N = M + 1 := ⟨N - 1, by omega⟩
      have : j = n := by omega
      subst this
      show f_X3_points_4 _ σ _ _ = _
      unfold f_X3_points_4
      rw [h1, if_pos (nI_le (Nat.le_refl j) (by omega))]
    | succ k ih =>
      intro N j hN hj
      obtain ⟨N, rfl⟩ : ∃ M, N = M + 1 := ⟨N - 1, by omega⟩
      have hjn : j < n := by omega
      show f_X3_points_4 _ σ _ _ = _
      unfold f_X3_points_4
      have := ih N (j + 1) (by omega) (by omega)
      rw [show ptsS hs g (j + 1) = (match (hs j).1 with | none => ptsS hs g j | some c => ptsS hs g j + (if c = j then 100 else if 99 < 10 * g c then 99 else 10 * g c)) from rfl] at this
      rw [h1, if_neg (nI_ge hjn (by omega)), if_neg (show ¬ (8 : Int32) ≤ nI j from nI_ge (b := 8) (by omega) (by decide)), if_pos (vin_k (by omega) (by decide)), nI_clamp (by omega), (hH j hjn).1, nI_1]
      cases q : (hs j).1 with
      | none =>
        rw [q] at this
        rw [f_thingAt h1 hn, if_neg (show ¬ vin (enc none) n = true by rw [vin_iff]; show ¬ ((0 : Int) ≤ -9 ∧ _); omega)]
        exact this
      | some c =>
        have hc := hR j hjn c q
        rw [q] at this
        rw [show enc (some c) = nI c from rfl, xth h1 hn hc]
        show (if c < 8 then _ else _) = _
        rw [if_pos (show c < 8 by omega), (hT c hc).2.2.2]
        simp only [] at this
        by_cases q2 : c = j
        · rw [if_pos (by rw [q2])]; rw [if_pos q2] at this; exact this
        · rw [if_neg (ne_of q2 (by omega) (by omega))]; rw [if_neg q2] at this; exact this
  have := loop n fu 0 (by unfold fu; omega) (by omega)
  rw [nI_0] at this
  exact this
theorem m_pts {σ : Sg} {n v : Nat} {d : Nat → Nat} {g la : Nat → Int32} {hs : HS} (T : TWM σ n v d g la) (hR : RNG n hs) (hH : SM σ n hs) : f_X10_servesNow σ = some (ptsS hs g n) := by
  obtain ⟨hn, hv, h1, h6, hT⟩ := T
  have loop : ∀ (k N j : Nat), k < N → j + k = n → l_X10_servesNow_4 σ N (ptsS hs g j) (nI j) = some (ptsS hs g n) := by
    intro k
    induction k with
    | zero =>
      intro N j hN hj
      obtain ⟨N, rfl⟩ : ∃ M, N = M + 1 := ⟨N - 1, by omega⟩
      have : j = n := by omega
      subst this
      show f_X10_servesNow_4 _ σ _ _ = _
      unfold f_X10_servesNow_4
      rw [h1, if_pos (nI_le (Nat.le_refl j) (by omega))]
    | succ k ih =>
      intro N j hN hj
      obtain ⟨N, rfl⟩ : ∃ M, N = M + 1 := ⟨N - 1, by omega⟩
      have hjn : j < n := by omega
      show f_X10_servesNow_4 _ σ _ _ = _
      unfold f_X10_servesNow_4 f_X10_servesNow_35 f_X10_servesNow_62
      have := ih N (j + 1) (by omega) (by omega)
      rw [show ptsS hs g (j + 1) = (match (hs j).1 with | none => ptsS hs g j | some c => ptsS hs g j + (if c = j then 100 else if 99 < 10 * g c then 99 else 10 * g c)) from rfl] at this
      rw [h1, if_neg (nI_ge hjn (by omega)), if_pos (vin_k (by omega) (by decide)), nI_clamp (by omega), hH j hjn, nI_1]
      cases q : (hs j).1 with
      | none =>
        rw [q] at this
        have en : ¬ enc none = nI j := fun z => by have := (enc_inj (a := none) (b := some j) (fun _ h => by cases h) (fun c h => by cases h; omega)).mp z; cases this
        rw [if_neg (show ¬ (0 : Int32) ≤ enc none by decide), if_neg en, if_pos (show (0 : Int32) ≤ 99 by decide), Int32.add_zero]
        exact this
      | some c =>
        have hc := hR j hjn c q
        rw [q] at this
        rw [show enc (some c) = nI c from rfl, if_pos (nI_pos' (by omega)), (hT c hc).2.2.2]
        simp only [Option.bind_some]
        simp only [] at this
        by_cases q2 : c = j
        · rw [if_pos (by rw [q2])]; rw [if_pos q2] at this; exact this
        · rw [if_neg (ne_of q2 (by omega) (by omega))]; rw [if_neg q2] at this
          by_cases q3 : 99 < 10 * g c
          · rw [if_neg (by rw [Int32.le_iff_toInt_le]; rw [Int32.lt_iff_toInt_lt] at q3; omega)]; rw [if_pos q3] at this; exact this
          · rw [if_pos (by rw [Int32.le_iff_toInt_le]; rw [Int32.lt_iff_toInt_lt] at q3; omega)]; rw [if_neg q3] at this; exact this
  have := loop n fu 0 (by unfold fu; omega) (by omega)
  rw [nI_0] at this
  exact this
/-- who is broken in an hour, by the breaks ahead of the k-th -/
def bkS (σ : Sg) (x : Int32) : Nat → Int32
  | 0 => 0
  | k + 1 => if σ 10 k ≤ x ∧ x ≤ σ 11 k then bkS σ x k ||| ((1 : Int32) <<< (σ 9 k &&& 31)) else bkS σ x k
theorem bkS_cg {σ σ' : Sg} (h9 : σ' 9 = σ 9) (h10 : σ' 10 = σ 10) (h11 : σ' 11 = σ 11) (x : Int32) : ∀ k, bkS σ' x k = bkS σ x k
  | 0 => rfl
  | k + 1 => by unfold bkS; rw [bkS_cg h9 h10 h11 x k, h9, h10, h11]
theorem x_brk {σx σm : Sg} {n v b r : Nat} (h : REL1 σx σm n v b r) (x : Int32) : f_X1_brokenIn σx x = some (bkS σm x b) := by
  have hb8 := h.1.2.2.2.1
  have loop : ∀ (k N j : Nat), k < N → j + k = b → l_X1_brokenIn_4 σx x N (bkS σm x j) (nI j) = some (bkS σm x b) := by
    intro k
    induction k with
    | zero =>
      intro N j hN hj
      obtain ⟨N, rfl⟩ : ∃ M, N = M + 1 := ⟨N - 1, by omega⟩
      have : j = b := by omega
      subst this
      show f_X1_brokenIn_4 _ σx _ _ _ = _
      unfold f_X1_brokenIn_4
      rw [h.2.2.2.1.1, if_pos (nI_le (Nat.le_refl j) (by omega))]
    | succ k ih =>
      intro N j hN hj
      obtain ⟨N, rfl⟩ : ∃ M, N = M + 1 := ⟨N - 1, by omega⟩
      have hjb : j < b := by omega
      have hB := h.2.2.2.2.2.2.2.1 j hjb
      show f_X1_brokenIn_4 _ σx _ _ _ = _
      unfold f_X1_brokenIn_4
      have := ih N (j + 1) (by omega) (by omega)
      rw [show bkS σm x (j + 1) = (if σm 10 j ≤ x ∧ x ≤ σm 11 j then bkS σm x j ||| ((1 : Int32) <<< (σm 9 j &&& 31)) else bkS σm x j) from rfl] at this
      rw [h.2.2.2.1.1, if_neg (nI_ge hjb (by omega)), if_neg (show ¬ (8 : Int32) ≤ nI j from nI_ge (b := 8) (by omega) (by decide)), if_pos (vin_k (by omega) (by decide)), nI_clamp (by omega), hB.1, hB.2.1, hB.2.2, nI_1]
      by_cases q : x < σm 10 j
      · rw [if_pos q]
        rw [if_neg (fun z => by rw [Int32.lt_iff_toInt_lt] at q; have := Int32.le_iff_toInt_le.mp z.1; omega)] at this
        exact this
      · rw [if_neg q]
        by_cases q2 : σm 11 j < x
        · rw [if_pos q2]
          rw [if_neg (fun z => by rw [Int32.lt_iff_toInt_lt] at q2; have := Int32.le_iff_toInt_le.mp z.2; omega)] at this
          exact this
        · rw [if_neg q2]
          rw [if_pos (by rw [Int32.lt_iff_toInt_lt] at q q2; rw [Int32.le_iff_toInt_le, Int32.le_iff_toInt_le]; omega)] at this
          exact this
  have := loop b fu 0 (by unfold fu; omega) (by omega)
  rw [nI_0] at this
  exact this
theorem m_brk {σ : Sg} {b : Nat} (hb : σ 0 13 = nI b) (hb8 : b ≤ 8) (x : Int32) : f_X10_brokenIn σ x = some (bkS σ x b) := by
  have loop : ∀ (k N j : Nat), k < N → j + k = b → l_X10_brokenIn_4 σ x N (bkS σ x j) (nI j) = some (bkS σ x b) := by
    intro k
    induction k with
    | zero =>
      intro N j hN hj
      obtain ⟨N, rfl⟩ : ∃ M, N = M + 1 := ⟨N - 1, by omega⟩
      have : j = b := by omega
      subst this
      show f_X10_brokenIn_4 _ σ _ _ _ = _
      unfold f_X10_brokenIn_4
      rw [hb, if_pos (nI_le (Nat.le_refl j) (by omega))]
    | succ k ih =>
      intro N j hN hj
      obtain ⟨N, rfl⟩ : ∃ M, N = M + 1 := ⟨N - 1, by omega⟩
      have hjb : j < b := by omega
      show f_X10_brokenIn_4 _ σ _ _ _ = _
      unfold f_X10_brokenIn_4 f_X10_brokenIn_47
      have := ih N (j + 1) (by omega) (by omega)
      rw [show bkS σ x (j + 1) = (if σ 10 j ≤ x ∧ x ≤ σ 11 j then bkS σ x j ||| ((1 : Int32) <<< (σ 9 j &&& 31)) else bkS σ x j) from rfl] at this
      rw [hb, if_neg (nI_ge hjb (by omega)), if_pos (vin_k (by omega) (by decide)), nI_clamp (by omega), f_in32 σ x (σ 10 j) (σ 11 j) rfl rfl, nI_1, i_or0]
      simp only [Option.bind_some]
      by_cases q : σ 10 j ≤ x ∧ x ≤ σ 11 j
      · rw [if_pos q, if_neg (show ¬ (1 : Int32) = 0 by decide)]; rw [if_pos q] at this; exact this
      · rw [if_neg q, if_pos rfl]; rw [if_neg q] at this; exact this
  have := loop b fu 0 (by unfold fu; omega) (by omega)
  rw [nI_0] at this
  exact this
/-! ===== hour by hour ===== -/
def dO (σ : Sg) (t : Nat) : Nat := (σ 2 t).toNatClampNeg
theorem tw {σx σm : Sg} {n v b r : Nat} (h : REL1 σx σm n v b r) : TWX σx n (dO σm) (fun t => σx (4 + t) 5) (σm 4) ∧ TWM σm n v (dO σm) (fun t => σx (4 + t) 5) (σm 4) := by
  have hn := h.1.1
  have hd : ∀ t, t < n → dO σm t < n ∧ σm 2 t = nI (dO σm t) := fun t ht => by
    obtain ⟨d, hd, e⟩ := (h.2.2.2.2.2.2.1 t ht).2.2.1
    unfold dO
    rw [e, nI_clamp (by omega)]
    exact ⟨hd, rfl⟩
  refine ⟨⟨hn, h.2.1.1, fun t ht => ?_⟩, hn, h.1.2.2.1, h.2.1.2, h.2.2.1.2, fun t ht => ⟨(hd t ht).1, (hd t ht).2, rfl, f_goodOf h ht⟩⟩
  have hT := h.2.2.2.2.2.2.1 t ht
  exact ⟨(hd t ht).1, by rw [hT.2.1]; exact (hd t ht).2, hT.2.2.2.2.1, rfl⟩
def HHS (v n : Nat) (d : Nat → Nat) (g la : Nat → Int32) (bk : Nat → Int32) : Nat → HS
  | 0 => hs0
  | k + 1 => hrS v n d g la (bt (bk k)) (HHS v n d g la bk k)
theorem HHS_rng {v n : Nat} {d : Nat → Nat} {g la : Nat → Int32} {bk : Nat → Int32} (hd : ∀ t, t < n → d t < n) : ∀ k, RNG n (HHS v n d g la bk k)
  | 0 => hs0_rng
  | _ + 1 => hrS_rng hd
theorem GH.bk {σ σ' : Sg} (h : GH σ σ') (x : Int32) (k : Nat) : bkS σ' x k = bkS σ x k := bkS_cg (h 9 (by decide) (by decide) (by decide)) (h 10 (by decide) (by decide) (by decide)) (h 11 (by decide) (by decide) (by decide)) x k
theorem x_upto {σx σm : Sg} {n v b r : Nat} (h : REL1 σx σm n v b r) {hh : Nat} (hh30 : hh < 30) : ∃ σ', f_X3_workUpTo σx (nI hh) = some σ' ∧ FH σx σ' ∧ HX σ' n (HHS v n (dO σm) (fun t => σx (4 + t) 5) (σm 4) (fun k => bkS σm (nI k) b) (hh + 1)) := by
  obtain ⟨TX, TM⟩ := tw h
  have hd : ∀ t, t < n → dO σm t < n := fun t ht => (TX.2.2 t ht).1
  have loop : ∀ (k N j : Nat) (σ : Sg), k < N → j + k = hh + 1 → FH σx σ → HX σ n (HHS v n (dO σm) (fun t => σx (4 + t) 5) (σm 4) (fun k => bkS σm (nI k) b) j) → ∃ σ', l_X3_workUpTo_6 (nI hh) N (nI j) σ = some σ' ∧ FH σx σ' ∧ HX σ' n (HHS v n (dO σm) (fun t => σx (4 + t) 5) (σm 4) (fun k => bkS σm (nI k) b) (hh + 1)) := by
    intro k
    induction k with
    | zero =>
      intro N j σ hN hj hF hH
      obtain ⟨N, rfl⟩ : ∃ M, N = M + 1 := ⟨N - 1, by omega⟩
      have : j = hh + 1 := by omega
      subst this
      refine ⟨σ, ?_, hF, hH⟩
      show f_X3_workUpTo_6 _ σ _ _ = _
      unfold f_X3_workUpTo_6
      rw [if_pos (nI_lt (Nat.lt_succ_self hh) (by omega))]
    | succ k ih =>
      intro N j σ hN hj hF hH
      obtain ⟨N, rfl⟩ : ∃ M, N = M + 1 := ⟨N - 1, by omega⟩
      have hv := h.1.2.2.1
      have e2 : σ 2 2 = nI v := by rw [hF 2 (by decide) (by decide) (by decide)]; exact h.2.2.1.1
      obtain ⟨σ1, g1, g2, g3⟩ := x_wh hv (HHS_rng hd j) (bkS σm (nI j) b) (TX.fh hF) hH
      obtain ⟨σ', q1, q2, q3⟩ := ih N (j + 1) σ1 (by omega) (by omega) (hF.tr g2) g3
      refine ⟨σ', ?_, q2, q3⟩
      show f_X3_workUpTo_6 _ σ _ _ = _
      unfold f_X3_workUpTo_6
      rw [if_neg (nI_nlt (show j ≤ hh by omega) (by omega)), if_neg (show ¬ (30 : Int32) ≤ nI j from nI_ge (b := 30) (by omega) (by decide)), x_brk (h.fr hF.fx FM.rf), e2]
      simp only [Option.bind_some]
      rw [g1]
      simp only [Option.bind_some]
      rw [nI_1]
      exact q1
  obtain ⟨σ1, e1, f1, h1⟩ := x_forget (σ := σx) (n := n) TX.1
  obtain ⟨σ', g1, g2, g3⟩ := loop (hh + 1) fu 0 σ1 (by unfold fu; omega) (by omega) f1 h1
  refine ⟨σ', ?_, g2, g3⟩
  unfold f_X3_workUpTo
  rw [e1]
  simp only [Option.bind_some]
  rw [nI_0] at g1
  exact g1
theorem m_upto {σx σm : Sg} {n v b r : Nat} (h : REL1 σx σm n v b r) {hh : Nat} (hh30 : hh < 30) : ∃ σ', f_X10_goTo σm (nI hh) = some σ' ∧ GH σm σ' ∧ SM σ' n (HHS v n (dO σm) (fun t => σx (4 + t) 5) (σm 4) (fun k => bkS σm (nI k) b) (hh + 1)) := by
  obtain ⟨TX, TM⟩ := tw h
  have hd : ∀ t, t < n → dO σm t < n := fun t ht => (TX.2.2 t ht).1
  have loop : ∀ (k N j : Nat) (σ : Sg), k < N → j + k = hh + 1 → GH σm σ → HM σ n (HHS v n (dO σm) (fun t => σx (4 + t) 5) (σm 4) (fun k => bkS σm (nI k) b) j) → (j = hh + 1 → SM σ n (HHS v n (dO σm) (fun t => σx (4 + t) 5) (σm 4) (fun k => bkS σm (nI k) b) j)) → ∃ σ', l_X10_goTo_6 (nI hh) N (nI j) σ = some σ' ∧ GH σm σ' ∧ SM σ' n (HHS v n (dO σm) (fun t => σx (4 + t) 5) (σm 4) (fun k => bkS σm (nI k) b) (hh + 1)) := by
    intro k
    induction k with
    | zero =>
      intro N j σ hN hj hF hH hS
      obtain ⟨N, rfl⟩ : ∃ M, N = M + 1 := ⟨N - 1, by omega⟩
      have : j = hh + 1 := by omega
      subst this
      refine ⟨σ, ?_, hF, hS rfl⟩
      show f_X10_goTo_6 _ σ _ _ = _
      unfold f_X10_goTo_6
      rw [if_pos (nI_lt (Nat.lt_succ_self hh) (by omega))]
    | succ k ih =>
      intro N j σ hN hj hF hH hS
      obtain ⟨N, rfl⟩ : ∃ M, N = M + 1 := ⟨N - 1, by omega⟩
      obtain ⟨σ1, g1, g2, g3, g4⟩ := m_gh (HHS_rng hd j) (bkS σm (nI j) b) (TM.gh hF) hH
      obtain ⟨σ', q1, q2, q3⟩ := ih N (j + 1) σ1 (by omega) (by omega) (hF.tr g2) g4 (fun _ => g3)
      refine ⟨σ', ?_, q2, q3⟩
      show f_X10_goTo_6 _ σ _ _ = _
      unfold f_X10_goTo_6
      rw [if_neg (nI_nlt (show j ≤ hh by omega) (by omega)), m_brk (b := b) (by rw [hF 0 (by decide) (by decide) (by decide)]; exact h.2.2.2.1.2) h.1.2.2.2.1, hF.bk]
      simp only [Option.bind_some]
      rw [g1]
      simp only [Option.bind_some]
      rw [nI_1]
      exact q1
  obtain ⟨σ1, e1, f1, h1⟩ := m_bh σm (n := n) TX.1
  obtain ⟨σ', g1, g2, g3⟩ := loop (hh + 1) fu 0 σ1 (by unfold fu; omega) (by omega) f1 h1 (fun q => by omega)
  refine ⟨σ', ?_, g2, g3⟩
  unfold f_X10_goTo
  rw [e1]
  simp only [Option.bind_some]
  rw [nI_0] at g1
  exact g1
theorem REL.fr {σx σx' σm σm' : Sg} (h : REL σx σm) (hx : FH σx σx') (hm : GH σm σm') : REL σx' σm' := ⟨h.1.fr hx.fx hm.fm, by rw [hx 0 (by decide) (by decide) (by decide), hm 0 (by decide) (by decide) (by decide)]; exact h.2⟩
theorem x_srv {σ : Sg} {n t : Nat} {hs : HS} (hn : n ≤ 8) (hH : HX σ n hs) (ht : t < n) : f_X3_serverOf σ (nI t) = some (enc (hs t).1) := by
  unfold f_X3_serverOf
  rw [if_neg (n0 t (by omega)), if_neg (show ¬ (8 : Int32) ≤ nI t from nI_ge (b := 8) (by omega) (by decide)), if_pos (vin_k (by omega) (by decide)), nI_clamp (by omega), (hH t ht).1]
theorem sim_by {σx σm : Sg} (h : REL σx σm) (a1 : Int32) (a2 : Int32) : ∃ r σx1 σm1, f_X9_by σx a1 a2 = some (r, σx1) ∧ f_X10_by σm a1 a2 = some (r, σm1) ∧ REL σx1 σm1 := by
  have self := h
  obtain ⟨⟨n, v, b, r, h⟩, hf⟩ := h
  have hn := h.1.1
  unfold f_X9_by f_X10_by
  rw [f_thingAt h.2.1.1 h.1.1, f_noThing h.2.1.2 h.1.1, f_beyond, f_isHour]
  by_cases hv : vin a1 n = true
  · obtain ⟨t, ht, rfl⟩ := vin_of hv (by omega)
    have v8 : vin (nI t) 8 = true := vin_k (by omega) (by decide)
    have c := nI_clamp (show t < 2 ^ 31 by omega)
    simp only [if_pos hv, Option.bind_some, if_true, if_pos v8, c]
    by_cases h2 : 0 ≤ a2 ∧ a2 ≤ (29 : Int32)
    · obtain ⟨w, hw, rfl⟩ := rng (y := 29) (by decide) h2
      simp only [if_pos h2, if_true, if_neg (show ¬ (1 : Int32) = 0 by decide)]
      obtain ⟨σ1, e1, f1, g1⟩ := x_upto h (show w < 30 by omega)
      obtain ⟨σ2, e2, f2, g2⟩ := m_upto h (show w < 30 by omega)
      rw [e1, e2]
      simp only [Option.bind_some]
      rw [x_srv hn g1 ht, g2 t ht]
      exact ⟨_, _, _, rfl, rfl, self.fr f1 f2⟩
    · simp only [if_neg h2, if_true, if_neg (show ¬ (1 : Int32) = 0 by decide)]
      exact ⟨_, _, _, rfl, rfl, self⟩
  · simp only [if_neg hv, Option.bind_some, if_neg (show ¬ (1 : Int32) = 0 by decide)]
    exact ⟨_, _, _, rfl, rfl, self⟩
theorem sim_undone {σx σm : Sg} (h : REL σx σm) (a1 : Int32) : ∃ r σx1 σm1, f_X9_undone σx a1 = some (r, σx1) ∧ f_X10_undone σm a1 = some (r, σm1) ∧ REL σx1 σm1 := by
  have self := h
  obtain ⟨⟨n, v, b, r, h⟩, hf⟩ := h
  have hn := h.1.1
  obtain ⟨TX, TM⟩ := tw h
  have hd : ∀ t, t < n → dO σm t < n := fun t ht => (TX.2.2 t ht).1
  unfold f_X9_undone f_X10_undone f_X9_refusalOf f_X10_refusedFor
  rw [f_beyond, f_isHour, h.2.1.1, h.2.1.2]
  by_cases h2 : 0 ≤ a1 ∧ a1 ≤ (29 : Int32)
  · obtain ⟨w, hw, rfl⟩ := rng (y := 29) (by decide) h2
    simp only [if_pos h2, Option.bind_some, if_true, if_neg (show ¬ (1 : Int32) = 0 by decide)]
    by_cases h0 : nI n = 0
    · simp only [if_pos h0, Option.bind_some, if_neg (show ¬ (-3 : Int32) = 0 by decide), if_neg (show ¬ (0 : Int32) ≤ -3 by decide)]
      exact ⟨_, _, _, rfl, rfl, self⟩
    · simp only [if_neg h0, Option.bind_some, if_true, if_pos (show (0 : Int32) ≤ 0 by decide)]
      obtain ⟨σ1, e1, f1, g1⟩ := x_upto h (show w < 30 by omega)
      obtain ⟨σ2, e2, f2, g2⟩ := m_upto h (show w < 30 by omega)
      rw [e1, e2]
      simp only [Option.bind_some]
      rw [x_und hn (TX.fh f1).2.1 (HHS_rng hd (w + 1)) g1, m_und hn (TM.gh f2).2.2.1 (HHS_rng hd (w + 1)) g2]
      exact ⟨_, _, _, rfl, rfl, self.fr f1 f2⟩
  · simp only [if_neg h2, Option.bind_some, if_true, if_neg (show ¬ (1 : Int32) = 0 by decide), if_neg (show ¬ (-2 : Int32) = 0 by decide), if_neg (show ¬ (0 : Int32) ≤ -2 by decide)]
    exact ⟨_, _, _, rfl, rfl, self⟩
theorem sim_serves {σx σm : Sg} (h : REL σx σm) (a1 : Int32) : ∃ r σx1 σm1, f_X9_serves σx a1 = some (r, σx1) ∧ f_X10_serves σm a1 = some (r, σm1) ∧ REL σx1 σm1 := by
  have self := h
  obtain ⟨⟨n, v, b, r, h⟩, hf⟩ := h
  have hn := h.1.1
  obtain ⟨TX, TM⟩ := tw h
  have hd : ∀ t, t < n → dO σm t < n := fun t ht => (TX.2.2 t ht).1
  unfold f_X9_serves f_X10_serves f_X9_refusalOf f_X10_refusedFor
  rw [f_beyond, f_isHour, h.2.1.1, h.2.1.2]
  by_cases h2 : 0 ≤ a1 ∧ a1 ≤ (29 : Int32)
  · obtain ⟨w, hw, rfl⟩ := rng (y := 29) (by decide) h2
    simp only [if_pos h2, Option.bind_some, if_true, if_neg (show ¬ (1 : Int32) = 0 by decide)]
    by_cases h0 : nI n = 0
    · simp only [if_pos h0, Option.bind_some, if_neg (show ¬ (-3 : Int32) = 0 by decide), if_neg (show ¬ (0 : Int32) ≤ -3 by decide)]
      exact ⟨_, _, _, rfl, rfl, self⟩
    · simp only [if_neg h0, Option.bind_some, if_true, if_pos (show (0 : Int32) ≤ 0 by decide)]
      obtain ⟨σ1, e1, f1, g1⟩ := x_upto h (show w < 30 by omega)
      obtain ⟨σ2, e2, f2, g2⟩ := m_upto h (show w < 30 by omega)
      rw [e1, e2]
      simp only [Option.bind_some]
      rw [x_pts (TX.fh f1) (HHS_rng hd (w + 1)) g1, m_pts (TM.gh f2) (HHS_rng hd (w + 1)) g2]
      exact ⟨_, _, _, rfl, rfl, self.fr f1 f2⟩
  · simp only [if_neg h2, Option.bind_some, if_true, if_neg (show ¬ (1 : Int32) = 0 by decide), if_neg (show ¬ (-2 : Int32) = 0 by decide), if_neg (show ¬ (0 : Int32) ≤ -2 by decide)]
    exact ⟨_, _, _, rfl, rfl, self⟩

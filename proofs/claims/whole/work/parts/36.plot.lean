/-! ===== sets, and how many are in one ===== -/
def pcR : Nat → Nat → Nat
  | 0, _ => 0
  | k + 1, s => s % 2 + pcR k (s / 2)
theorem pcR_le : ∀ k s, pcR k s ≤ k
  | 0, _ => Nat.le_refl 0
  | k + 1, s => by have := pcR_le k (s / 2); unfold pcR; omega
theorem pcR_0 : ∀ k, pcR k 0 = 0
  | 0 => rfl
  | k + 1 => by unfold pcR; rw [show 0 / 2 = 0 from rfl, pcR_0 k]
theorem pcR_mono : ∀ k a b, (∀ i, a.testBit i = true → b.testBit i = true) → pcR k a ≤ pcR k b
  | 0, _, _, _ => Nat.le_refl 0
  | k + 1, a, b, h => by
    unfold pcR
    have h1 := pcR_mono k (a / 2) (b / 2) (fun i hi => by
      rw [← Nat.testBit_succ] at hi ⊢
      exact h (i + 1) hi)
    have h2 := h 0
    rw [Nat.testBit_zero, Nat.testBit_zero] at h2
    simp only [decide_eq_true_eq] at h2
    omega
def pcN (s : Nat) : Nat := pcR 8 s
theorem x_bc (σ : Sg) {s : Nat} (hs : s < 256) : f_J6_bitCount_0f7a4 σ (nI s) = some (nI (pcN s)) :=
  (by decide +kernel : ∀ s, s < 256 → f_J6_bitCount_0f7a4 (fun _ _ => 0) (nI s) = some (nI (pcN s))) s hs
theorem m_bits (σ : Sg) {s : Nat} (hs : s < 256) : f_X10_bits σ (nI s) = some (nI (pcN s)) := by
  have loop : ∀ (k N s a : Nat), k < N → s < 2 ^ k → k ≤ 8 → l_X10_bits_4 σ N (nI a) (nI s) = some (nI (a + pcR k s)) := by
    intro k
    induction k with
    | zero =>
      intro N s a hN h1 h2
      obtain ⟨N, rfl⟩ : ∃ M, N = M + 1 := ⟨N - 1, by omega⟩
      have : s = 0 := by simpa using h1
      subst this
      show f_X10_bits_4 _ σ _ _ = _
      unfold f_X10_bits_4
      rw [if_pos (show nI 0 ≤ 0 by decide)]; rfl
    | succ k ih =>
      intro N s a hN h1 h2
      obtain ⟨N, rfl⟩ : ∃ M, N = M + 1 := ⟨N - 1, by omega⟩
      have hs : s < 256 := Nat.lt_of_lt_of_le h1 (Nat.pow_le_pow_right (by decide) h2)
      show f_X10_bits_4 _ σ _ _ = _
      unfold f_X10_bits_4
      by_cases q : s = 0
      · subst q
        rw [if_pos (show nI 0 ≤ 0 by decide), pcR_0]; rfl
      · rw [if_neg (nI_nle (by omega) (by omega)), show nI s &&& 1 = nI (s % 2) from pk_andN (by omega) (m := 1) 1 (by decide +kernel), show nI s >>> ((1 : Int32) &&& 31) = nI (s / 2) from pk_shrN (k := 1) (by omega) _ (by decide +kernel), nI_add, ih N (s / 2) (a + s % 2) (by omega) (by rw [Nat.pow_succ] at h1; omega) (by omega)]
        rw [show pcR (k + 1) s = s % 2 + pcR k (s / 2) from rfl, Nat.add_assoc]
  have := loop 8 fu s 0 (by unfold fu; omega) hs (Nat.le_refl 8)
  rw [Nat.zero_add, nI_0] at this
  exact this
/-- a count of sets' things: what both sides answer -/
def PC (pc : Nat → Nat) : Prop := (∀ (σ : Sg) (s : Nat), s < 256 → f_J6_bitCount_0f7a4 σ (nI s) = some (nI (pc s))) ∧ (∀ (σ : Sg) (s : Nat), s < 256 → f_X10_bits σ (nI s) = some (nI (pc s))) ∧ (∀ s, pc s ≤ 8) ∧ (∀ a b, (∀ i, a.testBit i = true → b.testBit i = true) → pc a ≤ pc b) ∧ ∀ k, k ≤ 8 → pc (2 ^ k - 1) = k
theorem pc_ok : PC pcN := ⟨fun σ s h => x_bc σ h, fun σ s h => m_bits σ h, fun s => pcR_le 8 s, fun a b h => pcR_mono 8 a b h, by decide +kernel⟩
theorem p2 : ∀ n, n ≤ 8 → (1 : Int32) <<< (nI n &&& 31) = nI (2 ^ n) := by decide +kernel
theorem p2_le {n : Nat} (h : n ≤ 8) : 2 ^ n ≤ 256 := Nat.pow_le_pow_right (n := 2) (by decide) h
theorem x_sets {σ : Sg} {n : Nat} (hn : n ≤ 8) (h : σ 2 1 = nI n) : f_X7_sets σ = some (nI (2 ^ n)) := by unfold f_X7_sets; rw [h, p2 n hn]
theorem m_all {σ : Sg} {n : Nat} (hn : n ≤ 8) (h : σ 0 1 = nI n) : f_X10_all σ = some (nI (2 ^ n - 1)) := by
  unfold f_X10_all
  rw [h, p2 n hn, show nI (2 ^ n) - 1 = nI (2 ^ n - 1) from pk_sub (b := 1) (Nat.one_le_two_pow)]
theorem bt_nI {s i : Nat} (hi : i < 32) : bt (nI s) i = s.testBit i := by
  unfold bt
  show (BitVec.ofNat 32 s).getLsbD i = _
  rw [BitVec.getLsbD_ofNat, decide_eq_true hi, Bool.true_and]
theorem msk {x : Int32} (h : ∀ i, 8 ≤ i → i < 32 → bt x i = false) : ∃ U, U < 256 ∧ x = nI U := by
  refine ⟨x.toBitVec.toNat, ?_, ?_⟩
  · show _ < 2 ^ 8
    apply Nat.lt_pow_two_of_testBit
    intro i hi
    by_cases q : i < 32
    · exact h i hi q
    · exact b_big (x := x) (by omega)
  · apply Int32.toBitVec_inj.mp
    show _ = BitVec.ofNat 32 _
    rw [BitVec.ofNat_toNat, BitVec.setWidth_eq]
/-- what stays while one tries sets -/
def FT (σ σ' : Sg) : Prop := ∀ o, o ≠ 19 → o ≠ 20 → o ≠ 21 → o ≠ 22 → σ' o = σ o
def GT (σ σ' : Sg) : Prop := (∀ o, o ≠ 0 → o ≠ 12 → o ≠ 13 → o ≠ 14 → σ' o = σ o) ∧ ∀ k, k ≠ 20 → σ' 0 k = σ 0 k
theorem FT.rf {σ : Sg} : FT σ σ := fun _ _ _ _ _ => rfl
theorem FT.tr {a b c : Sg} (h1 : FT a b) (h2 : FT b c) : FT a c := fun o a1 a2 a3 a4 => (h2 o a1 a2 a3 a4).trans (h1 o a1 a2 a3 a4)
theorem FH.ft {σ σ' : Sg} (h : FH σ σ') : FT σ σ' := fun o a1 a2 a3 _ => h o a1 a2 a3
theorem FT.to {σ : Sg} {k : Nat} {v : Int32} : FT σ (st σ 22 k v) := fun o _ _ _ a => st_o a
theorem FT.fx {σ σ' : Sg} (h : FT σ σ') : FX σ σ' := fun o k _ a1 a2 a3 a4 => by rw [h o a1 a2 a3 a4]
theorem GT.rf {σ : Sg} : GT σ σ := ⟨fun _ _ _ _ _ => rfl, fun _ _ => rfl⟩
theorem GT.tr {a b c : Sg} (h1 : GT a b) (h2 : GT b c) : GT a c := ⟨fun o a1 a2 a3 a4 => (h2.1 o a1 a2 a3 a4).trans (h1.1 o a1 a2 a3 a4), fun k hk => (h2.2 k hk).trans (h1.2 k hk)⟩
theorem GH.gt {σ σ' : Sg} (h : GH σ σ') : GT σ σ' := ⟨fun o _ a1 a2 a3 => h o a1 a2 a3, fun k _ => by rw [h 0 (by decide) (by decide) (by decide)]⟩
theorem GT.to {σ : Sg} {v : Int32} : GT σ (st σ 0 20 v) := ⟨fun o a1 _ _ _ => st_o a1, fun k hk => st_k hk⟩
theorem GT.fm {σ σ' : Sg} (h : GT σ σ') : FM σ σ' := fun o k a0 _ _ _ _ a1 a2 a3 _ => by
  by_cases ho : o = 0
  · subst ho; exact h.2 k (a0 rfl).2.2.2
  · rw [h.1 o ho a1 a2 a3]
theorem TWX.ft {σ σ' : Sg} {n : Nat} {d : Nat → Nat} {g la : Nat → Int32} (T : TWX σ n d g la) (h : FT σ σ') : TWX σ' n d g la := by
  obtain ⟨hn, h1, hT⟩ := T
  refine ⟨hn, by rw [h 2 (by decide) (by decide) (by decide) (by decide)]; exact h1, fun t ht => ?_⟩
  rw [h (4 + t) (by omega) (by omega) (by omega) (by omega)]
  exact hT t ht
theorem TWM.gt {σ σ' : Sg} {n v : Nat} {d : Nat → Nat} {g la : Nat → Int32} (T : TWM σ n v d g la) (h : GT σ σ') : TWM σ' n v d g la := by
  obtain ⟨hn, hv, h1, h6, hT⟩ := T
  refine ⟨hn, hv, by rw [h.2 1 (by decide)]; exact h1, by rw [h.2 6 (by decide)]; exact h6, fun t ht => ?_⟩
  rw [h.1 2 (by decide) (by decide) (by decide) (by decide), h.1 4 (by decide) (by decide) (by decide) (by decide), goodOf_cg (h.1 1 (by decide) (by decide) (by decide) (by decide)) (h.1 3 (by decide) (by decide) (by decide) (by decide))]
  exact hT t ht
theorem REL.ft {σx σx' σm σm' : Sg} (h : REL σx σm) (hx : FT σx σx') (hm : GT σm σm') : REL σx' σm' := ⟨h.1.fr hx.fx hm.fm, by rw [hx 0 (by decide) (by decide) (by decide) (by decide), hm.2 0 (by decide)]; exact h.2⟩
/-- the fewer of two sets, none at first -/
def fwr (pc : Nat → Nat) (s : Nat) (b : Option Nat) : Bool := match b with
  | none => true
  | some c => decide (pc s < pc c)
theorem PC.lt {pc : Nat → Nat} (P : PC pc) (s : Nat) : pc s < 2 ^ 31 := by have := P.2.2.1 s; omega
theorem x_fewer {pc : Nat → Nat} (P : PC pc) (σ : Sg) {s : Nat} (hs : s < 256) {b : Option Nat} (hb : ∀ c, b = some c → c < 256) : f_X8_isFewer σ (nI s) (enc b) = some (if fwr pc s b = true then 1 else 0) := by
  unfold f_X8_isFewer
  cases b with
  | none => rfl
  | some c =>
    have hc := hb c rfl
    have e9 : ¬ enc (some c) = -9 := fun q => by
      have e1 : (nI c).toInt = (-9 : Int32).toInt := by rw [show nI c = -9 from q]
      rw [nI_toInt (by omega)] at e1
      have e2 : (-9 : Int32).toInt = -9 := rfl
      omega
    rw [if_neg e9, P.1 σ s hs, show enc (some c) = nI c from rfl, P.1 σ c hc]
    simp only [Option.bind_some]
    by_cases q : pc s < pc c
    · have ef : fwr pc s (some c) = true := decide_eq_true q
      rw [if_neg (nI_ge q (P.lt c)), if_pos ef]
    · have ef : ¬ fwr pc s (some c) = true := fun z => q (of_decide_eq_true z)
      rw [if_pos (nI_le (by omega) (P.lt s)), if_neg ef]
theorem enc_neg2 {a : Option Nat} (ha : ∀ t, a = some t → t < 256) : enc a < 0 ↔ a = none := by
  cases a with
  | none => exact ⟨fun _ => rfl, fun _ => by decide⟩
  | some t => exact ⟨fun e => absurd e (n0 t (by have := ha t rfl; omega)), fun e => by cases e⟩
/-! ===== plot ===== -/
theorem plot_loop {pc : Nat → Nat} (P : PC pc) {σx σm : Sg} {n v t : Nat} {d : Nat → Nat} {g la : Nat → Int32} (TX : TWX σx n d g la) (TM : TWM σm n v d g la) (hx2 : σx 2 2 = nI v) (ht : t < n) : ∀ (k N j : Nat) (b : Option Nat) (σ σ2 : Sg), k < N → j + k = 2 ^ n → (∀ c, b = some c → c < 256) → FT σx σ → GT σm σ2 → ∃ q σ' σ2', l_X8_plotOn_5 (nI t) N (enc b) (nI j) σ = some (q, σ') ∧ l_X10_plot_15 (nI t) N (enc b) (nI j) σ2 = some (q, σ2') ∧ FT σx σ' ∧ GT σm σ2' := by
  have hn := TX.1
  have hv := TM.2.1
  have hp := p2_le hn
  have hp1 : 1 ≤ 2 ^ n := Nat.one_le_two_pow
  have hd : ∀ t, t < n → d t < n := fun t ht => (TX.2.2 t ht).1
  intro k
  induction k with
  | zero =>
    intro N j b σ σ2 hN hj hb hF hG
    obtain ⟨N, rfl⟩ : ∃ M, N = M + 1 := ⟨N - 1, by omega⟩
    refine ⟨enc b, σ, σ2, ?_, ?_, hF, hG⟩
    · show f_X8_plotOn_5 _ σ _ _ _ = _
      unfold f_X8_plotOn_5
      rw [x_sets hn (TX.ft hF).2.1]
      simp only [Option.bind_some]
      rw [if_pos (nI_le (by omega) (by omega))]
    · show f_X10_plot_15 _ σ2 _ _ _ = _
      unfold f_X10_plot_15
      rw [m_all hn (TM.gt hG).2.2.1]
      simp only [Option.bind_some]
      rw [if_pos (nI_lt (by omega) (by omega))]
  | succ k ih =>
    intro N j b σ σ2 hN hj hb hF hG
    obtain ⟨N, rfl⟩ : ∃ M, N = M + 1 := ⟨N - 1, by omega⟩
    have hj256 : j < 256 := by omega
    have e2 : σ 2 2 = nI v := by rw [hF 2 (by decide) (by decide) (by decide) (by decide)]; exact hx2
    obtain ⟨σ1, e1, f1, g1⟩ := x_zero hv (nI j) (TX.ft hF)
    obtain ⟨σ3, e3, f3, g3⟩ := m_zero (nI j) (TM.gt hG)
    have hR := hrS_rng (v := v) (g := g) (la := la) (br := bt (nI j)) (hs := hs0) hd
    have s8 : ∀ c, ((hrS v n d g la (bt (nI j)) hs0) t).1 = some c → c < 8 := fun c h => by have := hR t ht c h; omega
    show ∃ q σ' σ2', f_X8_plotOn_5 _ σ _ _ _ = some (q, σ') ∧ f_X10_plot_15 _ σ2 _ _ _ = some (q, σ2') ∧ _
    unfold f_X8_plotOn_5 f_X10_plot_15 f_X10_plot_38
    rw [x_sets hn (TX.ft hF).2.1, m_all hn (TM.gt hG).2.2.1, e2]
    simp only [Option.bind_some]
    rw [if_neg (nI_ge (show j < 2 ^ n by omega) (by omega)), if_neg (nI_nlt (show j ≤ 2 ^ n - 1 by omega) (by omega)), e1, e3]
    simp only [Option.bind_some]
    rw [x_srv hn g1 ht, nI_1, if_pos (vin_k (show t < 8 by omega) (by decide)), nI_clamp (show t < 2 ^ 31 by omega), g3 t ht]
    simp only [Option.bind_some]
    rw [x_fewer P σ1 hj256 hb]
    simp only [Option.bind_some]
    have en := enc_neg s8
    have en' : (0 ≤ enc ((hrS v n d g la (bt (nI j)) hs0) t).1) ↔ ¬ enc ((hrS v n d g la (bt (nI j)) hs0) t).1 < 0 := by rw [Int32.le_iff_toInt_le, Int32.lt_iff_toInt_lt]; omega
    have e9 := enc_9 s8
    have keep := ih N (j + 1) b σ1 σ3 (by omega) (by omega) hb (hF.tr f1.ft) (hG.tr f3.gt)
    have keep2 := ih N (j + 1) b σ1 σ2 (by omega) (by omega) hb (hF.tr f1.ft) hG
    have take := ih N (j + 1) (some j) σ1 σ3 (by omega) (by omega) (fun c h => by cases h; exact hj256) (hF.tr f1.ft) (hG.tr f3.gt)
    have pick : fwr pc j b = true → ∃ q σ' σ2', (if enc ((hrS v n d g la (bt (nI j)) hs0) t).1 = -9 then (if (if fwr pc j b = true then (1 : Int32) else 0) = 0 then l_X8_plotOn_5 (nI t) N (enc b) (nI (j + 1)) σ1 else l_X8_plotOn_5 (nI t) N (nI j) (nI (j + 1)) σ1) else l_X8_plotOn_5 (nI t) N (enc b) (nI (j + 1)) σ1) = some (q, σ') ∧ (if 0 ≤ enc ((hrS v n d g la (bt (nI j)) hs0) t).1 then l_X10_plot_15 (nI t) N (enc b) (nI (j + 1)) σ3 else l_X10_plot_15 (nI t) N (nI j) (nI (j + 1)) σ3) = some (q, σ2') ∧ FT σx σ' ∧ GT σm σ2' := by
      intro hf
      rw [if_pos hf, if_neg (show ¬ (1 : Int32) = 0 by decide)]
      by_cases q : ((hrS v n d g la (bt (nI j)) hs0) t).1 = none
      · rw [if_pos (e9.mpr q), if_neg (fun z => (en'.mp z) (en.mpr q))]; exact take
      · rw [if_neg (fun z => q (e9.mp z)), if_pos (en'.mpr (fun z => q (en.mp z)))]; exact keep
    cases b with
    | none =>
      rw [if_pos (show enc none < 0 by decide)]
      exact pick rfl
    | some c =>
      have hc := hb c rfl
      rw [if_neg (show ¬ enc (some c) < 0 from fun z => by have := (enc_neg2 (a := some c) hb).mp z; cases this), P.2.1 σ2 j hj256, show enc (some c) = nI c from rfl, P.2.1 σ2 c hc]
      simp only [Option.bind_some]
      by_cases q : pc c ≤ pc j
      · have hf : fwr pc j (some c) = false := decide_eq_false (by omega)
        rw [if_pos (show nI (pc c) ≤ nI (pc j) from nI_le q (P.lt j)), hf, if_neg (show ¬ false = true by decide), if_pos rfl]
        have e : ∀ z : Option (Int32 × Sg), (if enc ((hrS v n d g la (bt (nI j)) hs0) t).1 = -9 then z else z) = z := fun z => by split <;> rfl
        rw [e]
        exact keep2
      · have hlt : pc j < pc c := by omega
        rw [if_neg (show ¬ nI (pc c) ≤ nI (pc j) from nI_ge hlt (P.lt c))]
        exact pick (decide_eq_true hlt)
theorem sim_plot {σx σm : Sg} (h : REL σx σm) (a1 : Int32) : ∃ r σx1 σm1, f_X9_plot σx a1 = some (r, σx1) ∧ f_X10_plot σm a1 = some (r, σm1) ∧ REL σx1 σm1 := by
  have self := h
  obtain ⟨⟨n, v, b, r, h⟩, hf⟩ := h
  have hn := h.1.1
  obtain ⟨TX, TM⟩ := tw h
  unfold f_X9_plot f_X10_plot
  rw [f_thingAt h.2.1.1 h.1.1, f_noThing h.2.1.2 h.1.1]
  by_cases hv : vin a1 n = true
  · obtain ⟨t, ht, rfl⟩ := vin_of hv (by omega)
    simp only [if_pos hv, Option.bind_some, if_true]
    have hp := p2_le hn
    obtain ⟨q, σ', σ2', g1, g2, g3, g4⟩ := plot_loop pc_ok TX TM h.2.2.1.1 ht (2 ^ n) fu 0 none σx σm (by unfold fu; omega) (by omega) (fun c h => by cases h) FT.rf GT.rf
    rw [nI_0] at g1 g2
    unfold f_X8_plotOn
    rw [show (-9 : Int32) = enc none from rfl, g1, g2]
    exact ⟨_, _, _, rfl, rfl, self.ft g3 g4⟩
  · simp only [if_neg hv, Option.bind_some, if_neg (show ¬ (1 : Int32) = 0 by decide)]
    exact ⟨_, _, _, rfl, rfl, self⟩

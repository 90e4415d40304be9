/-! ===== what had failed ===== -/
theorem m_areSo2 {σx σm : Sg} {n v b r w : Nat} (h : REL1 σx σm n v b r) {σ : Sg} (hG : G6 σm σ) {d : Nat → Nat} {g la : Nat → Int32} (T : TWM σ n w d g la) (br : Int32) : ∃ σ', f_X10_areSo σ br = some ((if fa (soB σm (hrS w n d g la (bt br) hs0)) 0 r = true then 1 else 0), σ') ∧ GH σ σ' := by
  obtain ⟨σ', e1, f1, g1⟩ := m_zero br T
  refine ⟨σ', ?_, f1⟩
  unfold f_X10_areSo
  rw [e1]
  simp only [Option.bind_some]
  have := m_so h (hG.tr f1.g6) g1 r fu 0 true (by have := h.1.2.2.2.2; unfold fu; omega) (by omega)
  rw [nI_0, Bool.true_and] at this
  exact this
theorem nI_and (a b : Nat) : nI a &&& nI b = nI (a &&& b) := by
  apply Int32.toBitVec_inj.1
  show BitVec.ofNat 32 a &&& BitVec.ofNat 32 b = BitVec.ofNat 32 (a &&& b)
  apply BitVec.eq_of_getLsbD_eq
  intro i hi
  simp [hi]
theorem failed_loop {pc : Nat → Nat} (P : PC pc) {σx σm : Sg} {n v b r : Nat} (h : REL1 σx σm n v b r) (a1 : Int32) : ∀ (k N j c ev : Nat) (f : Option Nat) (σ σ2 : Sg), k < N → j + k = 2 ^ n → c ≤ j → ev < 256 → (∀ z, f = some z → z < 256) → FT σx σ → GT σm σ2 → σ 22 6 = nI c → σ 22 7 = enc f → (c = 0 → ev = 2 ^ n - 1 ∧ σ 22 8 = -9) → (c ≠ 0 → σ 22 8 = nI ev) → ∃ σ' q σ2', l_X8_seekFailed_19 N (nI j) σ = some σ' ∧ l_X10_failed_39 a1 N (nI c) (enc f) (nI ev) (nI j) σ2 = some (q, σ2') ∧ FT σx σ' ∧ GT σm σ2' ∧ q = (if a1 = 0 then σ' 22 6 else if a1 = 1 then σ' 22 7 else σ' 22 8) := by
  have hn := h.1.1
  have hv := h.1.2.2.1
  obtain ⟨TX, TM⟩ := tw h
  have hp := p2_le hn
  have hp1 : 1 ≤ 2 ^ n := Nat.one_le_two_pow
  have hd : ∀ t, t < n → dO σm t < n := fun t ht => (TX.2.2 t ht).1
  intro k
  induction k with
  | zero =>
    intro N j c ev f σ σ2 hN hj hc hev hf hF hG k6 k7 k8 k9
    obtain ⟨N, rfl⟩ : ∃ M, N = M + 1 := ⟨N - 1, by omega⟩
    refine ⟨σ, (if a1 = 0 then σ 22 6 else if a1 = 1 then σ 22 7 else σ 22 8), σ2, ?_, ?_, hF, hG, rfl⟩
    · show f_X8_seekFailed_19 _ σ _ = _
      unfold f_X8_seekFailed_19
      rw [x_sets hn (TX.ft hF).2.1]
      simp only [Option.bind_some]
      rw [if_pos (nI_le (by omega) (by omega))]
    · show f_X10_failed_39 _ σ2 _ _ _ _ _ = _
      unfold f_X10_failed_39
      rw [m_all hn (TM.gt hG).2.2.1]
      simp only [Option.bind_some]
      rw [if_pos (nI_lt (by omega) (by omega)), k6, k7]
      by_cases q0 : a1 = 0
      · rw [if_pos q0, if_pos q0]
      · rw [if_neg q0, if_neg q0]
        by_cases q1 : a1 = 1
        · rw [if_pos q1, if_pos q1]
        · rw [if_neg q1, if_neg q1]
          by_cases qc : c = 0
          · rw [if_pos (by rw [qc]; rfl), (k8 qc).2]
          · rw [if_neg (show ¬ nI c = 0 from ne_of (c := 0) qc (by omega) (by omega)), k9 qc]
  | succ k ih =>
    intro N j c ev f σ σ2 hN hj hc hev hf hF hG k6 k7 k8 k9
    obtain ⟨N, rfl⟩ : ∃ M, N = M + 1 := ⟨N - 1, by omega⟩
    have hj256 : j < 256 := by omega
    have e2 : σ 2 2 = nI v := by rw [hF 2 (by decide) (by decide) (by decide) (by decide)]; exact h.2.2.1.1
    obtain ⟨σ1, e1, f1, g1⟩ := x_zero hv (nI j) (TX.ft hF)
    have h' : REL1 σ σ2 n v b r := h.fr hF.fx hG.fm
    have es := x_so h' f1 g1
    have hG6 : G6 σ2 σ2 := ⟨fun _ _ _ _ _ => rfl, fun _ _ => rfl⟩
    obtain ⟨σ3, e3, f3⟩ := m_areSo2 h' hG6 (TM.gt hG) (nI j)
    show ∃ σ' q σ2', f_X8_seekFailed_19 _ σ _ = some σ' ∧ f_X10_failed_39 _ σ2 _ _ _ _ _ = some (q, σ2') ∧ _
    unfold f_X8_seekFailed_19 f_X10_failed_39
    rw [x_sets hn (TX.ft hF).2.1, m_all hn (TM.gt hG).2.2.1, e2]
    simp only [Option.bind_some]
    rw [if_neg (nI_ge (show j < 2 ^ n by omega) (by omega)), if_neg (nI_nlt (show j ≤ 2 ^ n - 1 by omega) (by omega)), e1]
    simp only [Option.bind_some]
    rw [e3, es]
    simp only [Option.bind_some]
    generalize hso : fa (soB σ2 (hrS v n (dO σm) (fun t => σx (4 + t) 5) (σm 4) (bt (nI j)) hs0)) 0 r = so
    have hF1 : FT σx σ1 := hF.tr f1.ft
    have hG3 : GT σm σ3 := hG.tr f3.gt
    have n22 : ∀ k, σ1 22 k = σ 22 k := fun k => by rw [f1 22 (by decide) (by decide) (by decide)]
    cases so with
    | false =>
      rw [if_neg (show ¬ false = true by decide), if_pos rfl, if_pos rfl, nI_1]
      exact ih N (j + 1) c ev f σ1 σ3 (by omega) (by omega) (by omega) hev hf hF1 hG3 (by rw [n22]; exact k6) (by rw [n22]; exact k7) (fun q => ⟨(k8 q).1, by rw [n22]; exact (k8 q).2⟩) (fun q => by rw [n22]; exact k9 q)
    | true =>
      rw [if_pos rfl, if_neg (show ¬ (1 : Int32) = 0 by decide), if_neg (show ¬ (1 : Int32) = 0 by decide)]
      have hand : ev &&& j < 256 := Nat.lt_of_le_of_lt Nat.and_le_left hev
      have hcom : nI (ev &&& j) = (if c = 0 then nI j else nI ev &&& nI j) := by
        by_cases qc : c = 0
        · rw [if_pos qc, (k8 qc).1]
          congr 1
          rw [Nat.and_comm, Nat.and_two_pow_sub_one_eq_mod, Nat.mod_eq_of_lt (by omega)]
        · rw [if_neg qc, nI_and]
      have go : ∀ s0 : Int32, s0 = nI (ev &&& j) → ∃ σ' q σ2', f_X8_seekFailed_74 (l_X8_seekFailed_19 N) σ1 (nI j) s0 = some σ' ∧ (if enc f < 0 then f_X10_failed_82 (l_X10_failed_39 a1 N) σ3 a1 (nI c + 1) (nI ev) (nI j) (nI j) else (f_X10_bits σ3 (nI j)).bind fun r13 => (f_X10_bits σ3 (enc f)).bind fun r15 => if r15 ≤ r13 then f_X10_failed_82 (l_X10_failed_39 a1 N) σ3 a1 (nI c + 1) (nI ev) (nI j) (enc f) else f_X10_failed_82 (l_X10_failed_39 a1 N) σ3 a1 (nI c + 1) (nI ev) (nI j) (nI j)) = some (q, σ2') ∧ FT σx σ' ∧ GT σm σ2' ∧ q = (if a1 = 0 then σ' 22 6 else if a1 = 1 then σ' 22 7 else σ' 22 8) := by
        intro s0 hs0
        unfold f_X8_seekFailed_74 f_X8_seekFailed_107 f_X10_failed_82
        have e6 : (st σ1 22 8 s0) 22 6 = nI c := by rw [st_k (by decide), n22]; exact k6
        have e7 : (st (st σ1 22 8 s0) 22 6 (nI c + 1)) 22 7 = enc f := by rw [st_k (by decide), st_k (by decide), n22]; exact k7
        rw [e6, e7, x_fewer P _ hj256 hf, nI_1, nI_1, nI_and]
        simp only [Option.bind_some]
        have step : ∀ f' : Option Nat, (∀ z, f' = some z → z < 256) → ∃ σ' q σ2', l_X8_seekFailed_19 N (nI (j + 1)) (st (st (st σ1 22 8 s0) 22 6 (nI (c + 1))) 22 7 (enc f')) = some σ' ∧ l_X10_failed_39 a1 N (nI (c + 1)) (enc f') (nI (ev &&& j)) (nI (j + 1)) σ3 = some (q, σ2') ∧ FT σx σ' ∧ GT σm σ2' ∧ q = (if a1 = 0 then σ' 22 6 else if a1 = 1 then σ' 22 7 else σ' 22 8) := by
          intro f' hf'
          refine ih N (j + 1) (c + 1) (ev &&& j) f' _ σ3 (by omega) (by omega) (by omega) hand hf' (((hF1.tr FT.to).tr FT.to).tr FT.to) hG3 ?_ ?_ (fun q => by omega) (fun _ => ?_)
          · rw [st_k (by decide), st_s]
          · rw [st_s]
          · rw [st_k (by decide), st_k (by decide), st_s]; exact hs0
        have takej := step (some j) (fun z hz => by cases hz; exact hj256)
        have keepf := step f hf
        cases f with
        | none =>
          rw [if_pos (show enc none < 0 by decide), if_pos (show fwr pc j none = true from rfl), if_neg (show ¬ (1 : Int32) = 0 by decide)]
          exact takej
        | some z =>
          have hz := hf z rfl
          rw [if_neg (show ¬ enc (some z) < 0 from fun q => by have := (enc_neg2 (a := some z) hf).mp q; cases this), P.2.1 σ3 j hj256, show enc (some z) = nI z from rfl, P.2.1 σ3 z hz]
          simp only [Option.bind_some]
          by_cases q : pc z ≤ pc j
          · rw [if_pos (show nI (pc z) ≤ nI (pc j) from nI_le q (P.lt j)), if_neg (show ¬ fwr pc j (some z) = true from fun y => by have := of_decide_eq_true y; omega), if_pos rfl]
            exact keepf
          · have hlt : pc j < pc z := by omega
            rw [if_neg (show ¬ nI (pc z) ≤ nI (pc j) from nI_ge hlt (P.lt z)), if_pos (show fwr pc j (some z) = true from decide_eq_true hlt), if_neg (show ¬ (1 : Int32) = 0 by decide)]
            exact takej
      rw [n22, n22, k6]
      by_cases qc : c = 0
      · rw [if_pos (show nI c = 0 by rw [qc]; rfl)]
        exact go _ (by rw [hcom, if_pos qc])
      · rw [if_neg (show ¬ nI c = 0 from ne_of (c := 0) qc (by omega) (by omega)), k9 qc]
        exact go _ (by rw [hcom, if_neg qc])
theorem failed_run {σx σm : Sg} {n v b r : Nat} (h : REL1 σx σm n v b r) (a1 : Int32) : ∃ σ' q σ2', f_X8_seekFailed σx = some σ' ∧ l_X10_failed_39 a1 fu 0 (-9) (nI (2 ^ n - 1)) 0 σm = some (q, σ2') ∧ FT σx σ' ∧ GT σm σ2' ∧ q = (if a1 = 0 then σ' 22 6 else if a1 = 1 then σ' 22 7 else σ' 22 8) := by
  have hn := h.1.1
  have hp := p2_le hn
  have hp1 : 1 ≤ 2 ^ n := Nat.one_le_two_pow
  have hF : FT σx (st (st (st σx 22 6 0) 22 7 (-9)) 22 8 (-9)) := (FT.to.tr FT.to).tr FT.to
  have k6 : (st (st (st σx 22 6 0) 22 7 (-9)) 22 8 (-9)) 22 6 = nI 0 := by rw [st_k (by decide), st_k (by decide), st_s, nI_0]
  have k7 : (st (st (st σx 22 6 0) 22 7 (-9)) 22 8 (-9)) 22 7 = enc none := by rw [st_k (by decide), st_s]; rfl
  have k8 : (st (st (st σx 22 6 0) 22 7 (-9)) 22 8 (-9)) 22 8 = -9 := st_s
  have hfu : 2 ^ n < fu := by unfold fu; omega
  obtain ⟨pc, PP⟩ : ∃ pc, PC pc := ⟨_, pc_ok⟩
  obtain ⟨σ', q, σ2', g1, g2, g3⟩ := failed_loop PP h a1 (2 ^ n) fu 0 0 (2 ^ n - 1) none _ σm hfu (Nat.zero_add _) (Nat.le_refl 0) (by omega) (fun c h => by cases h) hF GT.rf k6 k7 (fun _ => ⟨rfl, k8⟩) (fun z => absurd rfl z)
  rw [nI_0] at g1 g2
  exact ⟨σ', q, σ2', g1, g2, g3⟩
theorem sim_failed {σx σm : Sg} (h : REL σx σm) (a1 : Int32) : ∃ r σx1 σm1, f_X9_failed σx a1 = some (r, σx1) ∧ f_X10_failed σm a1 = some (r, σm1) ∧ REL σx1 σm1 := by
  have self := h
  obtain ⟨⟨n, v, b, r, h⟩, hf⟩ := h
  have hn := h.1.1
  have hp := p2_le hn
  have hp1 : 1 ≤ 2 ^ n := Nat.one_le_two_pow
  unfold f_X9_failed f_X10_failed f_X9_refusalOf
  rw [f_beyond, f_in32 σm a1 0 2 (a := 0) (b := 2) rfl rfl, h.2.1.1, h.2.1.2]
  by_cases h2 : 0 ≤ a1 ∧ a1 ≤ (2 : Int32)
  · simp only [if_pos h2, Option.bind_some, if_true, if_neg (show ¬ (1 : Int32) = 0 by decide)]
    by_cases h0 : nI n = 0
    · simp only [if_pos h0, Option.bind_some, if_neg (show ¬ (-3 : Int32) = 0 by decide)]
      exact ⟨_, _, _, rfl, rfl, self⟩
    · simp only [if_neg h0, Option.bind_some, if_true]
      rw [m_all hn h.2.1.2, Option.bind_some]
      obtain ⟨σ', q, σ2', g1, g2, g3, g4, g5⟩ := failed_run h a1
      rw [g1, g2, g5, Option.bind_some]
      by_cases q0 : a1 = 0
      · rw [if_pos q0, if_pos q0]
        exact ⟨_, _, _, rfl, rfl, self.ft g3 g4⟩
      · rw [if_neg q0, if_neg q0]
        by_cases q1 : a1 = 1
        · rw [if_pos q1, if_pos q1]
          exact ⟨_, _, _, rfl, rfl, self.ft g3 g4⟩
        · rw [if_neg q1, if_neg q1]
          exact ⟨_, _, _, rfl, rfl, self.ft g3 g4⟩
  · simp only [if_neg h2, Option.bind_some, if_true, if_neg (show ¬ (1 : Int32) = 0 by decide), if_neg (show ¬ (-2 : Int32) = 0 by decide)]
    exact ⟨_, _, _, rfl, rfl, self⟩

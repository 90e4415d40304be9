/-! ===== the class's hour ===== -/
theorem xth {σ : Sg} {n : Nat} (h : σ 2 1 = nI n) (hn : n ≤ 8) {t : Nat} (ht : t < n) : f_X7_thingAt σ (nI t) = some (some t) := by rw [f_thingAt h hn, if_pos (vin_k ht (by omega)), nI_clamp (by omega)]
theorem x_may {σ : Sg} {n u t : Nat} {d : Nat → Nat} {g la : Nat → Int32} {hs : HS} (T : TWX σ n d g la) (hR : RNG n hs) (h20 : σ 20 u = enc (hs u).1) (h21 : σ 21 u = (hs u).2) (br : Int32) (hu : u < n) (ht : t < n) : f_X3_may σ t (nI u) br = some (if (!bt br t && !tir la hs u t) = true then 1 else 0) := by
  obtain ⟨hn, h1, hT⟩ := T
  unfold f_X3_may f_X3_may_54
  have h54 : ∀ s0 : Int32, (if s0 = 0 then some (1 : Int32) else some 0) = some (if s0 = 0 then 1 else 0) := fun s0 => by split <;> rfl
  rw [if_pos (show t < 8 by omega), nI_clamp (show u < 2 ^ 31 by omega), h20, h21, (hT t ht).2.2.1]
  by_cases hb : bt br t = true
  · rw [if_neg (fun q => by rw [(tb0 br (show t < 32 by omega)).mp q] at hb; cases hb), hb]; rfl
  · have hb' : bt br t = false := by cases h : bt br t <;> simp_all
    rw [if_pos ((tb0 br (show t < 32 by omega)).mpr hb'), if_neg (n0 u (by omega)), if_pos (show nI u < 8 from nI_lt (b := 8) (by omega) (by decide)), if_pos (vin_k (by omega) (by decide)), hb']
    have e : enc (hs u).1 = nI t ↔ (hs u).1 = some t := enc_inj (b := some t) (fun c hc => by have := hR u hu c hc; omega) (fun c hc => by cases hc; omega)
    unfold tir
    by_cases h2 : (hs u).1 = some t
    · rw [if_pos (e.mpr h2), decide_eq_true h2]
      by_cases h3 : (hs u).2 < la t
      · rw [if_pos h3, decide_eq_false (by rw [Int32.lt_iff_toInt_lt] at h3; rw [Int32.le_iff_toInt_le]; omega)]; rfl
      · rw [if_neg h3, decide_eq_true (by rw [Int32.lt_iff_toInt_lt] at h3; rw [Int32.le_iff_toInt_le]; omega)]; rfl
    · rw [if_neg (fun q => h2 (e.mp q)), decide_eq_false h2]; rfl
theorem x_prf {σ : Sg} {n v t : Nat} {d : Nat → Nat} {g la : Nat → Int32} (T : TWX σ n d g la) (hv : v ≤ 2) {sta : Nat → Bool} (hst : ∀ t, t < 8 → bt (σ 19 3) t = sta t) (ht : t < n) {b : Option Nat} (hb : ∀ c, b = some c → c < n) : f_X3_isPreferred σ t b (nI v) = some (if prfS v g sta t b = true then 1 else 0) := by
  obtain ⟨hn, h1, hT⟩ := T
  unfold f_X3_isPreferred prfS
  have v012 : v = 0 ∨ v = 1 ∨ v = 2 := by omega
  rcases v012 with rfl | rfl | rfl
  · rw [if_neg (show ¬ nI 0 = 1 by decide), if_neg (show ¬ nI 0 = 2 by decide), if_neg (show ¬ (0 : Nat) = 1 by decide), if_neg (show ¬ (0 : Nat) = 2 by decide)]
    cases b <;> rfl
  · rw [if_pos (show nI 1 = 1 from rfl), if_pos rfl]
    cases b with
    | none =>
      show (if t < 8 then _ else _) = _
      rw [if_pos (show t < 8 by omega), ← hst t (by omega)]
      cases h : bt (σ 19 3) t with
      | false => rw [if_pos ((tb0 _ (show t < 32 by omega)).mpr h)]; rfl
      | true => rw [if_neg (fun q => by rw [(tb0 _ (show t < 32 by omega)).mp q] at h; cases h)]; rfl
    | some c => rfl
  · rw [if_neg (show ¬ nI 2 = 1 by decide), if_pos (show nI 2 = 2 from rfl), if_neg (show ¬ (2 : Nat) = 1 by decide), if_pos (show (2 : Nat) = 2 from rfl)]
    cases b with
    | none => rfl
    | some c =>
      have hc := hb c rfl
      show (if t < 8 then if c < 8 then _ else _ else _) = _
      rw [if_pos (show t < 8 by omega), if_pos (show c < 8 by omega), (hT t ht).2.2.2, (hT c hc).2.2.2]
      show _ = some (if decide (g c < g t) = true then 1 else 0)
      by_cases q : g t ≤ g c
      · rw [if_pos q, decide_eq_false (by rw [Int32.lt_iff_toInt_lt]; rw [Int32.le_iff_toInt_le] at q; omega)]; rfl
      · rw [if_neg q, decide_eq_true (by rw [Int32.lt_iff_toInt_lt]; rw [Int32.le_iff_toInt_le] at q; omega)]; rfl
theorem x_117 {σ : Sg} {b : Option Nat} (hb : ∀ c, b = some c → c < 8) : f_X3_standInFor_117 σ b = some (enc b) := by
  unfold f_X3_standInFor_117
  cases b with
  | none => rfl
  | some c =>
    show (if c < 8 then _ else _) = _
    rw [if_pos (hb c rfl)]; rfl
theorem x_row {σ : Sg} {n v u : Nat} {d : Nat → Nat} {g la : Nat → Int32} {hs : HS} (T : TWX σ n d g la) (hv : v ≤ 2) (hR : RNG n hs) (h20 : σ 20 u = enc (hs u).1) (h21 : σ 21 u = (hs u).2) {sta : Nat → Bool} (hst : ∀ t, t < 8 → bt (σ 19 3) t = sta t) (br : Int32) (hu : u < n) : ∀ (k N j : Nat) (b : Option Nat) (last : Nat) (x6 : Int32) (sn : Nat → Bool), k < N → j + k = 8 → last < n → (∀ c, b = some c → c < n) → (∀ t, t < 8 → bt x6 t = sn t) → l_X3_standInFor_21 σ (nI u) (nI v) br N b (some last) x6 (nI j) = some (enc (rowS d (fun t => !bt br t && !tir la hs u t) (prfS v g sta) k sn b (d last))) := by
  obtain ⟨hn, h1, hT⟩ := id T
  intro k
  induction k with
  | zero =>
    intro N j b last x6 sn hN hj hl hb hx
    obtain ⟨N, rfl⟩ : ∃ M, N = M + 1 := ⟨N - 1, by omega⟩
    show f_X3_standInFor_21 _ σ _ _ _ _ _ _ _ = _
    unfold f_X3_standInFor_21
    rw [if_pos (show (8 : Int32) ≤ nI j from nI_le (a := 8) (by omega) (by omega)), x_117 (fun c hc => by have := hb c hc; omega)]
    rfl
  | succ k ih =>
    intro N j b last x6 sn hN hj hl hb hx
    obtain ⟨N, rfl⟩ : ∃ M, N = M + 1 := ⟨N - 1, by omega⟩
    show f_X3_standInFor_21 _ σ _ _ _ _ _ _ _ = _
    unfold f_X3_standInFor_21
    have hd := (hT last hl).1
    have hd8 : d last < 8 := by omega
    rw [if_neg (show ¬ (8 : Int32) ≤ nI j from nI_ge (b := 8) (by omega) (by decide))]
    show (if last < 8 then _ else _) = _
    rw [if_pos (show last < 8 by omega), (hT last hl).2.1, xth h1 hn hd]
    show (if d last < 8 then _ else _) = _
    rw [if_pos hd8]
    unfold rowS
    by_cases hs1 : sn (d last) = true
    · have hb1 : bt x6 (d last) = true := (hx _ hd8).trans hs1
      rw [if_neg (fun q => by rw [(tb0 x6 (show d last < 32 by omega)).mp q] at hb1; cases hb1), if_pos hs1, x_117 (fun c hc => by have := hb c hc; omega)]
    · have hb0 : bt x6 (d last) = false := by rw [hx _ hd8]; exact Bool.eq_false_iff.mpr hs1
      rw [if_pos ((tb0 x6 (show d last < 32 by omega)).mpr hb0), if_neg hs1, x_may T hR h20 h21 br hu hd]
      have hx' : ∀ w, w < 8 → bt (x6 ||| ((1 : Int32) <<< (nI (d last) &&& 31))) w = (decide (w = d last) || sn w) := fun w hw => by rw [b_add x6 (by omega) (by omega), hx w hw]
      by_cases hm : (!bt br (d last) && !tir la hs u (d last)) = true
      · rw [if_pos hm]
        simp only [Option.bind_some]
        rw [if_neg (show ¬ (1 : Int32) = 0 by decide), x_prf T hv hst hd hb]
        by_cases hp : prfS v g sta (d last) b = true
        · rw [if_pos hp, if_pos (by rw [hm, hp]; rfl)]
          simp only [Option.bind_some]
          rw [if_neg (show ¬ (1 : Int32) = 0 by decide)]
          unfold f_X3_standInFor_107
          rw [nI_1]
          exact ih N (j + 1) _ (d last) _ _ (by omega) (by omega) hd (fun c hc => by cases hc; exact hd) hx'
        · rw [if_neg hp, if_neg (fun q => hp (by rw [hm] at q; simpa using q))]
          simp only [Option.bind_some]
          rw [if_pos trivial]
          unfold f_X3_standInFor_107
          rw [nI_1]
          exact ih N (j + 1) _ (d last) _ _ (by omega) (by omega) hd hb hx'
      · rw [if_neg hm, if_neg (fun q => hm (by simp only [Bool.and_eq_true] at q; simp only [Bool.and_eq_true]; exact q.1))]
        simp only [Option.bind_some]
        rw [if_pos trivial]
        unfold f_X3_standInFor_107
        rw [nI_1]
        exact ih N (j + 1) _ (d last) _ _ (by omega) (by omega) hd hb hx'
theorem x_sif {σ : Sg} {n v u : Nat} {d : Nat → Nat} {g la : Nat → Int32} {hs : HS} (T : TWX σ n d g la) (hv : v ≤ 2) (hR : RNG n hs) (h20 : σ 20 u = enc (hs u).1) (h21 : σ 21 u = (hs u).2) {sta : Nat → Bool} (hst : ∀ t, t < 8 → bt (σ 19 3) t = sta t) (br : Int32) (hu : u < n) : f_X3_standInFor σ (nI u) (nI v) br = some (enc (rowS d (fun t => !bt br t && !tir la hs u t) (prfS v g sta) 8 (fun w => decide (w = u)) none (d u))) := by
  obtain ⟨hn, h1, hT⟩ := id T
  unfold f_X3_standInFor
  rw [xth h1 hn hu]
  have e := x_row T hv hR h20 h21 hst br hu 8 fu 0 none u ((1 : Int32) <<< (nI u &&& 31)) (fun w => decide (w = u)) (by unfold fu; omega) (by omega) hu (fun c hc => by cases hc) (fun t ht => b_one (by omega) (by omega))
  rw [nI_0] at e
  exact e
/-- an hour changes nothing but who serves -/
def FH (σ σ' : Sg) : Prop := ∀ o, o ≠ 19 → o ≠ 20 → o ≠ 21 → σ' o = σ o
theorem FH.rf {σ : Sg} : FH σ σ := fun _ _ _ _ => rfl
theorem FH.tr {a b c : Sg} (h1 : FH a b) (h2 : FH b c) : FH a c := fun o a1 a2 a3 => (h2 o a1 a2 a3).trans (h1 o a1 a2 a3)
theorem FH.to {σ : Sg} {o k : Nat} {v : Int32} (h : o = 19 ∨ o = 20 ∨ o = 21) : FH σ (st σ o k v) := fun o' a1 a2 a3 => st_o (by omega)
theorem FH.fx {σ σ' : Sg} (h : FH σ σ') : FX σ σ' := fun o k _ a1 a2 a3 _ => by rw [h o a1 a2 a3]
theorem TWX.fh {σ σ' : Sg} {n : Nat} {d : Nat → Nat} {g la : Nat → Int32} (T : TWX σ n d g la) (h : FH σ σ') : TWX σ' n d g la := by
  obtain ⟨hn, h1, hT⟩ := T
  refine ⟨hn, by rw [h 2 (by decide) (by decide) (by decide)]; exact h1, fun t ht => ?_⟩
  rw [h (4 + t) (by omega) (by omega) (by omega)]
  exact hT t ht
def hsU (v : Nat) (d : Nat → Nat) (g la : Nat → Int32) (br : Nat → Bool) (hs : HS) (u : Nat) : HS := fun w => if w < u then (svU v d g la br hs u w, nst hs w (svU v d g la br hs u w)) else hs w
theorem hsU_next {v : Nat} {d : Nat → Nat} {g la : Nat → Int32} {br : Nat → Bool} {hs : HS} {u w : Nat} : hsU v d g la br hs (u + 1) w = if w = u then (srv v d g la br hs (svU v d g la br hs u) u, nst hs u (srv v d g la br hs (svU v d g la br hs u) u)) else hsU v d g la br hs u w := by
  unfold hsU
  rw [show svU v d g la br hs (u + 1) w = (if w = u then srv v d g la br hs (svU v d g la br hs u) u else svU v d g la br hs u w) from rfl]
  by_cases e : w = u
  · subst e
    rw [if_pos (Nat.lt_succ_self w), if_pos rfl, if_pos rfl]
  · rw [if_neg e, if_neg e]
    by_cases h : w < u
    · rw [if_pos h, if_pos (by omega)]
    · rw [if_neg h, if_neg (by omega)]
theorem stn_next {v : Nat} {d : Nat → Nat} {g la : Nat → Int32} {br : Nat → Bool} {hs : HS} {u t : Nat} : stn (svU v d g la br hs (u + 1)) t (u + 1) = (stn (svU v d g la br hs u) t u || (decide (srv v d g la br hs (svU v d g la br hs u) u = some t) && !decide (u = t))) := by
  have e : svU v d g la br hs (u + 1) u = srv v d g la br hs (svU v d g la br hs u) u := if_pos rfl
  rw [show stn (svU v d g la br hs (u + 1)) t (u + 1) = (stn (svU v d g la br hs (u + 1)) t u || (decide (svU v d g la br hs (u + 1) u = some t) && !decide (u = t))) from rfl, e, stn_congr u (fun w hw => svU_st hw (u + 1) (by omega))]
theorem x_hour {n v : Nat} {d : Nat → Nat} {g la : Nat → Int32} {hs : HS} (hv : v ≤ 2) (hR : RNG n hs) (br : Int32) : ∀ (k N u : Nat) (σ : Sg), k < N → u + k = n → TWX σ n d g la → HX σ n (hsU v d g la (bt br) hs u) → (∀ t, t < 8 → bt (σ 19 3) t = stn (svU v d g la (bt br) hs u) t u) → ∃ σ', l_X3_workHour_7 (nI v) br N (nI u) σ = some σ' ∧ FH σ σ' ∧ HX σ' n (hrS v n d g la (bt br) hs) := by
  intro k
  induction k with
  | zero =>
    intro N u σ hN hu T hH hS
    obtain ⟨N, rfl⟩ : ∃ M, N = M + 1 := ⟨N - 1, by omega⟩
    have : u = n := by omega
    subst this
    refine ⟨σ, ?_, FH.rf, fun w hw => ?_⟩
    · show f_X3_workHour_7 _ σ _ _ _ = _
      unfold f_X3_workHour_7
      rw [T.2.1, if_pos (nI_le (Nat.le_refl u) (by have := T.1; omega))]
    · have := hH w hw
      unfold hsU at this
      rw [if_pos hw] at this
      exact this
  | succ k ih =>
    intro N u σ hN hu T hH hS
    obtain ⟨N, rfl⟩ : ∃ M, N = M + 1 := ⟨N - 1, by omega⟩
    obtain ⟨hn, h1, hT⟩ := id T
    have hun : u < n := by omega
    have hd : ∀ t, t < n → d t < n := fun t ht => (hT t ht).1
    have cu := nI_clamp (show u < 2 ^ 31 by omega)
    have v8 : vin (nI u) 8 = true := vin_k (by omega) (by decide)
    have hHu : σ 20 u = enc (hs u).1 ∧ σ 21 u = (hs u).2 := by
      have := hH u hun
      unfold hsU at this
      rw [if_neg (Nat.lt_irrefl u)] at this
      exact this
    have hR8 : ∀ w c, (hs w).1 = some c → w < n → c < 8 := fun w c h hw => by have := hR w hw c h; omega
    have next : ∀ σ2 : Sg, FH σ σ2 → (∀ w, w < n → w ≠ u → σ2 20 w = σ 20 w ∧ σ2 21 w = σ 21 w) → σ2 20 u = enc (srv v d g la (bt br) hs (svU v d g la (bt br) hs u) u) → σ2 21 u = nst hs u (srv v d g la (bt br) hs (svU v d g la (bt br) hs u) u) → (∀ t, t < 8 → bt (σ2 19 3) t = (bt (σ 19 3) t || (decide (srv v d g la (bt br) hs (svU v d g la (bt br) hs u) u = some t) && !decide (u = t)))) → ∃ σ', l_X3_workHour_7 (nI v) br N (nI u + 1) σ2 = some σ' ∧ FH σ σ' ∧ HX σ' n (hrS v n d g la (bt br) hs) := by
      intro σ2 hF hw h20 h21 hstd
      rw [nI_1]
      obtain ⟨σ', e1, e2, e3⟩ := ih N (u + 1) σ2 (by omega) (by omega) (T.fh hF) (fun w hwn => by
        rw [hsU_next]
        by_cases e : w = u
        · rw [if_pos e, e]; exact ⟨h20, h21⟩
        · rw [if_neg e, (hw w hwn e).1, (hw w hwn e).2]; exact hH w hwn) (fun t ht => by rw [stn_next, hstd t ht, hS t ht])
      exact ⟨σ', e1, hF.tr e2, e3⟩
    show ∃ σ', f_X3_workHour_7 _ σ _ _ _ = some σ' ∧ _
    unfold f_X3_workHour_7
    rw [h1, if_neg (nI_ge hun (by omega)), if_neg (show ¬ (8 : Int32) ≤ nI u from nI_ge (b := 8) (by omega) (by decide))]
    by_cases hb : bt br u = true
    · have hsrv : srv v d g la (bt br) hs (svU v d g la (bt br) hs u) u = rowS d (fun t => !bt br t && !tir la hs u t) (prfS v g (fun t => stn (svU v d g la (bt br) hs u) t u)) 8 (fun w => decide (w = u)) none (d u) := by unfold srv; rw [if_pos hb]
      rw [if_neg (fun q => by rw [(tb0 br (show u < 32 by omega)).mp q] at hb; cases hb)]
      unfold f_X3_workHour_37
      rw [if_pos rfl, x_sif T hv hR hHu.1 hHu.2 hS br hun, ← hsrv]
      have hin := fun c h => srv_in (v := v) (n := n) (d := d) (g := g) (la := la) (br := bt br) (hs := hs) (sv := svU v d g la (bt br) hs u) hd hun (c := c) h
      generalize srv v d g la (bt br) hs (svU v d g la (bt br) hs u) u = sr at hin next ⊢
      simp only [Option.bind_some]
      unfold f_X3_workHour_55
      rw [if_pos rfl]
      cases sr with
      | none =>
        rw [if_pos (show enc none = -9 from rfl)]
        unfold f_X3_workHour_69 f_X3_workHour_121
        rw [if_pos v8, if_pos v8, cu]
        refine next _ ((FH.to (by omega)).tr (FH.to (by omega))) (fun w hw e => ?_) ?_ ?_ (fun t ht => ?_)
        · simp (disch := omega) only [st_ok]; exact ⟨trivial, trivial⟩
        · rw [st_s]
        · rw [st_o (by decide), st_s]; unfold nst; rw [if_pos (Or.inl rfl)]
        · simp (disch := omega) only [st_ok]; simp
      | some c =>
        have hc := hin c rfl
        have hcu := hc.2 hb
        have e9 : ¬ enc (some c) = -9 := fun q => by have := (enc_9 (a := some c) (fun t h => by cases h; omega)).mp q; cases this
        have e20 : enc (some c) = σ 20 u ↔ (hs u).1 = some c := by
          rw [hHu.1, enc_inj (fun t h => by cases h; omega) (fun t h => hR8 u t h hun)]
          exact eq_comm
        rw [if_neg e9, if_pos v8, cu]
        have fin : ∀ s0 : Int32, s0 = nst hs u (some c) → ∃ σ', f_X3_workHour_107 (l_X3_workHour_7 (nI v) br N) σ (nI v) br (nI u) (enc (some c)) s0 (nI u) = some σ' ∧ FH σ σ' ∧ HX σ' n (hrS v n d g la (bt br) hs) := by
          intro s0 hs0
          unfold f_X3_workHour_107 f_X3_workHour_121
          rw [if_pos v8, if_pos v8, cu]
          refine next _ (((FH.to (by omega)).tr (FH.to (by omega))).tr (FH.to (by omega))) (fun w hw e => ?_) ?_ ?_ (fun t ht => ?_)
          · simp (disch := omega) only [st_ok]; exact ⟨trivial, trivial⟩
          · rw [st_s]
          · rw [st_o (by decide), st_o (by decide), st_s]; exact hs0
          · rw [st_o (by decide), st_s, st_o (by decide)]
            show bt (σ 19 3 ||| ((1 : Int32) <<< (nI c &&& 31))) t = _
            rw [b_add _ (show c < 32 by omega) (show t < 32 by omega), Bool.or_comm]
            congr 1
            by_cases q : t = c
            · subst q
              rw [decide_eq_true rfl, decide_eq_true rfl, decide_eq_false (fun z => hcu z.symm)]; rfl
            · rw [decide_eq_false q, decide_eq_false (fun z => q (Option.some.inj z).symm)]; rfl
        by_cases q : (hs u).1 = some c
        · rw [if_pos (e20.mpr q)]
          exact fin _ (by unfold nst; rw [if_neg (fun z => z.elim (fun y => by cases y) (fun y => hcu (Option.some.inj y))), if_pos q, hHu.2])
        · rw [if_neg (fun z => q (e20.mp z))]
          exact fin _ (by unfold nst; rw [if_neg (fun z => z.elim (fun y => by cases y) (fun y => hcu (Option.some.inj y))), if_neg q])
    · have hb' : bt br u = false := Bool.eq_false_iff.mpr hb
      have hsrv : srv v d g la (bt br) hs (svU v d g la (bt br) hs u) u = some u := by unfold srv; rw [if_neg hb]
      rw [hsrv] at next
      rw [if_pos ((tb0 br (show u < 32 by omega)).mpr hb')]
      unfold f_X3_workHour_37 f_X3_workHour_55 f_X3_workHour_69 f_X3_workHour_121
      rw [if_neg (show ¬ (1 : Int32) = 0 by decide), if_neg (show ¬ (1 : Int32) = 0 by decide), if_pos v8, if_pos v8, cu]
      refine next _ ((FH.to (by omega)).tr (FH.to (by omega))) (fun w hw e => ?_) ?_ ?_ (fun t ht => ?_)
      · simp (disch := omega) only [st_ok]; exact ⟨trivial, trivial⟩
      · rw [st_s]; rfl
      · rw [st_o (by decide), st_s]; unfold nst; rw [if_pos (Or.inr rfl)]
      · simp (disch := omega) only [st_ok]
        by_cases q : u = t
        · rw [decide_eq_true q]; simp
        · rw [decide_eq_false (fun z => q (Option.some.inj z))]; simp
theorem x_wh {σ : Sg} {n v : Nat} {d : Nat → Nat} {g la : Nat → Int32} {hs : HS} (hv : v ≤ 2) (hR : RNG n hs) (br : Int32) (T : TWX σ n d g la) (hH : HX σ n hs) : ∃ σ', f_X3_workHour σ (nI v) br = some σ' ∧ FH σ σ' ∧ HX σ' n (hrS v n d g la (bt br) hs) := by
  have hF : FH σ (st σ 19 3 0) := FH.to (by omega)
  obtain ⟨σ', e1, e2, e3⟩ := x_hour (d := d) (g := g) (la := la) hv hR br n fu 0 (st σ 19 3 0) (by have := T.1; unfold fu; omega) (by omega) (T.fh hF) (fun w hw => by
    unfold hsU
    rw [if_neg (Nat.not_lt_zero w), st_o (by decide), st_o (by decide)]
    exact hH w hw) (fun t ht => by rw [st_s, b_0]; rfl)
  rw [nI_0] at e1
  exact ⟨σ', e1, hF.tr e2, e3⟩
def hs0 : HS := fun _ => (none, 0)
theorem x_forget {σ : Sg} {n : Nat} (hn : n ≤ 8) : ∃ σ', f_X3_forget σ = some σ' ∧ FH σ σ' ∧ HX σ' n hs0 := by
  refine ⟨_, rfl, fun o a1 a2 a3 => ?_, fun u hu => ⟨?_, ?_⟩⟩
  · unfold fillS; rw [if_neg a3]
    show (if o = 20 then _ else _) = _
    rw [if_neg a2]
  · unfold fillS
    rw [if_neg (show ¬ (20 : Nat) = 21 by decide), if_pos rfl, if_pos (show u < 8 by omega)]; rfl
  · unfold fillS
    rw [if_pos rfl, if_pos (show u < 8 by omega)]; rfl
theorem hs0_rng {n : Nat} : RNG n hs0 := fun _ _ _ h => by cases h
theorem x_zero {σ : Sg} {n v : Nat} {d : Nat → Nat} {g la : Nat → Int32} (hv : v ≤ 2) (br : Int32) (T : TWX σ n d g la) : ∃ σ', f_X3_workHourZero σ (nI v) br = some σ' ∧ FH σ σ' ∧ HX σ' n (hrS v n d g la (bt br) hs0) := by
  obtain ⟨σ1, e1, f1, h1⟩ := x_forget (σ := σ) (n := n) T.1
  obtain ⟨σ2, e2, f2, h2⟩ := x_wh hv hs0_rng br (T.fh f1) h1
  refine ⟨σ2, ?_, f1.tr f2, h2⟩
  unfold f_X3_workHourZero
  rw [e1]
  simp only [Option.bind_some]
  rw [e2]; rfl

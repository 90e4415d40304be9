def fu : Nat := 1024
def fillS (σ : Sg) (o n : Nat) (v : Int32) : Sg := fun o' => if o' = o then (fun j => if j < n then v else σ o j) else σ o'
def cpk (sp dp n : Int32) : Bool := decide (¬ sp < 0) && decide (¬ dp < 0) && decide (¬ n < 0) && decide (sp.toNatClampNeg + n.toNatClampNeg ≤ 60) && decide (dp.toNatClampNeg + n.toNatClampNeg ≤ 60)
def cpS (σ : Sg) (t1 t2 : Nat) (sp dp n : Int32) : Sg := fun o' => if o' = 28 + t2 then va_cpy (σ (28 + t1)) (σ (28 + t2)) sp.toNatClampNeg dp.toNatClampNeg n.toNatClampNeg else σ o'
theorem asXf {ad : Nat → Nat} {cs : Nat → ClassId} {σ : Sg} {o n : Nat} (h : alX o = some n) (f : Nat → Int32) : (WX ad cs σ).set o (ad o, .inl (cs 0, n, .inl f)) = WX ad cs (fun o' => if o' = o then f else σ o') := by
  unfold alX at h
  split at h <;> cases h <;> rfl
theorem alX_le {o n : Nat} (h : alX o = some n) : n ≤ 60 := by
  unfold alX at h
  split at h <;> cases h <;> decide
theorem kd_fill : yJ7_fill_53178.cls ≠ "java/lang/invoke/MethodHandle" ∧ yJ7_fill_53178.cls ≠ "java/lang/invoke/VarHandle" ∧ (parseMethodDescriptor yJ7_fill_53178.desc).map (fun d => d.parameters.length) = some 2 := by decide +kernel
section
variable {p : Program} {l : Launch} {e : Env} {R : Room} {s : State} {m : MethodId} {args : Array Value} {below : List Frame} {meth : Method} {c : Code} {cc : ByteArray} {nL : Nat} {own : String} {D : va_G} {tys : List (ClassId × FieldType)} {Wf : Sg → va_W} {A : Nat → Prop} {H : Heap} {locs : List Loc} {Q : State → Prop} {pc : Nat} {ls : Array Slot} {rest : List Value} {σ : Sg} {a : Nat} {ad : Nat → Nat} {cs : Nat → ClassId}
theorem q_min (C : CX p m c cc nL s args own D tys Wf A) (hls : ls.size = nL) {idx : Nat} (k1 : Cond.methodLink own idx Lib.Math.min.name ∈ lw_tg) (k2 : Cond.static Lib.Math.min.name ∈ lw_tg) (k3 : Cond.initialized "java/lang/Math" ∈ lw_tg) (k4 : Cond.code Lib.Math.min.name Lib.Math.min.code 2 (some .int) ∈ lw_tg) (hc : (rest.map fun v => v.category).sum ≤ 8) (hR : 1 ≤ R.frames ∧ 21 ≤ R.locals) {x y : Int32} (hd : decode cc pc = .ok (.invokestatic idx, 3))
    (kk : W p l e R s m args below meth c H locs 0 0 Q (F0 m (pc + 3) ls (.int (if y < x then y else x) :: rest))) : W p l e R s m args below meth c H locs 0 0 Q (F0 m pc ls (.int y :: .int x :: rest)) :=
  va_mmin C.1.1 C.1.2.1 (C.1.2.2.1.trans hls.symm) C.1.2.2.2.1 (C.1.2.2.2.2 _ k1) (C.1.2.2.2.2 _ k2) (C.1.2.2.2.2 _ k3) (C.1.2.2.2.2 _ k4) hR.1 (by omega) (Nat.zero_le _) (Nat.zero_le _) hd kk
theorem q_copy (C : CX p m c cc nL s args own D (TYX cs) (WX ad cs) A) (hP : va_P D vwCl (WX ad cs σ) H) (hS : va_S A s.heap H locs) (hls : ls.size = nL) {idx : Nat} (k1 : Cond.methodLink own idx arraycopyName ∈ lw_tg) (k2 : Cond.native arraycopyName ∈ lw_tg) (k3 : Cond.static arraycopyName ∈ lw_tg) (k4 : Cond.initialized "java/lang/System" ∈ lw_tg) {t1 t2 : Nat} (h1 : t1 < 4) (h2 : t2 < 4) {sp dp n : Int32} (hk : cpk sp dp n = true) (hR : 1 ≤ R.frames ∧ 48 ≤ R.locals) (hd : decode cc pc = .ok (.invokestatic idx, 3))
    (kk : ∀ (H1 : Heap) (locs1 : List Loc), va_P D vwCl (WX ad cs (cpS σ t1 t2 sp dp n)) H1 → va_S A s.heap H1 locs1 → W p l e R s m args below meth c H1 locs1 0 0 Q (F0 m (pc + 3) ls [])) : W p l e R s m args below meth c H locs 0 0 Q (F0 m pc ls [.int n, .int dp, .ref (ad (28 + t2)), .int sp, .ref (ad (28 + t1))]) := by
  simp only [cpk, Bool.and_eq_true, decide_eq_true_eq] at hk
  refine va_copyi (rest := []) (ty := .int) (n0 := 60) (n1 := 60) C.1.1 C.1.2.1 (C.1.2.2.1.trans hls.symm) C.1.2.2.2.1 (C.1.2.2.2.2 _ k1) (C.1.2.2.2.2 _ k2) (C.1.2.2.2.2 _ k3) (C.1.2.2.2.2 _ k4) C.2.1 hP (C.2.2.1 σ) hS (28 + t1) (28 + t2) 0 0 (arX (alX_c h1)) (arX (alX_c h2)) rfl rfl rfl hk.1.1.1.1 hk.1.1.1.2 hk.1.1.2 hk.1.2 hk.2 (fun _ _ => rfl) hR.1 ?_ hd ?_
  · exact Nat.le_trans (by decide) hR.2
  · intro H1 locs1 g1 g2 g3
    rw [asXf (alX_c h2)] at g1
    exact kk H1 locs1 g1 g3
theorem fill_0 (o : Nat) (v : Int32) : fillS σ o 0 v = σ := by
  funext o' j
  simp only [fillS]
  split
  · rename_i h; subst h; simp
  · rfl
theorem fill_1 (o k : Nat) (v : Int32) (hk : k < 2 ^ 31) : st (fillS σ o k v) o (nI k).toNatClampNeg v = fillS σ o (k + 1) v := by
  funext o' j
  rw [nI_clamp hk]
  by_cases h : o' = o
  · subst h
    have e1 : st (fillS σ o' k v) o' k v o' j = if j = k then v else if j < k then v else σ o' j := by simp [st, upd, fillS]
    have e2 : fillS σ o' (k + 1) v o' j = if j < k + 1 then v else σ o' j := by simp [fillS]
    rw [e1, e2]
    by_cases hj : j = k
    · rw [if_pos hj, if_pos (by omega)]
    · by_cases h2 : j < k
      · rw [if_neg hj, if_pos h2, if_pos (by omega)]
      · rw [if_neg hj, if_neg h2, if_neg (by omega)]
  · simp [st, fillS, if_neg h]
set_option maxRecDepth 100000 in
theorem w_fill_5 (C : CX p m c cJ7_fill_53178 4 s args RJ7 D (TYX cs) (WX ad cs) (AX ad)) (hr : meth.sig.returnType = none) (hlk : meth.locks = false) {o n : Nat} (ho : alX o = some n) {v : Int32} : ∀ (d k : Nat), k ≤ n → n ≤ k + d → ∀ (H : Heap) (locs : List Loc) (ls : Array Slot), va_P D vwCl (WX ad cs (fillS σ o k v)) H → va_S (AX ad) s.heap H locs → lv_has ls 4 [(0, .ref (ad o)), (1, .int v), (2, .int (nI k)), (3, .int (nI n))] → W p l e R s m args below meth c H locs 0 0 (MQ below (QV D (TYX cs) (WX ad cs) (AX ad) (fillS σ o n v)) args s 0 0 (AX ad)) (F0 m 5 ls []) := by
  have hx := C.1.1
  have hb := C.1.2.1
  have hn := alX_le ho
  intro d
  induction d with
  | zero =>
    intro k h1 h2 H locs ls hP hS hl
    have hkn : k = n := by omega
    subst hkn
    refine lv_iload_n hx hb dJ7_fill_53178_5 rfl (lv_at hl 2 rfl) ?_
    refine lv_iload_n hx hb dJ7_fill_53178_6 rfl (lv_at hl 3 rfl) ?_
    refine lv_icmp_ge (tgt := 20) hx hb dJ7_fill_53178_7 (by decide) (fun c1 => ?_) (fun c1 => ?_)
    · exact q_vret C hr hlk hP hS rfl dJ7_fill_53178_20
    · exact absurd (nI_le (Nat.le_refl k) (by omega)) c1
  | succ d ih =>
    intro k h1 h2 H locs ls hP hS hl
    refine lv_iload_n hx hb dJ7_fill_53178_5 rfl (lv_at hl 2 rfl) ?_
    refine lv_iload_n hx hb dJ7_fill_53178_6 rfl (lv_at hl 3 rfl) ?_
    refine lv_icmp_ge (tgt := 20) hx hb dJ7_fill_53178_7 (by decide) (fun c1 => ?_) (fun c1 => ?_)
    · have hkn : k = n := by
        have := (nI_leI (a := n) (b := k) (by omega) (by omega)).mp c1
        omega
      subst hkn
      exact q_vret C hr hlk hP hS rfl dJ7_fill_53178_20
    · have hlt : k < n := by
        rcases Nat.lt_or_ge k n with q | q
        · exact q
        · exact absurd (nI_le q (by omega)) c1
      refine lv_aload_n hx hb dJ7_fill_53178_10 rfl (lv_at hl 0 rfl) ?_
      refine lv_iload_n hx hb dJ7_fill_53178_11 rfl (lv_at hl 2 rfl) ?_
      refine lv_iload_n hx hb dJ7_fill_53178_12 rfl (lv_at hl 1 rfl) ?_
      have hin : vin (nI k) n = true := by simp [vin, nI_toInt (show k < 2 ^ 31 by omega)]; omega
      refine astX C hP hS ho hin dJ7_fill_53178_13 (fun H locs hP hS => ?_)
      rw [fill_1 o k v (by omega)] at hP
      refine lv_iinc (v := nI (k + 1)) (lv' := [(2, .int (nI (k + 1))), (0, .ref (ad o)), (1, .int v), (3, .int (nI n))]) hx hb dJ7_fill_53178_14 hl (k := 2) rfl (nI_1 k) (by decide) rfl (fun ls hl => ?_)
      refine lv_goto (tgt := 5) hx hb dJ7_fill_53178_17 (by decide) ?_
      exact ih (k + 1) hlt (by omega) _ _ _ hP hS (lv_sub hl [1, 2, 0, 3] rfl)
end
set_option maxRecDepth 100000 in
theorem c_fillX {l : Launch} {D : va_G} {ad : Nat → Nat} {cs : Nat → ClassId} (hD : ∀ σ, va_D (AX ad) (WX ad cs σ)) {o n : Nat} (ho : alX o = some n) {σ : Sg} {v : Int32} : Met l yJ7_fill_53178 (wm yJ7_fill_53178 cJ7_fill_53178 4 none) ({ frames := 0, cells := 0, slots := 0, locals := 0 } : Room) (va_Pc [.ref (ad o), .int v] (BW D (TYX cs) (WX ad cs) σ)) (QV D (TYX cs) (WX ad cs) (AX ad) (fillS σ o n v)) 0 0 (AX ad) := by
  refine q_enter (by decide) hD (Nat.le_of_ble_eq_true rfl) ?_
  intro p e s m below meth c C hr hlk hP hS ls hl
  have hx := C.1.1
  have hb := C.1.2.1
  have hl : lv_has ls 4 [(0, .ref (ad o)), (1, .int v)] := hl
  refine lv_iconst (v := 0) hx hb dJ7_fill_53178_0 (by decide) ?_
  refine lv_istore_n (lv' := [(2, .int 0), (0, .ref (ad o)), (1, .int v)]) hx hb dJ7_fill_53178_1 rfl hl (by decide) rfl (fun ls hl => ?_)
  refine lv_aload_n hx hb dJ7_fill_53178_2 rfl (lv_at hl 1 rfl) ?_
  refine alnX C hP ho dJ7_fill_53178_3 ?_
  refine lv_istore_n (lv' := [(3, .int (nI n)), (2, .int 0), (0, .ref (ad o)), (1, .int v)]) hx hb dJ7_fill_53178_4 rfl hl (by decide) rfl (fun ls hl => ?_)
  exact w_fill_5 C hr hlk ho n 0 (Nat.zero_le _) (by omega) _ _ _ (by rw [fill_0]; exact hP) hS (by have := nI_0; rw [nI_0]; exact lv_sub hl [2, 3, 1, 0] rfl)

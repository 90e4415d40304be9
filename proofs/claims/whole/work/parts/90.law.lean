def R_law : String := "DeputyTownLaw"
def lw_P (b : Addr) (xs : List Int32) (args : Array Value) (s : State) : Prop := args = #[.ref b] ∧ s.IntsAt b xs ∧ xs.length ≤ 384 ∧ (Jvm.Cond.and given_1 narrow_1).before args s = true
def lw_Q (_ : Array Value) (s : State) (o : Outcome) (t : State) : Prop := o = .returned (some (.int 1)) ∧ Framed s o t [] 600000 7302250
def lw_Z (below : List Frame) (a : Array Value) (s : State) : State → Prop := fun t => ∃ o, t.status = .running ∧ Ended t below o ∧ lw_Q a s o t
/-- the law's own end, with 1 on the stack, nothing written that was there before, its room as the claim has it -/
theorem lw_ret {p : Program} {l : Launch} {e : Env} {s : State} {m : MethodId} {below : List Frame} {meth : Method} {c : Code} {b : Nat} (hx : p.tables.exec = Jvm.exec) (hb : c.code = code) (hr : meth.sig.returnType = ret) (hlocks : meth.locks = false) {pc : Nat} {H : Heap} {ls : Array Slot} (hdg : decode code pc = .ok (.ireturn, 1)) : W p l e room_1 s m #[Value.ref b] below meth c H [] 600000 7302250 (lw_Z below #[Value.ref b] s) (F0 m pc ls [.int 1]) := by
  intro T hT X
  obtain ⟨fs, hret, hrun, hended, hW, hframe⟩ := X.leave (v := some (.int 1)) (hlocks := hlocks) (fun h => by rw [hr] at h; cases h)
  have hmeth' : T.vm.method? m = some meth := X.method'
  refine ⟨T.setFrames fs, ?_, .returned (some (.int 1)), hrun, hended, rfl, ⟨_, rfl⟩, hW, hframe⟩
  jvm_step X.here [X.here.top, hx, hb, hdg, hmeth', hr, ret, narrow_b1]
  (try refine ⟨rfl, ?_⟩); (try refine ⟨rfl, ?_⟩)
  first | (intro acts; rw [hret _ acts rfl rfl rfl]) | rw [hret _ _ rfl rfl rfl]
  exact Steps.refl _
/-- what holds at the law's entry: the machine, the code, the tables' words (any of lw_tbl by 'hts w (by decide +kernel)'), the script of L ints xs at the cell b, what the Statement gives of the start (any of its parts by flat_of_before) -/
def lw_At (p : Program) (s : State) (m : MethodId) (meth : Method) (c : Code) (b L : Nat) (xs : Nat → Int32) : Prop :=
  p.tables.exec = Jvm.exec ∧ c.code = code ∧ meth.sig.returnType = ret ∧ c.maxLocals = 4 ∧ s.vm.findClass R_law = some m.cls ∧ (∀ w ∈ lw_tbl, w.before #[Value.ref b] s = true) ∧ va_X b L xs s s.heap ∧ b < s.heap.size ∧ meth.locks = false ∧ (Jvm.Cond.and given_1 narrow_1).before #[Value.ref b] s = true
section
variable {p : Program} {l : Launch} {e : Env} {R : Room} {s : State} {m : MethodId} {args : Array Value} {below : List Frame} {meth : Method} {c : Code} {cc : ByteArray} {nL : Nat} {own : String} {D : va_G} {tys : List (ClassId × FieldType)} {Wf : Sg → va_W} {A A0 : Nat → Prop} {H : Heap} {locs : List Loc} {Q : State → Prop} {pc cells slots : Nat} {ls : Array Slot} {rest : List Value} {σ : Sg} {a : Nat}
theorem q_runVL (C : CX p m c cc nL s args own D tys Wf A) (hcs : cells ≤ R.cells ∧ slots ≤ R.slots) (hP : va_P D vwCl (Wf σ) H) {o ci idx n maxL : Nat} {fs : List Value} {Cn : String} {q : vw_C} {y : MethodName} {bytes : ByteArray} {ret : Option FieldType} {rm : Room} {As st0 : List Value} {Qc : Array Value → State → Outcome → State → Prop} {free : Addr → Prop}
    (hM : Met l y (wm y bytes maxL ret) rm (va_Pc (.ref a :: As) (BW D tys Wf σ)) Qc 0 0 free) (K : KV R own Cn idx y bytes maxL ret rm n) (he : (Wf σ)[o]? = some (a, .inr (ci, fs))) (hc : vwCl[ci]? = some q) (hq : q.1 = Cn) (hn : As.length = n) (hst : st0 = As.reverse ++ .ref a :: rest) (hcat : (rest.map fun v => v.category).sum ≤ 8) (hls : ls.size = nL) (hd : decode cc pc = .ok (.invokevirtual idx, 3)) :
    va_Run p l e R s m args below meth c H locs cells slots 0 0 (F0 m pc ls st0) rest (Qc (Value.ref a :: As).toArray) free := by
  subst hq
  exact va_runV (As := As) (rest := rest) C.1 hM (cwV n C.1.2.2.2.2 K.1 rfl K.2.1.1 K.2.1.2 K.2.2.1 K.2.2.2) ⟨fb_BW, va_recv C.2.1 hP hc he, fun U hU hW => ⟨rfl, by rw [hU]; exact hP, va_K.moved hW.alike C.2.1, NW.warm hW C.2.2.2⟩⟩ rfl hn hls hst (lv_room hcat) hd hcs
theorem va_P_lt {D : va_G} {cl : List vw_C} {ws : va_W} {H : Heap} (h : va_P D cl ws H) {k : Nat} {q : Nat × va_E} (hq : ws[k]? = some q) : q.1 < H.size := by
  have hz := h k q hq
  unfold va_at at hz
  split at hz
  · exact (Array.getElem?_eq_some_iff.mp hz).1
  · obtain ⟨r, -, cell, hc, -⟩ := hz
    exact (Array.getElem?_eq_some_iff.mp hc).1
theorem va_P_kept {D : va_G} {cl : List vw_C} {ws : va_W} {H H1 : Heap} (h : va_P D cl ws H) (hk : ∀ (k : Nat) (q : Nat × va_E), ws[k]? = some q → H1[q.1]? = H[q.1]?) : va_P D cl ws H1 := by
  intro k q hq
  have hz := h k q hq
  have hh := hk k q hq
  obtain ⟨a, x⟩ := q
  cases x with
  | inl x => exact hh.trans hz
  | inr x =>
    obtain ⟨r, h1, h2⟩ := hz
    exact ⟨r, h1, h2.kept hh⟩
theorem q_lcI (hP : va_P D vwCl (Wf σ) H) {W2 : va_W} (hP2 : va_P D vwCl W2 H) (hdis : ∀ (k : Nat) (q : Nat × va_E), W2[k]? = some q → ¬ A q.1) (hS : va_S A0 s.heap H locs) (hA : ∀ q, A q → A0 q) {st0 : List Value} {r0 : Int32} {σ' : Sg} {ar : Array Value} (hr : va_Run p l e R s m args below meth c H locs cells slots 0 0 (F0 m pc ls st0) rest (QI D tys Wf A r0 σ' ar) A)
    (kk : ∀ (H1 : Heap) (locs1 : List Loc), va_P D vwCl (Wf σ') H1 → va_P D vwCl W2 H1 → va_S A0 s.heap H1 locs1 → W p l e R s m args below meth c H1 locs1 cells slots Q (F0 m (pc + 3) ls (.int r0 :: rest))) : W p l e R s m args below meth c H locs cells slots Q (F0 m pc ls st0) :=
  va_calli hr hS (fun q _ h => hA q h) hA (fun r u t H1 locs1 ht hvm hw hB hz hk hS => by
    subst hw; subst ht
    exact kk _ _ hB.1 (va_P_kept hP2 (fun k q hq => hk q.1 (va_P_lt hP2 hq) (hdis k q hq))) hS)
theorem q_lcL (hP : va_P D vwCl (Wf σ) H) {W2 : va_W} (hP2 : va_P D vwCl W2 H) (hdis : ∀ (k : Nat) (q : Nat × va_E), W2[k]? = some q → ¬ A q.1) (hS : va_S A0 s.heap H locs) (hA : ∀ q, A q → A0 q) {st0 : List Value} {r0 : Int64} {σ' : Sg} {ar : Array Value} (hr : va_Run p l e R s m args below meth c H locs cells slots 0 0 (F0 m pc ls st0) rest (QL D tys Wf A r0 σ' ar) A)
    (kk : ∀ (H1 : Heap) (locs1 : List Loc), va_P D vwCl (Wf σ') H1 → va_P D vwCl W2 H1 → va_S A0 s.heap H1 locs1 → W p l e R s m args below meth c H1 locs1 cells slots Q (F0 m (pc + 3) ls (.long r0 :: rest))) : W p l e R s m args below meth c H locs cells slots Q (F0 m pc ls st0) :=
  va_calll hr hS (fun q _ h => hA q h) hA (fun r u t H1 locs1 ht hvm hw hB hz hk hS => by
    subst hw; subst ht
    exact kk _ _ hB.1 (va_P_kept hP2 (fun k q hq => hk q.1 (va_P_lt hP2 hq) (hdis k q hq))) hS)
end
/-- what stays throughout the law -/
def LX (p : Program) (m : MethodId) (meth : Method) (c : Code) (s : State) (b L : Nat) (xs : Nat → Int32) (D : va_G) (adx adm : Nat → Nat) (csx csm : Nat → ClassId) : Prop :=
  CX p m c code 4 s #[Value.ref b] RL D (TYX csx) (WX adx csx) (AX adx) ∧ CX p m c code 4 s #[Value.ref b] RL D (TYM csm) (WM adm csm) (AM adm) ∧ (∀ i j, i < 32 → j < 21 → adx i ≠ adm j) ∧ (∀ i, i < 32 → s.heap.size ≤ adx i) ∧ (∀ i, i < 21 → s.heap.size ≤ adm i) ∧ va_X b L xs s s.heap ∧ b < s.heap.size ∧ L ≤ 384
def LA (s : State) : Nat → Prop := fun q => s.heap.size ≤ q
theorem lx_ax {p : Program} {m : MethodId} {meth : Method} {c : Code} {s : State} {b L : Nat} {xs : Nat → Int32} {D : va_G} {adx adm : Nat → Nat} {csx csm : Nat → ClassId} (h : LX p m meth c s b L xs D adx adm csx csm) : ∀ q, AX adx q → LA s q := fun q ⟨o, ho, e⟩ => by rw [e]; exact h.2.2.2.1 o ho
theorem lx_am {p : Program} {m : MethodId} {meth : Method} {c : Code} {s : State} {b L : Nat} {xs : Nat → Int32} {D : va_G} {adx adm : Nat → Nat} {csx csm : Nat → ClassId} (h : LX p m meth c s b L xs D adx adm csx csm) : ∀ q, AM adm q → LA s q := fun q ⟨o, ho, e⟩ => by rw [e]; exact h.2.2.2.2.1 o ho
theorem lx_dx {p : Program} {m : MethodId} {meth : Method} {c : Code} {s : State} {b L : Nat} {xs : Nat → Int32} {D : va_G} {adx adm : Nat → Nat} {csx csm : Nat → ClassId} (h : LX p m meth c s b L xs D adx adm csx csm) (σ : Sg) : ∀ (k : Nat) (q : Nat × va_E), (WX adx csx σ)[k]? = some q → ¬ AM adm q.1 := fun k q hq ⟨o, ho, e⟩ => by
  obtain ⟨h1, e1⟩ := wX_at hq
  exact h.2.2.1 k o h1 ho (by rw [← e1, e])
theorem lx_dm {p : Program} {m : MethodId} {meth : Method} {c : Code} {s : State} {b L : Nat} {xs : Nat → Int32} {D : va_G} {adx adm : Nat → Nat} {csx csm : Nat → ClassId} (h : LX p m meth c s b L xs D adx adm csx csm) (σ : Sg) : ∀ (k : Nat) (q : Nat × va_E), (WM adm csm σ)[k]? = some q → ¬ AX adx q.1 := fun k q hq ⟨o, ho, e⟩ => by
  obtain ⟨h1, e1⟩ := wM_at hq
  exact h.2.2.1 o k ho h1 (by rw [← e1, e])
section
variable {p : Program} {l : Launch} {e : Env} {s : State} {m : MethodId} {below : List Frame} {meth : Method} {c : Code} {D : va_G} {b L : Nat} {xs : Nat → Int32} {adx adm : Nat → Nat} {csx csm : Nat → ClassId} {Q : State → Prop}
set_option maxRecDepth 100000 in
set_option maxHeartbeats 4000000 in
theorem lawc_0 (hLX : LX p m meth c s b L xs D adx adm csx csm) {i0 : Int32} (hi1 : vp_in (i0 + 1) L) (hi2 : vp_in (i0 + 2) L) (hi3 : vp_in (i0 + 3) L) (hi4 : vp_in (i0 + 4) L) (hi5 : vp_in (i0 + 5) L) {σx σm : Sg} (hRel : REL σx σm) {H : Heap} {locs : List Loc} (hPx : va_P D vwCl (WX adx csx σx) H) (hPm : va_P D vwCl (WM adm csm σm) H) (hS : va_S (LA s) s.heap H locs) {ls : Array Slot} (hl : lv_has ls 4 [(0, .ref b), (1, .ref (adx 0)), (2, .ref (adm 0)), (3, .int i0)]) (kk : ∀ (σx1 σm1 : Sg) (H1 : Heap) (locs1 : List Loc), REL σx1 σm1 → va_P D vwCl (WX adx csx σx1) H1 → va_P D vwCl (WM adm csm σm1) H1 → va_S (LA s) s.heap H1 locs1 → W p l e room_1 s m #[Value.ref b] below meth c H1 locs1 600000 7302250 Q (F0 m 1124 ls [])) : W p l e room_1 s m #[Value.ref b] below meth c H locs 600000 7302250 Q (F0 m 176 ls []) := by
  obtain ⟨Cx, Cm, hdis, hax, ham, hX, hbl, hL⟩ := id hLX
  have hx := Cx.1.1
  have hb := Cx.1.2.1
  have hbA : ¬ LA s b := Nat.not_le.mpr hbl
  -- town
  obtain ⟨r, σx1, σm1, hfx, hfm, hRel1⟩ := sim_town hRel (xs (i0 + 1).toNatClampNeg) (xs (i0 + 2).toNatClampNeg) (xs (i0 + 3).toNatClampNeg) (xs (i0 + 4).toNatClampNeg)
  refine lv_aload_n hx hb dL_law_176 rfl (lv_at hl 1 rfl) ?_
  refine lv_aload_n hx hb dL_law_177 rfl (lv_at hl 0 rfl) ?_
  refine lv_iload_n hx hb dL_law_178 rfl (lv_at hl 3 rfl) ?_
  refine lv_iconst (v := 1) hx hb dL_law_179 (by decide) ?_
  refine lv_iadd hx hb dL_law_180 ?_
  refine va_sld hx hb hX hbl hbA hS hi1 dL_law_181 ?_
  refine lv_aload_n hx hb dL_law_182 rfl (lv_at hl 0 rfl) ?_
  refine lv_iload_n hx hb dL_law_183 rfl (lv_at hl 3 rfl) ?_
  refine lv_iconst (v := 2) hx hb dL_law_184 (by decide) ?_
  refine lv_iadd hx hb dL_law_185 ?_
  refine va_sld hx hb hX hbl hbA hS hi2 dL_law_186 ?_
  refine lv_aload_n hx hb dL_law_187 rfl (lv_at hl 0 rfl) ?_
  refine lv_iload_n hx hb dL_law_188 rfl (lv_at hl 3 rfl) ?_
  refine lv_iconst (v := 3) hx hb dL_law_189 (by decide) ?_
  refine lv_iadd hx hb dL_law_190 ?_
  refine va_sld hx hb hX hbl hbA hS hi3 dL_law_191 ?_
  refine lv_aload_n hx hb dL_law_192 rfl (lv_at hl 0 rfl) ?_
  refine lv_iload_n hx hb dL_law_193 rfl (lv_at hl 3 rfl) ?_
  refine lv_iconst (v := 4) hx hb dL_law_194 (by decide) ?_
  refine lv_iadd hx hb dL_law_195 ?_
  refine va_sld hx hb hX hbl hbA hS hi4 dL_law_196 ?_
  refine q_lcI hPx hPm (lx_dm hLX _) hS (lx_ax hLX) (q_runVL Cx ⟨Nat.le_refl _, Nat.le_refl _⟩ hPx (c_X9_town (l := l) Cx.2.2.1 hfx) (o := 0) (ci := 8) (As := [.int (xs (i0 + 1).toNatClampNeg), .int (xs (i0 + 2).toNatClampNeg), .int (xs (i0 + 3).toNatClampNeg), .int (xs (i0 + 4).toNatClampNeg)]) (rest := []) ⟨gd_V k_286 k_287 k_288 k_44 k_289, ⟨rfl, rfl⟩, kd_X9_town, ⟨Nat.le_of_ble_eq_true rfl, Nat.le_of_ble_eq_true rfl⟩⟩ rfl rfl rfl rfl rfl (Nat.le_of_ble_eq_true rfl) hl.1 dL_law_197) (fun H locs hPx hPm hS => ?_)
  refine lv_aload_n hx hb dL_law_200 rfl (lv_at hl 2 rfl) ?_
  refine lv_aload_n hx hb dL_law_201 rfl (lv_at hl 0 rfl) ?_
  refine lv_iload_n hx hb dL_law_202 rfl (lv_at hl 3 rfl) ?_
  refine lv_iconst (v := 1) hx hb dL_law_203 (by decide) ?_
  refine lv_iadd hx hb dL_law_204 ?_
  refine va_sld hx hb hX hbl hbA hS hi1 dL_law_205 ?_
  refine lv_aload_n hx hb dL_law_206 rfl (lv_at hl 0 rfl) ?_
  refine lv_iload_n hx hb dL_law_207 rfl (lv_at hl 3 rfl) ?_
  refine lv_iconst (v := 2) hx hb dL_law_208 (by decide) ?_
  refine lv_iadd hx hb dL_law_209 ?_
  refine va_sld hx hb hX hbl hbA hS hi2 dL_law_210 ?_
  refine lv_aload_n hx hb dL_law_211 rfl (lv_at hl 0 rfl) ?_
  refine lv_iload_n hx hb dL_law_212 rfl (lv_at hl 3 rfl) ?_
  refine lv_iconst (v := 3) hx hb dL_law_213 (by decide) ?_
  refine lv_iadd hx hb dL_law_214 ?_
  refine va_sld hx hb hX hbl hbA hS hi3 dL_law_215 ?_
  refine lv_aload_n hx hb dL_law_216 rfl (lv_at hl 0 rfl) ?_
  refine lv_iload_n hx hb dL_law_217 rfl (lv_at hl 3 rfl) ?_
  refine lv_iconst (v := 4) hx hb dL_law_218 (by decide) ?_
  refine lv_iadd hx hb dL_law_219 ?_
  refine va_sld hx hb hX hbl hbA hS hi4 dL_law_220 ?_
  refine q_lcI hPm hPx (lx_dx hLX _) hS (lx_am hLX) (q_runVL Cm ⟨Nat.le_refl _, Nat.le_refl _⟩ hPm (c_X10_town (l := l) Cm.2.2.1 hfm) (o := 0) (ci := 9) (As := [.int (xs (i0 + 1).toNatClampNeg), .int (xs (i0 + 2).toNatClampNeg), .int (xs (i0 + 3).toNatClampNeg), .int (xs (i0 + 4).toNatClampNeg)]) (rest := [.int r]) ⟨gd_V k_752 k_753 k_754 k_53 k_755, ⟨rfl, rfl⟩, kd_X10_town, ⟨Nat.le_of_ble_eq_true rfl, Nat.le_of_ble_eq_true rfl⟩⟩ rfl rfl rfl rfl rfl (Nat.le_of_ble_eq_true rfl) hl.1 dL_law_221) (fun H locs hPm hPx hS => ?_)
  refine lv_icmp_eq (tgt := 1124) hx hb dL_law_224 (by decide) (fun _ => ?_) (fun cc0 => absurd rfl cc0)
  exact kk _ _ _ _ hRel1 hPx hPm hS
set_option maxRecDepth 100000 in
set_option maxHeartbeats 4000000 in
theorem lawc_1 (hLX : LX p m meth c s b L xs D adx adm csx csm) {i0 : Int32} (hi1 : vp_in (i0 + 1) L) (hi2 : vp_in (i0 + 2) L) (hi3 : vp_in (i0 + 3) L) (hi4 : vp_in (i0 + 4) L) (hi5 : vp_in (i0 + 5) L) {σx σm : Sg} (hRel : REL σx σm) {H : Heap} {locs : List Loc} (hPx : va_P D vwCl (WX adx csx σx) H) (hPm : va_P D vwCl (WM adm csm σm) H) (hS : va_S (LA s) s.heap H locs) {ls : Array Slot} (hl : lv_has ls 4 [(0, .ref b), (1, .ref (adx 0)), (2, .ref (adm 0)), (3, .int i0)]) (kk : ∀ (σx1 σm1 : Sg) (H1 : Heap) (locs1 : List Loc), REL σx1 σm1 → va_P D vwCl (WX adx csx σx1) H1 → va_P D vwCl (WM adm csm σm1) H1 → va_S (LA s) s.heap H1 locs1 → W p l e room_1 s m #[Value.ref b] below meth c H1 locs1 600000 7302250 Q (F0 m 1124 ls [])) : W p l e room_1 s m #[Value.ref b] below meth c H locs 600000 7302250 Q (F0 m 229 ls []) := by
  obtain ⟨Cx, Cm, hdis, hax, ham, hX, hbl, hL⟩ := id hLX
  have hx := Cx.1.1
  have hb := Cx.1.2.1
  have hbA : ¬ LA s b := Nat.not_le.mpr hbl
  -- ofThing
  obtain ⟨r, hfx, hfm⟩ := sim_ofThing hRel (xs (i0 + 1).toNatClampNeg) (xs (i0 + 2).toNatClampNeg)
  refine lv_aload_n hx hb dL_law_229 rfl (lv_at hl 1 rfl) ?_
  refine lv_aload_n hx hb dL_law_230 rfl (lv_at hl 0 rfl) ?_
  refine lv_iload_n hx hb dL_law_231 rfl (lv_at hl 3 rfl) ?_
  refine lv_iconst (v := 1) hx hb dL_law_232 (by decide) ?_
  refine lv_iadd hx hb dL_law_233 ?_
  refine va_sld hx hb hX hbl hbA hS hi1 dL_law_234 ?_
  refine lv_aload_n hx hb dL_law_235 rfl (lv_at hl 0 rfl) ?_
  refine lv_iload_n hx hb dL_law_236 rfl (lv_at hl 3 rfl) ?_
  refine lv_iconst (v := 2) hx hb dL_law_237 (by decide) ?_
  refine lv_iadd hx hb dL_law_238 ?_
  refine va_sld hx hb hX hbl hbA hS hi2 dL_law_239 ?_
  refine q_lcI hPx hPm (lx_dm hLX _) hS (lx_ax hLX) (q_runVL Cx ⟨Nat.le_refl _, Nat.le_refl _⟩ hPx (c_X9_ofThing (l := l) Cx.2.2.1 hfx) (o := 0) (ci := 8) (As := [.int (xs (i0 + 1).toNatClampNeg), .int (xs (i0 + 2).toNatClampNeg)]) (rest := []) ⟨gd_V k_353 k_354 k_355 k_44 k_356, ⟨rfl, rfl⟩, kd_X9_ofThing, ⟨Nat.le_of_ble_eq_true rfl, Nat.le_of_ble_eq_true rfl⟩⟩ rfl rfl rfl rfl rfl (Nat.le_of_ble_eq_true rfl) hl.1 dL_law_240) (fun H locs hPx hPm hS => ?_)
  refine lv_aload_n hx hb dL_law_243 rfl (lv_at hl 2 rfl) ?_
  refine lv_aload_n hx hb dL_law_244 rfl (lv_at hl 0 rfl) ?_
  refine lv_iload_n hx hb dL_law_245 rfl (lv_at hl 3 rfl) ?_
  refine lv_iconst (v := 1) hx hb dL_law_246 (by decide) ?_
  refine lv_iadd hx hb dL_law_247 ?_
  refine va_sld hx hb hX hbl hbA hS hi1 dL_law_248 ?_
  refine lv_aload_n hx hb dL_law_249 rfl (lv_at hl 0 rfl) ?_
  refine lv_iload_n hx hb dL_law_250 rfl (lv_at hl 3 rfl) ?_
  refine lv_iconst (v := 2) hx hb dL_law_251 (by decide) ?_
  refine lv_iadd hx hb dL_law_252 ?_
  refine va_sld hx hb hX hbl hbA hS hi2 dL_law_253 ?_
  refine q_lcI hPm hPx (lx_dx hLX _) hS (lx_am hLX) (q_runVL Cm ⟨Nat.le_refl _, Nat.le_refl _⟩ hPm (c_X10_ofThing (l := l) Cm.2.2.1 hfm) (o := 0) (ci := 9) (As := [.int (xs (i0 + 1).toNatClampNeg), .int (xs (i0 + 2).toNatClampNeg)]) (rest := [.int r]) ⟨gd_V k_795 k_796 k_797 k_53 k_798, ⟨rfl, rfl⟩, kd_X10_ofThing, ⟨Nat.le_of_ble_eq_true rfl, Nat.le_of_ble_eq_true rfl⟩⟩ rfl rfl rfl rfl rfl (Nat.le_of_ble_eq_true rfl) hl.1 dL_law_254) (fun H locs hPm hPx hS => ?_)
  refine lv_icmp_eq (tgt := 1124) hx hb dL_law_257 (by decide) (fun _ => ?_) (fun cc0 => absurd rfl cc0)
  exact kk _ _ _ _ hRel hPx hPm hS
set_option maxRecDepth 100000 in
set_option maxHeartbeats 4000000 in
theorem lawc_2 (hLX : LX p m meth c s b L xs D adx adm csx csm) {i0 : Int32} (hi1 : vp_in (i0 + 1) L) (hi2 : vp_in (i0 + 2) L) (hi3 : vp_in (i0 + 3) L) (hi4 : vp_in (i0 + 4) L) (hi5 : vp_in (i0 + 5) L) {σx σm : Sg} (hRel : REL σx σm) {H : Heap} {locs : List Loc} (hPx : va_P D vwCl (WX adx csx σx) H) (hPm : va_P D vwCl (WM adm csm σm) H) (hS : va_S (LA s) s.heap H locs) {ls : Array Slot} (hl : lv_has ls 4 [(0, .ref b), (1, .ref (adx 0)), (2, .ref (adm 0)), (3, .int i0)]) (kk : ∀ (σx1 σm1 : Sg) (H1 : Heap) (locs1 : List Loc), REL σx1 σm1 → va_P D vwCl (WX adx csx σx1) H1 → va_P D vwCl (WM adm csm σm1) H1 → va_S (LA s) s.heap H1 locs1 → W p l e room_1 s m #[Value.ref b] below meth c H1 locs1 600000 7302250 Q (F0 m 1124 ls [])) : W p l e room_1 s m #[Value.ref b] below meth c H locs 600000 7302250 Q (F0 m 262 ls []) := by
  obtain ⟨Cx, Cm, hdis, hax, ham, hX, hbl, hL⟩ := id hLX
  have hx := Cx.1.1
  have hb := Cx.1.2.1
  have hbA : ¬ LA s b := Nat.not_le.mpr hbl
  -- law
  obtain ⟨r, σx1, σm1, hfx, hfm, hRel1⟩ := sim_law hRel (xs (i0 + 1).toNatClampNeg)
  refine lv_aload_n hx hb dL_law_262 rfl (lv_at hl 1 rfl) ?_
  refine lv_aload_n hx hb dL_law_263 rfl (lv_at hl 0 rfl) ?_
  refine lv_iload_n hx hb dL_law_264 rfl (lv_at hl 3 rfl) ?_
  refine lv_iconst (v := 1) hx hb dL_law_265 (by decide) ?_
  refine lv_iadd hx hb dL_law_266 ?_
  refine va_sld hx hb hX hbl hbA hS hi1 dL_law_267 ?_
  refine q_lcI hPx hPm (lx_dm hLX _) hS (lx_ax hLX) (q_runVL Cx ⟨Nat.le_refl _, Nat.le_refl _⟩ hPx (c_X9_law (l := l) Cx.2.2.1 hfx) (o := 0) (ci := 8) (As := [.int (xs (i0 + 1).toNatClampNeg)]) (rest := []) ⟨gd_V k_358 k_359 k_360 k_44 k_361, ⟨rfl, rfl⟩, kd_X9_law, ⟨Nat.le_of_ble_eq_true rfl, Nat.le_of_ble_eq_true rfl⟩⟩ rfl rfl rfl rfl rfl (Nat.le_of_ble_eq_true rfl) hl.1 dL_law_268) (fun H locs hPx hPm hS => ?_)
  refine lv_aload_n hx hb dL_law_271 rfl (lv_at hl 2 rfl) ?_
  refine lv_aload_n hx hb dL_law_272 rfl (lv_at hl 0 rfl) ?_
  refine lv_iload_n hx hb dL_law_273 rfl (lv_at hl 3 rfl) ?_
  refine lv_iconst (v := 1) hx hb dL_law_274 (by decide) ?_
  refine lv_iadd hx hb dL_law_275 ?_
  refine va_sld hx hb hX hbl hbA hS hi1 dL_law_276 ?_
  refine q_lcI hPm hPx (lx_dx hLX _) hS (lx_am hLX) (q_runVL Cm ⟨Nat.le_refl _, Nat.le_refl _⟩ hPm (c_X10_law (l := l) Cm.2.2.1 hfm) (o := 0) (ci := 9) (As := [.int (xs (i0 + 1).toNatClampNeg)]) (rest := [.int r]) ⟨gd_V k_807 k_808 k_809 k_53 k_810, ⟨rfl, rfl⟩, kd_X10_law, ⟨Nat.le_of_ble_eq_true rfl, Nat.le_of_ble_eq_true rfl⟩⟩ rfl rfl rfl rfl rfl (Nat.le_of_ble_eq_true rfl) hl.1 dL_law_277) (fun H locs hPm hPx hS => ?_)
  refine lv_icmp_eq (tgt := 1124) hx hb dL_law_280 (by decide) (fun _ => ?_) (fun cc0 => absurd rfl cc0)
  exact kk _ _ _ _ hRel1 hPx hPm hS
set_option maxRecDepth 100000 in
set_option maxHeartbeats 4000000 in
theorem lawc_3 (hLX : LX p m meth c s b L xs D adx adm csx csm) {i0 : Int32} (hi1 : vp_in (i0 + 1) L) (hi2 : vp_in (i0 + 2) L) (hi3 : vp_in (i0 + 3) L) (hi4 : vp_in (i0 + 4) L) (hi5 : vp_in (i0 + 5) L) {σx σm : Sg} (hRel : REL σx σm) {H : Heap} {locs : List Loc} (hPx : va_P D vwCl (WX adx csx σx) H) (hPm : va_P D vwCl (WM adm csm σm) H) (hS : va_S (LA s) s.heap H locs) {ls : Array Slot} (hl : lv_has ls 4 [(0, .ref b), (1, .ref (adx 0)), (2, .ref (adm 0)), (3, .int i0)]) (kk : ∀ (σx1 σm1 : Sg) (H1 : Heap) (locs1 : List Loc), REL σx1 σm1 → va_P D vwCl (WX adx csx σx1) H1 → va_P D vwCl (WM adm csm σm1) H1 → va_S (LA s) s.heap H1 locs1 → W p l e room_1 s m #[Value.ref b] below meth c H1 locs1 600000 7302250 Q (F0 m 1124 ls [])) : W p l e room_1 s m #[Value.ref b] below meth c H locs 600000 7302250 Q (F0 m 285 ls []) := by
  obtain ⟨Cx, Cm, hdis, hax, ham, hX, hbl, hL⟩ := id hLX
  have hx := Cx.1.1
  have hb := Cx.1.2.1
  have hbA : ¬ LA s b := Nat.not_le.mpr hbl
  -- depute
  obtain ⟨r, σx1, σm1, hfx, hfm, hRel1⟩ := sim_depute hRel (xs (i0 + 1).toNatClampNeg) (xs (i0 + 2).toNatClampNeg)
  refine lv_aload_n hx hb dL_law_285 rfl (lv_at hl 1 rfl) ?_
  refine lv_aload_n hx hb dL_law_286 rfl (lv_at hl 0 rfl) ?_
  refine lv_iload_n hx hb dL_law_287 rfl (lv_at hl 3 rfl) ?_
  refine lv_iconst (v := 1) hx hb dL_law_288 (by decide) ?_
  refine lv_iadd hx hb dL_law_289 ?_
  refine va_sld hx hb hX hbl hbA hS hi1 dL_law_290 ?_
  refine lv_aload_n hx hb dL_law_291 rfl (lv_at hl 0 rfl) ?_
  refine lv_iload_n hx hb dL_law_292 rfl (lv_at hl 3 rfl) ?_
  refine lv_iconst (v := 2) hx hb dL_law_293 (by decide) ?_
  refine lv_iadd hx hb dL_law_294 ?_
  refine va_sld hx hb hX hbl hbA hS hi2 dL_law_295 ?_
  refine q_lcI hPx hPm (lx_dm hLX _) hS (lx_ax hLX) (q_runVL Cx ⟨Nat.le_refl _, Nat.le_refl _⟩ hPx (c_X9_depute (l := l) Cx.2.2.1 hfx) (o := 0) (ci := 8) (As := [.int (xs (i0 + 1).toNatClampNeg), .int (xs (i0 + 2).toNatClampNeg)]) (rest := []) ⟨gd_V k_362 k_363 k_364 k_44 k_365, ⟨rfl, rfl⟩, kd_X9_depute, ⟨Nat.le_of_ble_eq_true rfl, Nat.le_of_ble_eq_true rfl⟩⟩ rfl rfl rfl rfl rfl (Nat.le_of_ble_eq_true rfl) hl.1 dL_law_296) (fun H locs hPx hPm hS => ?_)
  refine lv_aload_n hx hb dL_law_299 rfl (lv_at hl 2 rfl) ?_
  refine lv_aload_n hx hb dL_law_300 rfl (lv_at hl 0 rfl) ?_
  refine lv_iload_n hx hb dL_law_301 rfl (lv_at hl 3 rfl) ?_
  refine lv_iconst (v := 1) hx hb dL_law_302 (by decide) ?_
  refine lv_iadd hx hb dL_law_303 ?_
  refine va_sld hx hb hX hbl hbA hS hi1 dL_law_304 ?_
  refine lv_aload_n hx hb dL_law_305 rfl (lv_at hl 0 rfl) ?_
  refine lv_iload_n hx hb dL_law_306 rfl (lv_at hl 3 rfl) ?_
  refine lv_iconst (v := 2) hx hb dL_law_307 (by decide) ?_
  refine lv_iadd hx hb dL_law_308 ?_
  refine va_sld hx hb hX hbl hbA hS hi2 dL_law_309 ?_
  refine q_lcI hPm hPx (lx_dx hLX _) hS (lx_am hLX) (q_runVL Cm ⟨Nat.le_refl _, Nat.le_refl _⟩ hPm (c_X10_depute (l := l) Cm.2.2.1 hfm) (o := 0) (ci := 9) (As := [.int (xs (i0 + 1).toNatClampNeg), .int (xs (i0 + 2).toNatClampNeg)]) (rest := [.int r]) ⟨gd_V k_811 k_812 k_813 k_53 k_814, ⟨rfl, rfl⟩, kd_X10_depute, ⟨Nat.le_of_ble_eq_true rfl, Nat.le_of_ble_eq_true rfl⟩⟩ rfl rfl rfl rfl rfl (Nat.le_of_ble_eq_true rfl) hl.1 dL_law_310) (fun H locs hPm hPx hS => ?_)
  refine lv_icmp_eq (tgt := 1124) hx hb dL_law_313 (by decide) (fun _ => ?_) (fun cc0 => absurd rfl cc0)
  exact kk _ _ _ _ hRel1 hPx hPm hS
set_option maxRecDepth 100000 in
set_option maxHeartbeats 4000000 in
theorem lawc_4 (hLX : LX p m meth c s b L xs D adx adm csx csm) {i0 : Int32} (hi1 : vp_in (i0 + 1) L) (hi2 : vp_in (i0 + 2) L) (hi3 : vp_in (i0 + 3) L) (hi4 : vp_in (i0 + 4) L) (hi5 : vp_in (i0 + 5) L) {σx σm : Sg} (hRel : REL σx σm) {H : Heap} {locs : List Loc} (hPx : va_P D vwCl (WX adx csx σx) H) (hPm : va_P D vwCl (WM adm csm σm) H) (hS : va_S (LA s) s.heap H locs) {ls : Array Slot} (hl : lv_has ls 4 [(0, .ref b), (1, .ref (adx 0)), (2, .ref (adm 0)), (3, .int i0)]) (kk : ∀ (σx1 σm1 : Sg) (H1 : Heap) (locs1 : List Loc), REL σx1 σm1 → va_P D vwCl (WX adx csx σx1) H1 → va_P D vwCl (WM adm csm σm1) H1 → va_S (LA s) s.heap H1 locs1 → W p l e room_1 s m #[Value.ref b] below meth c H1 locs1 600000 7302250 Q (F0 m 1124 ls [])) : W p l e room_1 s m #[Value.ref b] below meth c H locs 600000 7302250 Q (F0 m 318 ls []) := by
  obtain ⟨Cx, Cm, hdis, hax, ham, hX, hbl, hL⟩ := id hLX
  have hx := Cx.1.1
  have hb := Cx.1.2.1
  have hbA : ¬ LA s b := Nat.not_le.mpr hbl
  -- smash
  obtain ⟨r, σx1, σm1, hfx, hfm, hRel1⟩ := sim_smash hRel (xs (i0 + 1).toNatClampNeg) (xs (i0 + 2).toNatClampNeg) (xs (i0 + 3).toNatClampNeg)
  refine lv_aload_n hx hb dL_law_318 rfl (lv_at hl 1 rfl) ?_
  refine lv_aload_n hx hb dL_law_319 rfl (lv_at hl 0 rfl) ?_
  refine lv_iload_n hx hb dL_law_320 rfl (lv_at hl 3 rfl) ?_
  refine lv_iconst (v := 1) hx hb dL_law_321 (by decide) ?_
  refine lv_iadd hx hb dL_law_322 ?_
  refine va_sld hx hb hX hbl hbA hS hi1 dL_law_323 ?_
  refine lv_aload_n hx hb dL_law_324 rfl (lv_at hl 0 rfl) ?_
  refine lv_iload_n hx hb dL_law_325 rfl (lv_at hl 3 rfl) ?_
  refine lv_iconst (v := 2) hx hb dL_law_326 (by decide) ?_
  refine lv_iadd hx hb dL_law_327 ?_
  refine va_sld hx hb hX hbl hbA hS hi2 dL_law_328 ?_
  refine lv_aload_n hx hb dL_law_329 rfl (lv_at hl 0 rfl) ?_
  refine lv_iload_n hx hb dL_law_330 rfl (lv_at hl 3 rfl) ?_
  refine lv_iconst (v := 3) hx hb dL_law_331 (by decide) ?_
  refine lv_iadd hx hb dL_law_332 ?_
  refine va_sld hx hb hX hbl hbA hS hi3 dL_law_333 ?_
  refine q_lcI hPx hPm (lx_dm hLX _) hS (lx_ax hLX) (q_runVL Cx ⟨Nat.le_refl _, Nat.le_refl _⟩ hPx (c_X9_smash (l := l) Cx.2.2.1 hfx) (o := 0) (ci := 8) (As := [.int (xs (i0 + 1).toNatClampNeg), .int (xs (i0 + 2).toNatClampNeg), .int (xs (i0 + 3).toNatClampNeg)]) (rest := []) ⟨gd_V k_366 k_367 k_368 k_44 k_369, ⟨rfl, rfl⟩, kd_X9_smash, ⟨Nat.le_of_ble_eq_true rfl, Nat.le_of_ble_eq_true rfl⟩⟩ rfl rfl rfl rfl rfl (Nat.le_of_ble_eq_true rfl) hl.1 dL_law_334) (fun H locs hPx hPm hS => ?_)
  refine lv_aload_n hx hb dL_law_337 rfl (lv_at hl 2 rfl) ?_
  refine lv_aload_n hx hb dL_law_338 rfl (lv_at hl 0 rfl) ?_
  refine lv_iload_n hx hb dL_law_339 rfl (lv_at hl 3 rfl) ?_
  refine lv_iconst (v := 1) hx hb dL_law_340 (by decide) ?_
  refine lv_iadd hx hb dL_law_341 ?_
  refine va_sld hx hb hX hbl hbA hS hi1 dL_law_342 ?_
  refine lv_aload_n hx hb dL_law_343 rfl (lv_at hl 0 rfl) ?_
  refine lv_iload_n hx hb dL_law_344 rfl (lv_at hl 3 rfl) ?_
  refine lv_iconst (v := 2) hx hb dL_law_345 (by decide) ?_
  refine lv_iadd hx hb dL_law_346 ?_
  refine va_sld hx hb hX hbl hbA hS hi2 dL_law_347 ?_
  refine lv_aload_n hx hb dL_law_348 rfl (lv_at hl 0 rfl) ?_
  refine lv_iload_n hx hb dL_law_349 rfl (lv_at hl 3 rfl) ?_
  refine lv_iconst (v := 3) hx hb dL_law_350 (by decide) ?_
  refine lv_iadd hx hb dL_law_351 ?_
  refine va_sld hx hb hX hbl hbA hS hi3 dL_law_352 ?_
  refine q_lcI hPm hPx (lx_dx hLX _) hS (lx_am hLX) (q_runVL Cm ⟨Nat.le_refl _, Nat.le_refl _⟩ hPm (c_X10_smash (l := l) Cm.2.2.1 hfm) (o := 0) (ci := 9) (As := [.int (xs (i0 + 1).toNatClampNeg), .int (xs (i0 + 2).toNatClampNeg), .int (xs (i0 + 3).toNatClampNeg)]) (rest := [.int r]) ⟨gd_V k_815 k_816 k_817 k_53 k_818, ⟨rfl, rfl⟩, kd_X10_smash, ⟨Nat.le_of_ble_eq_true rfl, Nat.le_of_ble_eq_true rfl⟩⟩ rfl rfl rfl rfl rfl (Nat.le_of_ble_eq_true rfl) hl.1 dL_law_353) (fun H locs hPm hPx hS => ?_)
  refine lv_icmp_eq (tgt := 1124) hx hb dL_law_356 (by decide) (fun _ => ?_) (fun cc0 => absurd rfl cc0)
  exact kk _ _ _ _ hRel1 hPx hPm hS
set_option maxRecDepth 100000 in
set_option maxHeartbeats 4000000 in
theorem lawc_5 (hLX : LX p m meth c s b L xs D adx adm csx csm) {i0 : Int32} (hi1 : vp_in (i0 + 1) L) (hi2 : vp_in (i0 + 2) L) (hi3 : vp_in (i0 + 3) L) (hi4 : vp_in (i0 + 4) L) (hi5 : vp_in (i0 + 5) L) {σx σm : Sg} (hRel : REL σx σm) {H : Heap} {locs : List Loc} (hPx : va_P D vwCl (WX adx csx σx) H) (hPm : va_P D vwCl (WM adm csm σm) H) (hS : va_S (LA s) s.heap H locs) {ls : Array Slot} (hl : lv_has ls 4 [(0, .ref b), (1, .ref (adx 0)), (2, .ref (adm 0)), (3, .int i0)]) (kk : ∀ (σx1 σm1 : Sg) (H1 : Heap) (locs1 : List Loc), REL σx1 σm1 → va_P D vwCl (WX adx csx σx1) H1 → va_P D vwCl (WM adm csm σm1) H1 → va_S (LA s) s.heap H1 locs1 → W p l e room_1 s m #[Value.ref b] below meth c H1 locs1 600000 7302250 Q (F0 m 1124 ls [])) : W p l e room_1 s m #[Value.ref b] below meth c H locs 600000 7302250 Q (F0 m 361 ls []) := by
  obtain ⟨Cx, Cm, hdis, hax, ham, hX, hbl, hL⟩ := id hLX
  have hx := Cx.1.1
  have hb := Cx.1.2.1
  have hbA : ¬ LA s b := Nat.not_le.mpr hbl
  -- glue
  obtain ⟨r, σx1, σm1, hfx, hfm, hRel1⟩ := sim_glue hRel (xs (i0 + 1).toNatClampNeg)
  refine lv_aload_n hx hb dL_law_361 rfl (lv_at hl 1 rfl) ?_
  refine lv_aload_n hx hb dL_law_362 rfl (lv_at hl 0 rfl) ?_
  refine lv_iload_n hx hb dL_law_363 rfl (lv_at hl 3 rfl) ?_
  refine lv_iconst (v := 1) hx hb dL_law_364 (by decide) ?_
  refine lv_iadd hx hb dL_law_365 ?_
  refine va_sld hx hb hX hbl hbA hS hi1 dL_law_366 ?_
  refine q_lcI hPx hPm (lx_dm hLX _) hS (lx_ax hLX) (q_runVL Cx ⟨Nat.le_refl _, Nat.le_refl _⟩ hPx (c_X9_glue (l := l) Cx.2.2.1 hfx) (o := 0) (ci := 8) (As := [.int (xs (i0 + 1).toNatClampNeg)]) (rest := []) ⟨gd_V k_374 k_375 k_376 k_44 k_377, ⟨rfl, rfl⟩, kd_X9_glue, ⟨Nat.le_of_ble_eq_true rfl, Nat.le_of_ble_eq_true rfl⟩⟩ rfl rfl rfl rfl rfl (Nat.le_of_ble_eq_true rfl) hl.1 dL_law_367) (fun H locs hPx hPm hS => ?_)
  refine lv_aload_n hx hb dL_law_370 rfl (lv_at hl 2 rfl) ?_
  refine lv_aload_n hx hb dL_law_371 rfl (lv_at hl 0 rfl) ?_
  refine lv_iload_n hx hb dL_law_372 rfl (lv_at hl 3 rfl) ?_
  refine lv_iconst (v := 1) hx hb dL_law_373 (by decide) ?_
  refine lv_iadd hx hb dL_law_374 ?_
  refine va_sld hx hb hX hbl hbA hS hi1 dL_law_375 ?_
  refine q_lcI hPm hPx (lx_dx hLX _) hS (lx_am hLX) (q_runVL Cm ⟨Nat.le_refl _, Nat.le_refl _⟩ hPm (c_X10_glue (l := l) Cm.2.2.1 hfm) (o := 0) (ci := 9) (As := [.int (xs (i0 + 1).toNatClampNeg)]) (rest := [.int r]) ⟨gd_V k_823 k_824 k_825 k_53 k_826, ⟨rfl, rfl⟩, kd_X10_glue, ⟨Nat.le_of_ble_eq_true rfl, Nat.le_of_ble_eq_true rfl⟩⟩ rfl rfl rfl rfl rfl (Nat.le_of_ble_eq_true rfl) hl.1 dL_law_376) (fun H locs hPm hPx hS => ?_)
  refine lv_icmp_eq (tgt := 1124) hx hb dL_law_379 (by decide) (fun _ => ?_) (fun cc0 => absurd rfl cc0)
  exact kk _ _ _ _ hRel1 hPx hPm hS
set_option maxRecDepth 100000 in
set_option maxHeartbeats 4000000 in
theorem lawc_6 (hLX : LX p m meth c s b L xs D adx adm csx csm) {i0 : Int32} (hi1 : vp_in (i0 + 1) L) (hi2 : vp_in (i0 + 2) L) (hi3 : vp_in (i0 + 3) L) (hi4 : vp_in (i0 + 4) L) (hi5 : vp_in (i0 + 5) L) {σx σm : Sg} (hRel : REL σx σm) {H : Heap} {locs : List Loc} (hPx : va_P D vwCl (WX adx csx σx) H) (hPm : va_P D vwCl (WM adm csm σm) H) (hS : va_S (LA s) s.heap H locs) {ls : Array Slot} (hl : lv_has ls 4 [(0, .ref b), (1, .ref (adx 0)), (2, .ref (adm 0)), (3, .int i0)]) (kk : ∀ (σx1 σm1 : Sg) (H1 : Heap) (locs1 : List Loc), REL σx1 σm1 → va_P D vwCl (WX adx csx σx1) H1 → va_P D vwCl (WM adm csm σm1) H1 → va_S (LA s) s.heap H1 locs1 → W p l e room_1 s m #[Value.ref b] below meth c H1 locs1 600000 7302250 Q (F0 m 1124 ls [])) : W p l e room_1 s m #[Value.ref b] below meth c H locs 600000 7302250 Q (F0 m 384 ls []) := by
  obtain ⟨Cx, Cm, hdis, hax, ham, hX, hbl, hL⟩ := id hLX
  have hx := Cx.1.1
  have hb := Cx.1.2.1
  have hbA : ¬ LA s b := Nat.not_le.mpr hbl
  -- by
  obtain ⟨r, σx1, σm1, hfx, hfm, hRel1⟩ := sim_by hRel (xs (i0 + 1).toNatClampNeg) (xs (i0 + 2).toNatClampNeg)
  refine lv_aload_n hx hb dL_law_384 rfl (lv_at hl 1 rfl) ?_
  refine lv_aload_n hx hb dL_law_385 rfl (lv_at hl 0 rfl) ?_
  refine lv_iload_n hx hb dL_law_386 rfl (lv_at hl 3 rfl) ?_
  refine lv_iconst (v := 1) hx hb dL_law_387 (by decide) ?_
  refine lv_iadd hx hb dL_law_388 ?_
  refine va_sld hx hb hX hbl hbA hS hi1 dL_law_389 ?_
  refine lv_aload_n hx hb dL_law_390 rfl (lv_at hl 0 rfl) ?_
  refine lv_iload_n hx hb dL_law_391 rfl (lv_at hl 3 rfl) ?_
  refine lv_iconst (v := 2) hx hb dL_law_392 (by decide) ?_
  refine lv_iadd hx hb dL_law_393 ?_
  refine va_sld hx hb hX hbl hbA hS hi2 dL_law_394 ?_
  refine q_lcI hPx hPm (lx_dm hLX _) hS (lx_ax hLX) (q_runVL Cx ⟨Nat.le_refl _, Nat.le_refl _⟩ hPx (c_X9_by (l := l) Cx.2.2.1 hfx) (o := 0) (ci := 8) (As := [.int (xs (i0 + 1).toNatClampNeg), .int (xs (i0 + 2).toNatClampNeg)]) (rest := []) ⟨gd_V k_378 k_379 k_380 k_44 k_381, ⟨rfl, rfl⟩, kd_X9_by, ⟨Nat.le_of_ble_eq_true rfl, Nat.le_of_ble_eq_true rfl⟩⟩ rfl rfl rfl rfl rfl (Nat.le_of_ble_eq_true rfl) hl.1 dL_law_395) (fun H locs hPx hPm hS => ?_)
  refine lv_aload_n hx hb dL_law_398 rfl (lv_at hl 2 rfl) ?_
  refine lv_aload_n hx hb dL_law_399 rfl (lv_at hl 0 rfl) ?_
  refine lv_iload_n hx hb dL_law_400 rfl (lv_at hl 3 rfl) ?_
  refine lv_iconst (v := 1) hx hb dL_law_401 (by decide) ?_
  refine lv_iadd hx hb dL_law_402 ?_
  refine va_sld hx hb hX hbl hbA hS hi1 dL_law_403 ?_
  refine lv_aload_n hx hb dL_law_404 rfl (lv_at hl 0 rfl) ?_
  refine lv_iload_n hx hb dL_law_405 rfl (lv_at hl 3 rfl) ?_
  refine lv_iconst (v := 2) hx hb dL_law_406 (by decide) ?_
  refine lv_iadd hx hb dL_law_407 ?_
  refine va_sld hx hb hX hbl hbA hS hi2 dL_law_408 ?_
  refine q_lcI hPm hPx (lx_dx hLX _) hS (lx_am hLX) (q_runVL Cm ⟨Nat.le_refl _, Nat.le_refl _⟩ hPm (c_X10_by (l := l) Cm.2.2.1 hfm) (o := 0) (ci := 9) (As := [.int (xs (i0 + 1).toNatClampNeg), .int (xs (i0 + 2).toNatClampNeg)]) (rest := [.int r]) ⟨gd_V k_827 k_828 k_829 k_53 k_830, ⟨rfl, rfl⟩, kd_X10_by, ⟨Nat.le_of_ble_eq_true rfl, Nat.le_of_ble_eq_true rfl⟩⟩ rfl rfl rfl rfl rfl (Nat.le_of_ble_eq_true rfl) hl.1 dL_law_409) (fun H locs hPm hPx hS => ?_)
  refine lv_icmp_eq (tgt := 1124) hx hb dL_law_412 (by decide) (fun _ => ?_) (fun cc0 => absurd rfl cc0)
  exact kk _ _ _ _ hRel1 hPx hPm hS
set_option maxRecDepth 100000 in
set_option maxHeartbeats 4000000 in
theorem lawc_7 (hLX : LX p m meth c s b L xs D adx adm csx csm) {i0 : Int32} (hi1 : vp_in (i0 + 1) L) (hi2 : vp_in (i0 + 2) L) (hi3 : vp_in (i0 + 3) L) (hi4 : vp_in (i0 + 4) L) (hi5 : vp_in (i0 + 5) L) {σx σm : Sg} (hRel : REL σx σm) {H : Heap} {locs : List Loc} (hPx : va_P D vwCl (WX adx csx σx) H) (hPm : va_P D vwCl (WM adm csm σm) H) (hS : va_S (LA s) s.heap H locs) {ls : Array Slot} (hl : lv_has ls 4 [(0, .ref b), (1, .ref (adx 0)), (2, .ref (adm 0)), (3, .int i0)]) (kk : ∀ (σx1 σm1 : Sg) (H1 : Heap) (locs1 : List Loc), REL σx1 σm1 → va_P D vwCl (WX adx csx σx1) H1 → va_P D vwCl (WM adm csm σm1) H1 → va_S (LA s) s.heap H1 locs1 → W p l e room_1 s m #[Value.ref b] below meth c H1 locs1 600000 7302250 Q (F0 m 1124 ls [])) : W p l e room_1 s m #[Value.ref b] below meth c H locs 600000 7302250 Q (F0 m 417 ls []) := by
  obtain ⟨Cx, Cm, hdis, hax, ham, hX, hbl, hL⟩ := id hLX
  have hx := Cx.1.1
  have hb := Cx.1.2.1
  have hbA : ¬ LA s b := Nat.not_le.mpr hbl
  -- undone
  obtain ⟨r, σx1, σm1, hfx, hfm, hRel1⟩ := sim_undone hRel (xs (i0 + 1).toNatClampNeg)
  refine lv_aload_n hx hb dL_law_417 rfl (lv_at hl 1 rfl) ?_
  refine lv_aload_n hx hb dL_law_418 rfl (lv_at hl 0 rfl) ?_
  refine lv_iload_n hx hb dL_law_419 rfl (lv_at hl 3 rfl) ?_
  refine lv_iconst (v := 1) hx hb dL_law_420 (by decide) ?_
  refine lv_iadd hx hb dL_law_421 ?_
  refine va_sld hx hb hX hbl hbA hS hi1 dL_law_422 ?_
  refine q_lcI hPx hPm (lx_dm hLX _) hS (lx_ax hLX) (q_runVL Cx ⟨Nat.le_refl _, Nat.le_refl _⟩ hPx (c_X9_undone (l := l) Cx.2.2.1 hfx) (o := 0) (ci := 8) (As := [.int (xs (i0 + 1).toNatClampNeg)]) (rest := []) ⟨gd_V k_418 k_419 k_420 k_44 k_421, ⟨rfl, rfl⟩, kd_X9_undone, ⟨Nat.le_of_ble_eq_true rfl, Nat.le_of_ble_eq_true rfl⟩⟩ rfl rfl rfl rfl rfl (Nat.le_of_ble_eq_true rfl) hl.1 dL_law_423) (fun H locs hPx hPm hS => ?_)
  refine lv_aload_n hx hb dL_law_426 rfl (lv_at hl 2 rfl) ?_
  refine lv_aload_n hx hb dL_law_427 rfl (lv_at hl 0 rfl) ?_
  refine lv_iload_n hx hb dL_law_428 rfl (lv_at hl 3 rfl) ?_
  refine lv_iconst (v := 1) hx hb dL_law_429 (by decide) ?_
  refine lv_iadd hx hb dL_law_430 ?_
  refine va_sld hx hb hX hbl hbA hS hi1 dL_law_431 ?_
  refine q_lcI hPm hPx (lx_dx hLX _) hS (lx_am hLX) (q_runVL Cm ⟨Nat.le_refl _, Nat.le_refl _⟩ hPm (c_X10_undone (l := l) Cm.2.2.1 hfm) (o := 0) (ci := 9) (As := [.int (xs (i0 + 1).toNatClampNeg)]) (rest := [.int r]) ⟨gd_V k_862 k_863 k_864 k_53 k_865, ⟨rfl, rfl⟩, kd_X10_undone, ⟨Nat.le_of_ble_eq_true rfl, Nat.le_of_ble_eq_true rfl⟩⟩ rfl rfl rfl rfl rfl (Nat.le_of_ble_eq_true rfl) hl.1 dL_law_432) (fun H locs hPm hPx hS => ?_)
  refine lv_icmp_eq (tgt := 1124) hx hb dL_law_435 (by decide) (fun _ => ?_) (fun cc0 => absurd rfl cc0)
  exact kk _ _ _ _ hRel1 hPx hPm hS
set_option maxRecDepth 100000 in
set_option maxHeartbeats 4000000 in
theorem lawc_8 (hLX : LX p m meth c s b L xs D adx adm csx csm) {i0 : Int32} (hi1 : vp_in (i0 + 1) L) (hi2 : vp_in (i0 + 2) L) (hi3 : vp_in (i0 + 3) L) (hi4 : vp_in (i0 + 4) L) (hi5 : vp_in (i0 + 5) L) {σx σm : Sg} (hRel : REL σx σm) {H : Heap} {locs : List Loc} (hPx : va_P D vwCl (WX adx csx σx) H) (hPm : va_P D vwCl (WM adm csm σm) H) (hS : va_S (LA s) s.heap H locs) {ls : Array Slot} (hl : lv_has ls 4 [(0, .ref b), (1, .ref (adx 0)), (2, .ref (adm 0)), (3, .int i0)]) (kk : ∀ (σx1 σm1 : Sg) (H1 : Heap) (locs1 : List Loc), REL σx1 σm1 → va_P D vwCl (WX adx csx σx1) H1 → va_P D vwCl (WM adm csm σm1) H1 → va_S (LA s) s.heap H1 locs1 → W p l e room_1 s m #[Value.ref b] below meth c H1 locs1 600000 7302250 Q (F0 m 1124 ls [])) : W p l e room_1 s m #[Value.ref b] below meth c H locs 600000 7302250 Q (F0 m 440 ls []) := by
  obtain ⟨Cx, Cm, hdis, hax, ham, hX, hbl, hL⟩ := id hLX
  have hx := Cx.1.1
  have hb := Cx.1.2.1
  have hbA : ¬ LA s b := Nat.not_le.mpr hbl
  -- serves
  obtain ⟨r, σx1, σm1, hfx, hfm, hRel1⟩ := sim_serves hRel (xs (i0 + 1).toNatClampNeg)
  refine lv_aload_n hx hb dL_law_440 rfl (lv_at hl 1 rfl) ?_
  refine lv_aload_n hx hb dL_law_441 rfl (lv_at hl 0 rfl) ?_
  refine lv_iload_n hx hb dL_law_442 rfl (lv_at hl 3 rfl) ?_
  refine lv_iconst (v := 1) hx hb dL_law_443 (by decide) ?_
  refine lv_iadd hx hb dL_law_444 ?_
  refine va_sld hx hb hX hbl hbA hS hi1 dL_law_445 ?_
  refine q_lcI hPx hPm (lx_dm hLX _) hS (lx_ax hLX) (q_runVL Cx ⟨Nat.le_refl _, Nat.le_refl _⟩ hPx (c_X9_serves (l := l) Cx.2.2.1 hfx) (o := 0) (ci := 8) (As := [.int (xs (i0 + 1).toNatClampNeg)]) (rest := []) ⟨gd_V k_430 k_431 k_432 k_44 k_433, ⟨rfl, rfl⟩, kd_X9_serves, ⟨Nat.le_of_ble_eq_true rfl, Nat.le_of_ble_eq_true rfl⟩⟩ rfl rfl rfl rfl rfl (Nat.le_of_ble_eq_true rfl) hl.1 dL_law_446) (fun H locs hPx hPm hS => ?_)
  refine lv_aload_n hx hb dL_law_449 rfl (lv_at hl 2 rfl) ?_
  refine lv_aload_n hx hb dL_law_450 rfl (lv_at hl 0 rfl) ?_
  refine lv_iload_n hx hb dL_law_451 rfl (lv_at hl 3 rfl) ?_
  refine lv_iconst (v := 1) hx hb dL_law_452 (by decide) ?_
  refine lv_iadd hx hb dL_law_453 ?_
  refine va_sld hx hb hX hbl hbA hS hi1 dL_law_454 ?_
  refine q_lcI hPm hPx (lx_dx hLX _) hS (lx_am hLX) (q_runVL Cm ⟨Nat.le_refl _, Nat.le_refl _⟩ hPm (c_X10_serves (l := l) Cm.2.2.1 hfm) (o := 0) (ci := 9) (As := [.int (xs (i0 + 1).toNatClampNeg)]) (rest := [.int r]) ⟨gd_V k_874 k_875 k_876 k_53 k_877, ⟨rfl, rfl⟩, kd_X10_serves, ⟨Nat.le_of_ble_eq_true rfl, Nat.le_of_ble_eq_true rfl⟩⟩ rfl rfl rfl rfl rfl (Nat.le_of_ble_eq_true rfl) hl.1 dL_law_455) (fun H locs hPm hPx hS => ?_)
  refine lv_icmp_eq (tgt := 1124) hx hb dL_law_458 (by decide) (fun _ => ?_) (fun cc0 => absurd rfl cc0)
  exact kk _ _ _ _ hRel1 hPx hPm hS
set_option maxRecDepth 100000 in
set_option maxHeartbeats 4000000 in
theorem lawc_9 (hLX : LX p m meth c s b L xs D adx adm csx csm) {i0 : Int32} (hi1 : vp_in (i0 + 1) L) (hi2 : vp_in (i0 + 2) L) (hi3 : vp_in (i0 + 3) L) (hi4 : vp_in (i0 + 4) L) (hi5 : vp_in (i0 + 5) L) {σx σm : Sg} (hRel : REL σx σm) {H : Heap} {locs : List Loc} (hPx : va_P D vwCl (WX adx csx σx) H) (hPm : va_P D vwCl (WM adm csm σm) H) (hS : va_S (LA s) s.heap H locs) {ls : Array Slot} (hl : lv_has ls 4 [(0, .ref b), (1, .ref (adx 0)), (2, .ref (adm 0)), (3, .int i0)]) (kk : ∀ (σx1 σm1 : Sg) (H1 : Heap) (locs1 : List Loc), REL σx1 σm1 → va_P D vwCl (WX adx csx σx1) H1 → va_P D vwCl (WM adm csm σm1) H1 → va_S (LA s) s.heap H1 locs1 → W p l e room_1 s m #[Value.ref b] below meth c H1 locs1 600000 7302250 Q (F0 m 1124 ls [])) : W p l e room_1 s m #[Value.ref b] below meth c H locs 600000 7302250 Q (F0 m 463 ls []) := by
  obtain ⟨Cx, Cm, hdis, hax, ham, hX, hbl, hL⟩ := id hLX
  have hx := Cx.1.1
  have hb := Cx.1.2.1
  have hbA : ¬ LA s b := Nat.not_le.mpr hbl
  -- ring
  obtain ⟨r, hfx, hfm⟩ := sim_ring hRel 
  refine lv_aload_n hx hb dL_law_463 rfl (lv_at hl 1 rfl) ?_
  refine q_lcI hPx hPm (lx_dm hLX _) hS (lx_ax hLX) (q_runVL Cx ⟨Nat.le_refl _, Nat.le_refl _⟩ hPx (c_X9_ring (l := l) Cx.2.2.1 hfx) (o := 0) (ci := 8) (As := []) (rest := []) ⟨gd_V k_439 k_440 k_441 k_44 k_442, ⟨rfl, rfl⟩, kd_X9_ring, ⟨Nat.le_of_ble_eq_true rfl, Nat.le_of_ble_eq_true rfl⟩⟩ rfl rfl rfl rfl rfl (Nat.le_of_ble_eq_true rfl) hl.1 dL_law_464) (fun H locs hPx hPm hS => ?_)
  refine lv_aload_n hx hb dL_law_467 rfl (lv_at hl 2 rfl) ?_
  refine q_lcI hPm hPx (lx_dx hLX _) hS (lx_am hLX) (q_runVL Cm ⟨Nat.le_refl _, Nat.le_refl _⟩ hPm (c_X10_ring (l := l) Cm.2.2.1 hfm) (o := 0) (ci := 9) (As := []) (rest := [.int r]) ⟨gd_V k_882 k_883 k_884 k_53 k_885, ⟨rfl, rfl⟩, kd_X10_ring, ⟨Nat.le_of_ble_eq_true rfl, Nat.le_of_ble_eq_true rfl⟩⟩ rfl rfl rfl rfl rfl (Nat.le_of_ble_eq_true rfl) hl.1 dL_law_468) (fun H locs hPm hPx hS => ?_)
  refine lv_icmp_eq (tgt := 1124) hx hb dL_law_471 (by decide) (fun _ => ?_) (fun cc0 => absurd rfl cc0)
  exact kk _ _ _ _ hRel hPx hPm hS
set_option maxRecDepth 100000 in
set_option maxHeartbeats 4000000 in
theorem lawc_10 (hLX : LX p m meth c s b L xs D adx adm csx csm) {i0 : Int32} (hi1 : vp_in (i0 + 1) L) (hi2 : vp_in (i0 + 2) L) (hi3 : vp_in (i0 + 3) L) (hi4 : vp_in (i0 + 4) L) (hi5 : vp_in (i0 + 5) L) {σx σm : Sg} (hRel : REL σx σm) {H : Heap} {locs : List Loc} (hPx : va_P D vwCl (WX adx csx σx) H) (hPm : va_P D vwCl (WM adm csm σm) H) (hS : va_S (LA s) s.heap H locs) {ls : Array Slot} (hl : lv_has ls 4 [(0, .ref b), (1, .ref (adx 0)), (2, .ref (adm 0)), (3, .int i0)]) (kk : ∀ (σx1 σm1 : Sg) (H1 : Heap) (locs1 : List Loc), REL σx1 σm1 → va_P D vwCl (WX adx csx σx1) H1 → va_P D vwCl (WM adm csm σm1) H1 → va_S (LA s) s.heap H1 locs1 → W p l e room_1 s m #[Value.ref b] below meth c H1 locs1 600000 7302250 Q (F0 m 1124 ls [])) : W p l e room_1 s m #[Value.ref b] below meth c H locs 600000 7302250 Q (F0 m 476 ls []) := by
  obtain ⟨Cx, Cm, hdis, hax, ham, hX, hbl, hL⟩ := id hLX
  have hx := Cx.1.1
  have hb := Cx.1.2.1
  have hbA : ¬ LA s b := Nat.not_le.mpr hbl
  -- first
  obtain ⟨r, σx1, σm1, hfx, hfm, hRel1⟩ := sim_first hRel (xs (i0 + 1).toNatClampNeg)
  refine lv_aload_n hx hb dL_law_476 rfl (lv_at hl 1 rfl) ?_
  refine lv_aload_n hx hb dL_law_477 rfl (lv_at hl 0 rfl) ?_
  refine lv_iload_n hx hb dL_law_478 rfl (lv_at hl 3 rfl) ?_
  refine lv_iconst (v := 1) hx hb dL_law_479 (by decide) ?_
  refine lv_iadd hx hb dL_law_480 ?_
  refine va_sld hx hb hX hbl hbA hS hi1 dL_law_481 ?_
  refine q_lcI hPx hPm (lx_dm hLX _) hS (lx_ax hLX) (q_runVL Cx ⟨Nat.le_refl _, Nat.le_refl _⟩ hPx (c_X9_first (l := l) Cx.2.2.1 hfx) (o := 0) (ci := 8) (As := [.int (xs (i0 + 1).toNatClampNeg)]) (rest := []) ⟨gd_V k_447 k_448 k_449 k_44 k_450, ⟨rfl, rfl⟩, kd_X9_first, ⟨Nat.le_of_ble_eq_true rfl, Nat.le_of_ble_eq_true rfl⟩⟩ rfl rfl rfl rfl rfl (Nat.le_of_ble_eq_true rfl) hl.1 dL_law_482) (fun H locs hPx hPm hS => ?_)
  refine lv_aload_n hx hb dL_law_485 rfl (lv_at hl 2 rfl) ?_
  refine lv_aload_n hx hb dL_law_486 rfl (lv_at hl 0 rfl) ?_
  refine lv_iload_n hx hb dL_law_487 rfl (lv_at hl 3 rfl) ?_
  refine lv_iconst (v := 1) hx hb dL_law_488 (by decide) ?_
  refine lv_iadd hx hb dL_law_489 ?_
  refine va_sld hx hb hX hbl hbA hS hi1 dL_law_490 ?_
  refine q_lcI hPm hPx (lx_dx hLX _) hS (lx_am hLX) (q_runVL Cm ⟨Nat.le_refl _, Nat.le_refl _⟩ hPm (c_X10_first (l := l) Cm.2.2.1 hfm) (o := 0) (ci := 9) (As := [.int (xs (i0 + 1).toNatClampNeg)]) (rest := [.int r]) ⟨gd_V k_886 k_887 k_888 k_53 k_889, ⟨rfl, rfl⟩, kd_X10_first, ⟨Nat.le_of_ble_eq_true rfl, Nat.le_of_ble_eq_true rfl⟩⟩ rfl rfl rfl rfl rfl (Nat.le_of_ble_eq_true rfl) hl.1 dL_law_491) (fun H locs hPm hPx hS => ?_)
  refine lv_icmp_eq (tgt := 1124) hx hb dL_law_494 (by decide) (fun _ => ?_) (fun cc0 => absurd rfl cc0)
  exact kk _ _ _ _ hRel1 hPx hPm hS
set_option maxRecDepth 100000 in
set_option maxHeartbeats 4000000 in
theorem lawc_11 (hLX : LX p m meth c s b L xs D adx adm csx csm) {i0 : Int32} (hi1 : vp_in (i0 + 1) L) (hi2 : vp_in (i0 + 2) L) (hi3 : vp_in (i0 + 3) L) (hi4 : vp_in (i0 + 4) L) (hi5 : vp_in (i0 + 5) L) {σx σm : Sg} (hRel : REL σx σm) {H : Heap} {locs : List Loc} (hPx : va_P D vwCl (WX adx csx σx) H) (hPm : va_P D vwCl (WM adm csm σm) H) (hS : va_S (LA s) s.heap H locs) {ls : Array Slot} (hl : lv_has ls 4 [(0, .ref b), (1, .ref (adx 0)), (2, .ref (adm 0)), (3, .int i0)]) (kk : ∀ (σx1 σm1 : Sg) (H1 : Heap) (locs1 : List Loc), REL σx1 σm1 → va_P D vwCl (WX adx csx σx1) H1 → va_P D vwCl (WM adm csm σm1) H1 → va_S (LA s) s.heap H1 locs1 → W p l e room_1 s m #[Value.ref b] below meth c H1 locs1 600000 7302250 Q (F0 m 1124 ls [])) : W p l e room_1 s m #[Value.ref b] below meth c H locs 600000 7302250 Q (F0 m 499 ls []) := by
  obtain ⟨Cx, Cm, hdis, hax, ham, hX, hbl, hL⟩ := id hLX
  have hx := Cx.1.1
  have hb := Cx.1.2.1
  have hbA : ¬ LA s b := Nat.not_le.mpr hbl
  -- frail
  obtain ⟨r, σx1, σm1, hfx, hfm, hRel1⟩ := sim_frail hRel (xs (i0 + 1).toNatClampNeg) (xs (i0 + 2).toNatClampNeg)
  refine lv_aload_n hx hb dL_law_499 rfl (lv_at hl 1 rfl) ?_
  refine lv_aload_n hx hb dL_law_500 rfl (lv_at hl 0 rfl) ?_
  refine lv_iload_n hx hb dL_law_501 rfl (lv_at hl 3 rfl) ?_
  refine lv_iconst (v := 1) hx hb dL_law_502 (by decide) ?_
  refine lv_iadd hx hb dL_law_503 ?_
  refine va_sld hx hb hX hbl hbA hS hi1 dL_law_504 ?_
  refine lv_aload_n hx hb dL_law_505 rfl (lv_at hl 0 rfl) ?_
  refine lv_iload_n hx hb dL_law_506 rfl (lv_at hl 3 rfl) ?_
  refine lv_iconst (v := 2) hx hb dL_law_507 (by decide) ?_
  refine lv_iadd hx hb dL_law_508 ?_
  refine va_sld hx hb hX hbl hbA hS hi2 dL_law_509 ?_
  refine q_lcI hPx hPm (lx_dm hLX _) hS (lx_ax hLX) (q_runVL Cx ⟨Nat.le_refl _, Nat.le_refl _⟩ hPx (c_X9_frail (l := l) Cx.2.2.1 hfx) (o := 0) (ci := 8) (As := [.int (xs (i0 + 1).toNatClampNeg), .int (xs (i0 + 2).toNatClampNeg)]) (rest := []) ⟨gd_V k_457 k_458 k_459 k_44 k_460, ⟨rfl, rfl⟩, kd_X9_frail, ⟨Nat.le_of_ble_eq_true rfl, Nat.le_of_ble_eq_true rfl⟩⟩ rfl rfl rfl rfl rfl (Nat.le_of_ble_eq_true rfl) hl.1 dL_law_510) (fun H locs hPx hPm hS => ?_)
  refine lv_aload_n hx hb dL_law_513 rfl (lv_at hl 2 rfl) ?_
  refine lv_aload_n hx hb dL_law_514 rfl (lv_at hl 0 rfl) ?_
  refine lv_iload_n hx hb dL_law_515 rfl (lv_at hl 3 rfl) ?_
  refine lv_iconst (v := 1) hx hb dL_law_516 (by decide) ?_
  refine lv_iadd hx hb dL_law_517 ?_
  refine va_sld hx hb hX hbl hbA hS hi1 dL_law_518 ?_
  refine lv_aload_n hx hb dL_law_519 rfl (lv_at hl 0 rfl) ?_
  refine lv_iload_n hx hb dL_law_520 rfl (lv_at hl 3 rfl) ?_
  refine lv_iconst (v := 2) hx hb dL_law_521 (by decide) ?_
  refine lv_iadd hx hb dL_law_522 ?_
  refine va_sld hx hb hX hbl hbA hS hi2 dL_law_523 ?_
  refine q_lcI hPm hPx (lx_dx hLX _) hS (lx_am hLX) (q_runVL Cm ⟨Nat.le_refl _, Nat.le_refl _⟩ hPm (c_X10_frail (l := l) Cm.2.2.1 hfm) (o := 0) (ci := 9) (As := [.int (xs (i0 + 1).toNatClampNeg), .int (xs (i0 + 2).toNatClampNeg)]) (rest := [.int r]) ⟨gd_V k_890 k_891 k_892 k_53 k_893, ⟨rfl, rfl⟩, kd_X10_frail, ⟨Nat.le_of_ble_eq_true rfl, Nat.le_of_ble_eq_true rfl⟩⟩ rfl rfl rfl rfl rfl (Nat.le_of_ble_eq_true rfl) hl.1 dL_law_524) (fun H locs hPm hPx hS => ?_)
  refine lv_icmp_eq (tgt := 1124) hx hb dL_law_527 (by decide) (fun _ => ?_) (fun cc0 => absurd rfl cc0)
  exact kk _ _ _ _ hRel1 hPx hPm hS
set_option maxRecDepth 100000 in
set_option maxHeartbeats 4000000 in
theorem lawc_12 (hLX : LX p m meth c s b L xs D adx adm csx csm) {i0 : Int32} (hi1 : vp_in (i0 + 1) L) (hi2 : vp_in (i0 + 2) L) (hi3 : vp_in (i0 + 3) L) (hi4 : vp_in (i0 + 4) L) (hi5 : vp_in (i0 + 5) L) {σx σm : Sg} (hRel : REL σx σm) {H : Heap} {locs : List Loc} (hPx : va_P D vwCl (WX adx csx σx) H) (hPm : va_P D vwCl (WM adm csm σm) H) (hS : va_S (LA s) s.heap H locs) {ls : Array Slot} (hl : lv_has ls 4 [(0, .ref b), (1, .ref (adx 0)), (2, .ref (adm 0)), (3, .int i0)]) (kk : ∀ (σx1 σm1 : Sg) (H1 : Heap) (locs1 : List Loc), REL σx1 σm1 → va_P D vwCl (WX adx csx σx1) H1 → va_P D vwCl (WM adm csm σm1) H1 → va_S (LA s) s.heap H1 locs1 → W p l e room_1 s m #[Value.ref b] below meth c H1 locs1 600000 7302250 Q (F0 m 1124 ls [])) : W p l e room_1 s m #[Value.ref b] below meth c H locs 600000 7302250 Q (F0 m 532 ls []) := by
  obtain ⟨Cx, Cm, hdis, hax, ham, hX, hbl, hL⟩ := id hLX
  have hx := Cx.1.1
  have hb := Cx.1.2.1
  have hbA : ¬ LA s b := Nat.not_le.mpr hbl
  -- plot
  obtain ⟨r, σx1, σm1, hfx, hfm, hRel1⟩ := sim_plot hRel (xs (i0 + 1).toNatClampNeg)
  refine lv_aload_n hx hb dL_law_532 rfl (lv_at hl 1 rfl) ?_
  refine lv_aload_n hx hb dL_law_533 rfl (lv_at hl 0 rfl) ?_
  refine lv_iload_n hx hb dL_law_534 rfl (lv_at hl 3 rfl) ?_
  refine lv_iconst (v := 1) hx hb dL_law_535 (by decide) ?_
  refine lv_iadd hx hb dL_law_536 ?_
  refine va_sld hx hb hX hbl hbA hS hi1 dL_law_537 ?_
  refine q_lcI hPx hPm (lx_dm hLX _) hS (lx_ax hLX) (q_runVL Cx ⟨Nat.le_refl _, Nat.le_refl _⟩ hPx (c_X9_plot (l := l) Cx.2.2.1 hfx) (o := 0) (ci := 8) (As := [.int (xs (i0 + 1).toNatClampNeg)]) (rest := []) ⟨gd_V k_480 k_481 k_482 k_44 k_483, ⟨rfl, rfl⟩, kd_X9_plot, ⟨Nat.le_of_ble_eq_true rfl, Nat.le_of_ble_eq_true rfl⟩⟩ rfl rfl rfl rfl rfl (Nat.le_of_ble_eq_true rfl) hl.1 dL_law_538) (fun H locs hPx hPm hS => ?_)
  refine lv_aload_n hx hb dL_law_541 rfl (lv_at hl 2 rfl) ?_
  refine lv_aload_n hx hb dL_law_542 rfl (lv_at hl 0 rfl) ?_
  refine lv_iload_n hx hb dL_law_543 rfl (lv_at hl 3 rfl) ?_
  refine lv_iconst (v := 1) hx hb dL_law_544 (by decide) ?_
  refine lv_iadd hx hb dL_law_545 ?_
  refine va_sld hx hb hX hbl hbA hS hi1 dL_law_546 ?_
  refine q_lcI hPm hPx (lx_dx hLX _) hS (lx_am hLX) (q_runVL Cm ⟨Nat.le_refl _, Nat.le_refl _⟩ hPm (c_X10_plot (l := l) Cm.2.2.1 hfm) (o := 0) (ci := 9) (As := [.int (xs (i0 + 1).toNatClampNeg)]) (rest := [.int r]) ⟨gd_V k_913 k_914 k_915 k_53 k_916, ⟨rfl, rfl⟩, kd_X10_plot, ⟨Nat.le_of_ble_eq_true rfl, Nat.le_of_ble_eq_true rfl⟩⟩ rfl rfl rfl rfl rfl (Nat.le_of_ble_eq_true rfl) hl.1 dL_law_547) (fun H locs hPm hPx hS => ?_)
  refine lv_icmp_eq (tgt := 1124) hx hb dL_law_550 (by decide) (fun _ => ?_) (fun cc0 => absurd rfl cc0)
  exact kk _ _ _ _ hRel1 hPx hPm hS
set_option maxRecDepth 100000 in
set_option maxHeartbeats 4000000 in
theorem lawc_13 (hLX : LX p m meth c s b L xs D adx adm csx csm) {i0 : Int32} (hi1 : vp_in (i0 + 1) L) (hi2 : vp_in (i0 + 2) L) (hi3 : vp_in (i0 + 3) L) (hi4 : vp_in (i0 + 4) L) (hi5 : vp_in (i0 + 5) L) {σx σm : Sg} (hRel : REL σx σm) {H : Heap} {locs : List Loc} (hPx : va_P D vwCl (WX adx csx σx) H) (hPm : va_P D vwCl (WM adm csm σm) H) (hS : va_S (LA s) s.heap H locs) {ls : Array Slot} (hl : lv_has ls 4 [(0, .ref b), (1, .ref (adx 0)), (2, .ref (adm 0)), (3, .int i0)]) (kk : ∀ (σx1 σm1 : Sg) (H1 : Heap) (locs1 : List Loc), REL σx1 σm1 → va_P D vwCl (WX adx csx σx1) H1 → va_P D vwCl (WM adm csm σm1) H1 → va_S (LA s) s.heap H1 locs1 → W p l e room_1 s m #[Value.ref b] below meth c H1 locs1 600000 7302250 Q (F0 m 1124 ls [])) : W p l e room_1 s m #[Value.ref b] below meth c H locs 600000 7302250 Q (F0 m 555 ls []) := by
  obtain ⟨Cx, Cm, hdis, hax, ham, hX, hbl, hL⟩ := id hLX
  have hx := Cx.1.1
  have hb := Cx.1.2.1
  have hbA : ¬ LA s b := Nat.not_le.mpr hbl
  -- mend
  obtain ⟨r, σx1, σm1, hfx, hfm, hRel1⟩ := sim_mend hRel (xs (i0 + 1).toNatClampNeg)
  refine lv_aload_n hx hb dL_law_555 rfl (lv_at hl 1 rfl) ?_
  refine lv_aload_n hx hb dL_law_556 rfl (lv_at hl 0 rfl) ?_
  refine lv_iload_n hx hb dL_law_557 rfl (lv_at hl 3 rfl) ?_
  refine lv_iconst (v := 1) hx hb dL_law_558 (by decide) ?_
  refine lv_iadd hx hb dL_law_559 ?_
  refine va_sld hx hb hX hbl hbA hS hi1 dL_law_560 ?_
  refine q_lcI hPx hPm (lx_dm hLX _) hS (lx_ax hLX) (q_runVL Cx ⟨Nat.le_refl _, Nat.le_refl _⟩ hPx (c_X9_mend (l := l) Cx.2.2.1 hfx) (o := 0) (ci := 8) (As := [.int (xs (i0 + 1).toNatClampNeg)]) (rest := []) ⟨gd_V k_492 k_493 k_494 k_44 k_495, ⟨rfl, rfl⟩, kd_X9_mend, ⟨Nat.le_of_ble_eq_true rfl, Nat.le_of_ble_eq_true rfl⟩⟩ rfl rfl rfl rfl rfl (Nat.le_of_ble_eq_true rfl) hl.1 dL_law_561) (fun H locs hPx hPm hS => ?_)
  refine lv_aload_n hx hb dL_law_564 rfl (lv_at hl 2 rfl) ?_
  refine lv_aload_n hx hb dL_law_565 rfl (lv_at hl 0 rfl) ?_
  refine lv_iload_n hx hb dL_law_566 rfl (lv_at hl 3 rfl) ?_
  refine lv_iconst (v := 1) hx hb dL_law_567 (by decide) ?_
  refine lv_iadd hx hb dL_law_568 ?_
  refine va_sld hx hb hX hbl hbA hS hi1 dL_law_569 ?_
  refine q_lcI hPm hPx (lx_dx hLX _) hS (lx_am hLX) (q_runVL Cm ⟨Nat.le_refl _, Nat.le_refl _⟩ hPm (c_X10_mend (l := l) Cm.2.2.1 hfm) (o := 0) (ci := 9) (As := [.int (xs (i0 + 1).toNatClampNeg)]) (rest := [.int r]) ⟨gd_V k_917 k_918 k_919 k_53 k_920, ⟨rfl, rfl⟩, kd_X10_mend, ⟨Nat.le_of_ble_eq_true rfl, Nat.le_of_ble_eq_true rfl⟩⟩ rfl rfl rfl rfl rfl (Nat.le_of_ble_eq_true rfl) hl.1 dL_law_570) (fun H locs hPm hPx hS => ?_)
  refine lv_icmp_eq (tgt := 1124) hx hb dL_law_573 (by decide) (fun _ => ?_) (fun cc0 => absurd rfl cc0)
  exact kk _ _ _ _ hRel1 hPx hPm hS
set_option maxRecDepth 100000 in
set_option maxHeartbeats 4000000 in
theorem lawc_14 (hLX : LX p m meth c s b L xs D adx adm csx csm) {i0 : Int32} (hi1 : vp_in (i0 + 1) L) (hi2 : vp_in (i0 + 2) L) (hi3 : vp_in (i0 + 3) L) (hi4 : vp_in (i0 + 4) L) (hi5 : vp_in (i0 + 5) L) {σx σm : Sg} (hRel : REL σx σm) {H : Heap} {locs : List Loc} (hPx : va_P D vwCl (WX adx csx σx) H) (hPm : va_P D vwCl (WM adm csm σm) H) (hS : va_S (LA s) s.heap H locs) {ls : Array Slot} (hl : lv_has ls 4 [(0, .ref b), (1, .ref (adx 0)), (2, .ref (adm 0)), (3, .int i0)]) (kk : ∀ (σx1 σm1 : Sg) (H1 : Heap) (locs1 : List Loc), REL σx1 σm1 → va_P D vwCl (WX adx csx σx1) H1 → va_P D vwCl (WM adm csm σm1) H1 → va_S (LA s) s.heap H1 locs1 → W p l e room_1 s m #[Value.ref b] below meth c H1 locs1 600000 7302250 Q (F0 m 1124 ls [])) : W p l e room_1 s m #[Value.ref b] below meth c H locs 600000 7302250 Q (F0 m 578 ls []) := by
  obtain ⟨Cx, Cm, hdis, hax, ham, hX, hbl, hL⟩ := id hLX
  have hx := Cx.1.1
  have hb := Cx.1.2.1
  have hbA : ¬ LA s b := Nat.not_le.mpr hbl
  -- wave
  obtain ⟨r, σx1, σm1, hfx, hfm, hRel1⟩ := sim_wave hRel (xs (i0 + 1).toNatClampNeg)
  refine lv_aload_n hx hb dL_law_578 rfl (lv_at hl 1 rfl) ?_
  refine lv_aload_n hx hb dL_law_579 rfl (lv_at hl 0 rfl) ?_
  refine lv_iload_n hx hb dL_law_580 rfl (lv_at hl 3 rfl) ?_
  refine lv_iconst (v := 1) hx hb dL_law_581 (by decide) ?_
  refine lv_iadd hx hb dL_law_582 ?_
  refine va_sld hx hb hX hbl hbA hS hi1 dL_law_583 ?_
  refine q_lcI hPx hPm (lx_dm hLX _) hS (lx_ax hLX) (q_runVL Cx ⟨Nat.le_refl _, Nat.le_refl _⟩ hPx (c_X9_wave (l := l) Cx.2.2.1 hfx) (o := 0) (ci := 8) (As := [.int (xs (i0 + 1).toNatClampNeg)]) (rest := []) ⟨gd_V k_506 k_507 k_508 k_44 k_509, ⟨rfl, rfl⟩, kd_X9_wave, ⟨Nat.le_of_ble_eq_true rfl, Nat.le_of_ble_eq_true rfl⟩⟩ rfl rfl rfl rfl rfl (Nat.le_of_ble_eq_true rfl) hl.1 dL_law_584) (fun H locs hPx hPm hS => ?_)
  refine lv_aload_n hx hb dL_law_587 rfl (lv_at hl 2 rfl) ?_
  refine lv_aload_n hx hb dL_law_588 rfl (lv_at hl 0 rfl) ?_
  refine lv_iload_n hx hb dL_law_589 rfl (lv_at hl 3 rfl) ?_
  refine lv_iconst (v := 1) hx hb dL_law_590 (by decide) ?_
  refine lv_iadd hx hb dL_law_591 ?_
  refine va_sld hx hb hX hbl hbA hS hi1 dL_law_592 ?_
  refine q_lcI hPm hPx (lx_dx hLX _) hS (lx_am hLX) (q_runVL Cm ⟨Nat.le_refl _, Nat.le_refl _⟩ hPm (c_X10_wave (l := l) Cm.2.2.1 hfm) (o := 0) (ci := 9) (As := [.int (xs (i0 + 1).toNatClampNeg)]) (rest := [.int r]) ⟨gd_V k_921 k_922 k_923 k_53 k_924, ⟨rfl, rfl⟩, kd_X10_wave, ⟨Nat.le_of_ble_eq_true rfl, Nat.le_of_ble_eq_true rfl⟩⟩ rfl rfl rfl rfl rfl (Nat.le_of_ble_eq_true rfl) hl.1 dL_law_593) (fun H locs hPm hPx hS => ?_)
  refine lv_icmp_eq (tgt := 1124) hx hb dL_law_596 (by decide) (fun _ => ?_) (fun cc0 => absurd rfl cc0)
  exact kk _ _ _ _ hRel1 hPx hPm hS
set_option maxRecDepth 100000 in
set_option maxHeartbeats 4000000 in
theorem lawc_15 (hLX : LX p m meth c s b L xs D adx adm csx csm) {i0 : Int32} (hi1 : vp_in (i0 + 1) L) (hi2 : vp_in (i0 + 2) L) (hi3 : vp_in (i0 + 3) L) (hi4 : vp_in (i0 + 4) L) (hi5 : vp_in (i0 + 5) L) {σx σm : Sg} (hRel : REL σx σm) {H : Heap} {locs : List Loc} (hPx : va_P D vwCl (WX adx csx σx) H) (hPm : va_P D vwCl (WM adm csm σm) H) (hS : va_S (LA s) s.heap H locs) {ls : Array Slot} (hl : lv_has ls 4 [(0, .ref b), (1, .ref (adx 0)), (2, .ref (adm 0)), (3, .int i0)]) (kk : ∀ (σx1 σm1 : Sg) (H1 : Heap) (locs1 : List Loc), REL σx1 σm1 → va_P D vwCl (WX adx csx σx1) H1 → va_P D vwCl (WM adm csm σm1) H1 → va_S (LA s) s.heap H1 locs1 → W p l e room_1 s m #[Value.ref b] below meth c H1 locs1 600000 7302250 Q (F0 m 1124 ls [])) : W p l e room_1 s m #[Value.ref b] below meth c H locs 600000 7302250 Q (F0 m 601 ls []) := by
  obtain ⟨Cx, Cm, hdis, hax, ham, hX, hbl, hL⟩ := id hLX
  have hx := Cx.1.1
  have hb := Cx.1.2.1
  have hbA : ¬ LA s b := Nat.not_le.mpr hbl
  -- roster
  obtain ⟨r, σx1, σm1, hfx, hfm, hRel1⟩ := sim_roster hRel (xs (i0 + 1).toNatClampNeg) (xs (i0 + 2).toNatClampNeg) (xs (i0 + 3).toNatClampNeg) (xs (i0 + 4).toNatClampNeg)
  refine lv_aload_n hx hb dL_law_601 rfl (lv_at hl 1 rfl) ?_
  refine lv_aload_n hx hb dL_law_602 rfl (lv_at hl 0 rfl) ?_
  refine lv_iload_n hx hb dL_law_603 rfl (lv_at hl 3 rfl) ?_
  refine lv_iconst (v := 1) hx hb dL_law_604 (by decide) ?_
  refine lv_iadd hx hb dL_law_605 ?_
  refine va_sld hx hb hX hbl hbA hS hi1 dL_law_606 ?_
  refine lv_aload_n hx hb dL_law_607 rfl (lv_at hl 0 rfl) ?_
  refine lv_iload_n hx hb dL_law_608 rfl (lv_at hl 3 rfl) ?_
  refine lv_iconst (v := 2) hx hb dL_law_609 (by decide) ?_
  refine lv_iadd hx hb dL_law_610 ?_
  refine va_sld hx hb hX hbl hbA hS hi2 dL_law_611 ?_
  refine lv_aload_n hx hb dL_law_612 rfl (lv_at hl 0 rfl) ?_
  refine lv_iload_n hx hb dL_law_613 rfl (lv_at hl 3 rfl) ?_
  refine lv_iconst (v := 3) hx hb dL_law_614 (by decide) ?_
  refine lv_iadd hx hb dL_law_615 ?_
  refine va_sld hx hb hX hbl hbA hS hi3 dL_law_616 ?_
  refine lv_aload_n hx hb dL_law_617 rfl (lv_at hl 0 rfl) ?_
  refine lv_iload_n hx hb dL_law_618 rfl (lv_at hl 3 rfl) ?_
  refine lv_iconst (v := 4) hx hb dL_law_619 (by decide) ?_
  refine lv_iadd hx hb dL_law_620 ?_
  refine va_sld hx hb hX hbl hbA hS hi4 dL_law_621 ?_
  refine q_lcI hPx hPm (lx_dm hLX _) hS (lx_ax hLX) (q_runVL Cx ⟨Nat.le_refl _, Nat.le_refl _⟩ hPx (c_X9_roster (l := l) Cx.2.2.1 hfx) (o := 0) (ci := 8) (As := [.int (xs (i0 + 1).toNatClampNeg), .int (xs (i0 + 2).toNatClampNeg), .int (xs (i0 + 3).toNatClampNeg), .int (xs (i0 + 4).toNatClampNeg)]) (rest := []) ⟨gd_V k_511 k_512 k_513 k_44 k_514, ⟨rfl, rfl⟩, kd_X9_roster, ⟨Nat.le_of_ble_eq_true rfl, Nat.le_of_ble_eq_true rfl⟩⟩ rfl rfl rfl rfl rfl (Nat.le_of_ble_eq_true rfl) hl.1 dL_law_622) (fun H locs hPx hPm hS => ?_)
  refine lv_aload_n hx hb dL_law_625 rfl (lv_at hl 2 rfl) ?_
  refine lv_aload_n hx hb dL_law_626 rfl (lv_at hl 0 rfl) ?_
  refine lv_iload_n hx hb dL_law_627 rfl (lv_at hl 3 rfl) ?_
  refine lv_iconst (v := 1) hx hb dL_law_628 (by decide) ?_
  refine lv_iadd hx hb dL_law_629 ?_
  refine va_sld hx hb hX hbl hbA hS hi1 dL_law_630 ?_
  refine lv_aload_n hx hb dL_law_631 rfl (lv_at hl 0 rfl) ?_
  refine lv_iload_n hx hb dL_law_632 rfl (lv_at hl 3 rfl) ?_
  refine lv_iconst (v := 2) hx hb dL_law_633 (by decide) ?_
  refine lv_iadd hx hb dL_law_634 ?_
  refine va_sld hx hb hX hbl hbA hS hi2 dL_law_635 ?_
  refine lv_aload_n hx hb dL_law_636 rfl (lv_at hl 0 rfl) ?_
  refine lv_iload_n hx hb dL_law_637 rfl (lv_at hl 3 rfl) ?_
  refine lv_iconst (v := 3) hx hb dL_law_638 (by decide) ?_
  refine lv_iadd hx hb dL_law_639 ?_
  refine va_sld hx hb hX hbl hbA hS hi3 dL_law_640 ?_
  refine lv_aload_n hx hb dL_law_641 rfl (lv_at hl 0 rfl) ?_
  refine lv_iload_n hx hb dL_law_642 rfl (lv_at hl 3 rfl) ?_
  refine lv_iconst (v := 4) hx hb dL_law_643 (by decide) ?_
  refine lv_iadd hx hb dL_law_644 ?_
  refine va_sld hx hb hX hbl hbA hS hi4 dL_law_645 ?_
  refine q_lcI hPm hPx (lx_dx hLX _) hS (lx_am hLX) (q_runVL Cm ⟨Nat.le_refl _, Nat.le_refl _⟩ hPm (c_X10_roster (l := l) Cm.2.2.1 hfm) (o := 0) (ci := 9) (As := [.int (xs (i0 + 1).toNatClampNeg), .int (xs (i0 + 2).toNatClampNeg), .int (xs (i0 + 3).toNatClampNeg), .int (xs (i0 + 4).toNatClampNeg)]) (rest := [.int r]) ⟨gd_V k_925 k_926 k_927 k_53 k_928, ⟨rfl, rfl⟩, kd_X10_roster, ⟨Nat.le_of_ble_eq_true rfl, Nat.le_of_ble_eq_true rfl⟩⟩ rfl rfl rfl rfl rfl (Nat.le_of_ble_eq_true rfl) hl.1 dL_law_646) (fun H locs hPm hPx hS => ?_)
  refine lv_icmp_eq (tgt := 1124) hx hb dL_law_649 (by decide) (fun _ => ?_) (fun cc0 => absurd rfl cc0)
  exact kk _ _ _ _ hRel1 hPx hPm hS
set_option maxRecDepth 100000 in
set_option maxHeartbeats 4000000 in
theorem lawc_16 (hLX : LX p m meth c s b L xs D adx adm csx csm) {i0 : Int32} (hi1 : vp_in (i0 + 1) L) (hi2 : vp_in (i0 + 2) L) (hi3 : vp_in (i0 + 3) L) (hi4 : vp_in (i0 + 4) L) (hi5 : vp_in (i0 + 5) L) {σx σm : Sg} (hRel : REL σx σm) {H : Heap} {locs : List Loc} (hPx : va_P D vwCl (WX adx csx σx) H) (hPm : va_P D vwCl (WM adm csm σm) H) (hS : va_S (LA s) s.heap H locs) {ls : Array Slot} (hl : lv_has ls 4 [(0, .ref b), (1, .ref (adx 0)), (2, .ref (adm 0)), (3, .int i0)]) (kk : ∀ (σx1 σm1 : Sg) (H1 : Heap) (locs1 : List Loc), REL σx1 σm1 → va_P D vwCl (WX adx csx σx1) H1 → va_P D vwCl (WM adm csm σm1) H1 → va_S (LA s) s.heap H1 locs1 → W p l e room_1 s m #[Value.ref b] below meth c H1 locs1 600000 7302250 Q (F0 m 1124 ls [])) : W p l e room_1 s m #[Value.ref b] below meth c H locs 600000 7302250 Q (F0 m 654 ls []) := by
  obtain ⟨Cx, Cm, hdis, hax, ham, hX, hbl, hL⟩ := id hLX
  have hx := Cx.1.1
  have hb := Cx.1.2.1
  have hbA : ¬ LA s b := Nat.not_le.mpr hbl
  -- reading
  obtain ⟨r, σx1, σm1, hfx, hfm, hRel1⟩ := sim_reading hRel (xs (i0 + 1).toNatClampNeg) (xs (i0 + 2).toNatClampNeg)
  refine lv_aload_n hx hb dL_law_654 rfl (lv_at hl 1 rfl) ?_
  refine lv_aload_n hx hb dL_law_655 rfl (lv_at hl 0 rfl) ?_
  refine lv_iload_n hx hb dL_law_656 rfl (lv_at hl 3 rfl) ?_
  refine lv_iconst (v := 1) hx hb dL_law_657 (by decide) ?_
  refine lv_iadd hx hb dL_law_658 ?_
  refine va_sld hx hb hX hbl hbA hS hi1 dL_law_659 ?_
  refine lv_aload_n hx hb dL_law_660 rfl (lv_at hl 0 rfl) ?_
  refine lv_iload_n hx hb dL_law_661 rfl (lv_at hl 3 rfl) ?_
  refine lv_iconst (v := 2) hx hb dL_law_662 (by decide) ?_
  refine lv_iadd hx hb dL_law_663 ?_
  refine va_sld hx hb hX hbl hbA hS hi2 dL_law_664 ?_
  refine q_lcI hPx hPm (lx_dm hLX _) hS (lx_ax hLX) (q_runVL Cx ⟨Nat.le_refl _, Nat.le_refl _⟩ hPx (c_X9_reading (l := l) Cx.2.2.1 hfx) (o := 0) (ci := 8) (As := [.int (xs (i0 + 1).toNatClampNeg), .int (xs (i0 + 2).toNatClampNeg)]) (rest := []) ⟨gd_V k_524 k_525 k_526 k_44 k_527, ⟨rfl, rfl⟩, kd_X9_reading, ⟨Nat.le_of_ble_eq_true rfl, Nat.le_of_ble_eq_true rfl⟩⟩ rfl rfl rfl rfl rfl (Nat.le_of_ble_eq_true rfl) hl.1 dL_law_665) (fun H locs hPx hPm hS => ?_)
  refine lv_aload_n hx hb dL_law_668 rfl (lv_at hl 2 rfl) ?_
  refine lv_aload_n hx hb dL_law_669 rfl (lv_at hl 0 rfl) ?_
  refine lv_iload_n hx hb dL_law_670 rfl (lv_at hl 3 rfl) ?_
  refine lv_iconst (v := 1) hx hb dL_law_671 (by decide) ?_
  refine lv_iadd hx hb dL_law_672 ?_
  refine va_sld hx hb hX hbl hbA hS hi1 dL_law_673 ?_
  refine lv_aload_n hx hb dL_law_674 rfl (lv_at hl 0 rfl) ?_
  refine lv_iload_n hx hb dL_law_675 rfl (lv_at hl 3 rfl) ?_
  refine lv_iconst (v := 2) hx hb dL_law_676 (by decide) ?_
  refine lv_iadd hx hb dL_law_677 ?_
  refine va_sld hx hb hX hbl hbA hS hi2 dL_law_678 ?_
  refine q_lcI hPm hPx (lx_dx hLX _) hS (lx_am hLX) (q_runVL Cm ⟨Nat.le_refl _, Nat.le_refl _⟩ hPm (c_X10_reading (l := l) Cm.2.2.1 hfm) (o := 0) (ci := 9) (As := [.int (xs (i0 + 1).toNatClampNeg), .int (xs (i0 + 2).toNatClampNeg)]) (rest := [.int r]) ⟨gd_V k_929 k_930 k_931 k_53 k_932, ⟨rfl, rfl⟩, kd_X10_reading, ⟨Nat.le_of_ble_eq_true rfl, Nat.le_of_ble_eq_true rfl⟩⟩ rfl rfl rfl rfl rfl (Nat.le_of_ble_eq_true rfl) hl.1 dL_law_679) (fun H locs hPm hPx hS => ?_)
  refine lv_icmp_eq (tgt := 1124) hx hb dL_law_682 (by decide) (fun _ => ?_) (fun cc0 => absurd rfl cc0)
  exact kk _ _ _ _ hRel1 hPx hPm hS
set_option maxRecDepth 100000 in
set_option maxHeartbeats 4000000 in
theorem lawc_17 (hLX : LX p m meth c s b L xs D adx adm csx csm) {i0 : Int32} (hi1 : vp_in (i0 + 1) L) (hi2 : vp_in (i0 + 2) L) (hi3 : vp_in (i0 + 3) L) (hi4 : vp_in (i0 + 4) L) (hi5 : vp_in (i0 + 5) L) {σx σm : Sg} (hRel : REL σx σm) {H : Heap} {locs : List Loc} (hPx : va_P D vwCl (WX adx csx σx) H) (hPm : va_P D vwCl (WM adm csm σm) H) (hS : va_S (LA s) s.heap H locs) {ls : Array Slot} (hl : lv_has ls 4 [(0, .ref b), (1, .ref (adx 0)), (2, .ref (adm 0)), (3, .int i0)]) (kk : ∀ (σx1 σm1 : Sg) (H1 : Heap) (locs1 : List Loc), REL σx1 σm1 → va_P D vwCl (WX adx csx σx1) H1 → va_P D vwCl (WM adm csm σm1) H1 → va_S (LA s) s.heap H1 locs1 → W p l e room_1 s m #[Value.ref b] below meth c H1 locs1 600000 7302250 Q (F0 m 1124 ls [])) : W p l e room_1 s m #[Value.ref b] below meth c H locs 600000 7302250 Q (F0 m 687 ls []) := by
  obtain ⟨Cx, Cm, hdis, hax, ham, hX, hbl, hL⟩ := id hLX
  have hx := Cx.1.1
  have hb := Cx.1.2.1
  have hbA : ¬ LA s b := Nat.not_le.mpr hbl
  -- back
  obtain ⟨r, σx1, σm1, hfx, hfm, hRel1⟩ := sim_back hRel (xs (i0 + 1).toNatClampNeg)
  refine lv_aload_n hx hb dL_law_687 rfl (lv_at hl 1 rfl) ?_
  refine lv_aload_n hx hb dL_law_688 rfl (lv_at hl 0 rfl) ?_
  refine lv_iload_n hx hb dL_law_689 rfl (lv_at hl 3 rfl) ?_
  refine lv_iconst (v := 1) hx hb dL_law_690 (by decide) ?_
  refine lv_iadd hx hb dL_law_691 ?_
  refine va_sld hx hb hX hbl hbA hS hi1 dL_law_692 ?_
  refine q_lcI hPx hPm (lx_dm hLX _) hS (lx_ax hLX) (q_runVL Cx ⟨Nat.le_refl _, Nat.le_refl _⟩ hPx (c_X9_back (l := l) Cx.2.2.1 hfx) (o := 0) (ci := 8) (As := [.int (xs (i0 + 1).toNatClampNeg)]) (rest := []) ⟨gd_V k_532 k_533 k_534 k_44 k_535, ⟨rfl, rfl⟩, kd_X9_back, ⟨Nat.le_of_ble_eq_true rfl, Nat.le_of_ble_eq_true rfl⟩⟩ rfl rfl rfl rfl rfl (Nat.le_of_ble_eq_true rfl) hl.1 dL_law_693) (fun H locs hPx hPm hS => ?_)
  refine lv_aload_n hx hb dL_law_696 rfl (lv_at hl 2 rfl) ?_
  refine lv_aload_n hx hb dL_law_697 rfl (lv_at hl 0 rfl) ?_
  refine lv_iload_n hx hb dL_law_698 rfl (lv_at hl 3 rfl) ?_
  refine lv_iconst (v := 1) hx hb dL_law_699 (by decide) ?_
  refine lv_iadd hx hb dL_law_700 ?_
  refine va_sld hx hb hX hbl hbA hS hi1 dL_law_701 ?_
  refine q_lcI hPm hPx (lx_dx hLX _) hS (lx_am hLX) (q_runVL Cm ⟨Nat.le_refl _, Nat.le_refl _⟩ hPm (c_X10_back (l := l) Cm.2.2.1 hfm) (o := 0) (ci := 9) (As := [.int (xs (i0 + 1).toNatClampNeg)]) (rest := [.int r]) ⟨gd_V k_933 k_934 k_935 k_53 k_936, ⟨rfl, rfl⟩, kd_X10_back, ⟨Nat.le_of_ble_eq_true rfl, Nat.le_of_ble_eq_true rfl⟩⟩ rfl rfl rfl rfl rfl (Nat.le_of_ble_eq_true rfl) hl.1 dL_law_702) (fun H locs hPm hPx hS => ?_)
  refine lv_icmp_eq (tgt := 1124) hx hb dL_law_705 (by decide) (fun _ => ?_) (fun cc0 => absurd rfl cc0)
  exact kk _ _ _ _ hRel1 hPx hPm hS
set_option maxRecDepth 100000 in
set_option maxHeartbeats 4000000 in
theorem lawc_18 (hLX : LX p m meth c s b L xs D adx adm csx csm) {i0 : Int32} (hi1 : vp_in (i0 + 1) L) (hi2 : vp_in (i0 + 2) L) (hi3 : vp_in (i0 + 3) L) (hi4 : vp_in (i0 + 4) L) (hi5 : vp_in (i0 + 5) L) {σx σm : Sg} (hRel : REL σx σm) {H : Heap} {locs : List Loc} (hPx : va_P D vwCl (WX adx csx σx) H) (hPm : va_P D vwCl (WM adm csm σm) H) (hS : va_S (LA s) s.heap H locs) {ls : Array Slot} (hl : lv_has ls 4 [(0, .ref b), (1, .ref (adx 0)), (2, .ref (adm 0)), (3, .int i0)]) (kk : ∀ (σx1 σm1 : Sg) (H1 : Heap) (locs1 : List Loc), REL σx1 σm1 → va_P D vwCl (WX adx csx σx1) H1 → va_P D vwCl (WM adm csm σm1) H1 → va_S (LA s) s.heap H1 locs1 → W p l e room_1 s m #[Value.ref b] below meth c H1 locs1 600000 7302250 Q (F0 m 1124 ls [])) : W p l e room_1 s m #[Value.ref b] below meth c H locs 600000 7302250 Q (F0 m 710 ls []) := by
  obtain ⟨Cx, Cm, hdis, hax, ham, hX, hbl, hL⟩ := id hLX
  have hx := Cx.1.1
  have hb := Cx.1.2.1
  have hbA : ¬ LA s b := Nat.not_le.mpr hbl
  -- failed
  obtain ⟨r, σx1, σm1, hfx, hfm, hRel1⟩ := sim_failed hRel (xs (i0 + 1).toNatClampNeg)
  refine lv_aload_n hx hb dL_law_710 rfl (lv_at hl 1 rfl) ?_
  refine lv_aload_n hx hb dL_law_711 rfl (lv_at hl 0 rfl) ?_
  refine lv_iload_n hx hb dL_law_712 rfl (lv_at hl 3 rfl) ?_
  refine lv_iconst (v := 1) hx hb dL_law_713 (by decide) ?_
  refine lv_iadd hx hb dL_law_714 ?_
  refine va_sld hx hb hX hbl hbA hS hi1 dL_law_715 ?_
  refine q_lcI hPx hPm (lx_dm hLX _) hS (lx_ax hLX) (q_runVL Cx ⟨Nat.le_refl _, Nat.le_refl _⟩ hPx (c_X9_failed (l := l) Cx.2.2.1 hfx) (o := 0) (ci := 8) (As := [.int (xs (i0 + 1).toNatClampNeg)]) (rest := []) ⟨gd_V k_536 k_537 k_538 k_44 k_539, ⟨rfl, rfl⟩, kd_X9_failed, ⟨Nat.le_of_ble_eq_true rfl, Nat.le_of_ble_eq_true rfl⟩⟩ rfl rfl rfl rfl rfl (Nat.le_of_ble_eq_true rfl) hl.1 dL_law_716) (fun H locs hPx hPm hS => ?_)
  refine lv_aload_n hx hb dL_law_719 rfl (lv_at hl 2 rfl) ?_
  refine lv_aload_n hx hb dL_law_720 rfl (lv_at hl 0 rfl) ?_
  refine lv_iload_n hx hb dL_law_721 rfl (lv_at hl 3 rfl) ?_
  refine lv_iconst (v := 1) hx hb dL_law_722 (by decide) ?_
  refine lv_iadd hx hb dL_law_723 ?_
  refine va_sld hx hb hX hbl hbA hS hi1 dL_law_724 ?_
  refine q_lcI hPm hPx (lx_dx hLX _) hS (lx_am hLX) (q_runVL Cm ⟨Nat.le_refl _, Nat.le_refl _⟩ hPm (c_X10_failed (l := l) Cm.2.2.1 hfm) (o := 0) (ci := 9) (As := [.int (xs (i0 + 1).toNatClampNeg)]) (rest := [.int r]) ⟨gd_V k_937 k_938 k_939 k_53 k_940, ⟨rfl, rfl⟩, kd_X10_failed, ⟨Nat.le_of_ble_eq_true rfl, Nat.le_of_ble_eq_true rfl⟩⟩ rfl rfl rfl rfl rfl (Nat.le_of_ble_eq_true rfl) hl.1 dL_law_725) (fun H locs hPm hPx hS => ?_)
  refine lv_icmp_eq (tgt := 1124) hx hb dL_law_728 (by decide) (fun _ => ?_) (fun cc0 => absurd rfl cc0)
  exact kk _ _ _ _ hRel1 hPx hPm hS
set_option maxRecDepth 100000 in
set_option maxHeartbeats 4000000 in
theorem lawc_19 (hLX : LX p m meth c s b L xs D adx adm csx csm) {i0 : Int32} (hi1 : vp_in (i0 + 1) L) (hi2 : vp_in (i0 + 2) L) (hi3 : vp_in (i0 + 3) L) (hi4 : vp_in (i0 + 4) L) (hi5 : vp_in (i0 + 5) L) {σx σm : Sg} (hRel : REL σx σm) {H : Heap} {locs : List Loc} (hPx : va_P D vwCl (WX adx csx σx) H) (hPm : va_P D vwCl (WM adm csm σm) H) (hS : va_S (LA s) s.heap H locs) {ls : Array Slot} (hl : lv_has ls 4 [(0, .ref b), (1, .ref (adx 0)), (2, .ref (adm 0)), (3, .int i0)]) (kk : ∀ (σx1 σm1 : Sg) (H1 : Heap) (locs1 : List Loc), REL σx1 σm1 → va_P D vwCl (WX adx csx σx1) H1 → va_P D vwCl (WM adm csm σm1) H1 → va_S (LA s) s.heap H1 locs1 → W p l e room_1 s m #[Value.ref b] below meth c H1 locs1 600000 7302250 Q (F0 m 1124 ls [])) : W p l e room_1 s m #[Value.ref b] below meth c H locs 600000 7302250 Q (F0 m 733 ls []) := by
  obtain ⟨Cx, Cm, hdis, hax, ham, hX, hbl, hL⟩ := id hLX
  have hx := Cx.1.1
  have hb := Cx.1.2.1
  have hbA : ¬ LA s b := Nat.not_le.mpr hbl
  -- laws
  obtain ⟨r, σx1, σm1, hfx, hfm, hRel1⟩ := sim_laws hRel 
  refine lv_aload_n hx hb dL_law_733 rfl (lv_at hl 1 rfl) ?_
  refine q_lcI hPx hPm (lx_dm hLX _) hS (lx_ax hLX) (q_runVL Cx ⟨Nat.le_refl _, Nat.le_refl _⟩ hPx (c_X9_laws (l := l) Cx.2.2.1 hfx) (o := 0) (ci := 8) (As := []) (rest := []) ⟨gd_V k_549 k_550 k_551 k_44 k_552, ⟨rfl, rfl⟩, kd_X9_laws, ⟨Nat.le_of_ble_eq_true rfl, Nat.le_of_ble_eq_true rfl⟩⟩ rfl rfl rfl rfl rfl (Nat.le_of_ble_eq_true rfl) hl.1 dL_law_734) (fun H locs hPx hPm hS => ?_)
  refine lv_aload_n hx hb dL_law_737 rfl (lv_at hl 2 rfl) ?_
  refine q_lcI hPm hPx (lx_dx hLX _) hS (lx_am hLX) (q_runVL Cm ⟨Nat.le_refl _, Nat.le_refl _⟩ hPm (c_X10_laws (l := l) Cm.2.2.1 hfm) (o := 0) (ci := 9) (As := []) (rest := [.int r]) ⟨gd_V k_945 k_946 k_947 k_53 k_948, ⟨rfl, rfl⟩, kd_X10_laws, ⟨Nat.le_of_ble_eq_true rfl, Nat.le_of_ble_eq_true rfl⟩⟩ rfl rfl rfl rfl rfl (Nat.le_of_ble_eq_true rfl) hl.1 dL_law_738) (fun H locs hPm hPx hS => ?_)
  refine lv_icmp_eq (tgt := 1124) hx hb dL_law_741 (by decide) (fun _ => ?_) (fun cc0 => absurd rfl cc0)
  exact kk _ _ _ _ hRel1 hPx hPm hS
set_option maxRecDepth 100000 in
set_option maxHeartbeats 4000000 in
theorem lawc_20 (hLX : LX p m meth c s b L xs D adx adm csx csm) {i0 : Int32} (hi1 : vp_in (i0 + 1) L) (hi2 : vp_in (i0 + 2) L) (hi3 : vp_in (i0 + 3) L) (hi4 : vp_in (i0 + 4) L) (hi5 : vp_in (i0 + 5) L) {σx σm : Sg} (hRel : REL σx σm) {H : Heap} {locs : List Loc} (hPx : va_P D vwCl (WX adx csx σx) H) (hPm : va_P D vwCl (WM adm csm σm) H) (hS : va_S (LA s) s.heap H locs) {ls : Array Slot} (hl : lv_has ls 4 [(0, .ref b), (1, .ref (adx 0)), (2, .ref (adm 0)), (3, .int i0)]) (kk : ∀ (σx1 σm1 : Sg) (H1 : Heap) (locs1 : List Loc), REL σx1 σm1 → va_P D vwCl (WX adx csx σx1) H1 → va_P D vwCl (WM adm csm σm1) H1 → va_S (LA s) s.heap H1 locs1 → W p l e room_1 s m #[Value.ref b] below meth c H1 locs1 600000 7302250 Q (F0 m 1124 ls [])) : W p l e room_1 s m #[Value.ref b] below meth c H locs 600000 7302250 Q (F0 m 746 ls []) := by
  obtain ⟨Cx, Cm, hdis, hax, ham, hX, hbl, hL⟩ := id hLX
  have hx := Cx.1.1
  have hb := Cx.1.2.1
  have hbA : ¬ LA s b := Nat.not_le.mpr hbl
  -- odds
  obtain ⟨r, σx1, σm1, hfx, hfm, hRel1⟩ := sim_odds hRel (xs (i0 + 1).toNatClampNeg) (xs (i0 + 2).toNatClampNeg)
  refine lv_aload_n hx hb dL_law_746 rfl (lv_at hl 1 rfl) ?_
  refine lv_aload_n hx hb dL_law_747 rfl (lv_at hl 0 rfl) ?_
  refine lv_iload_n hx hb dL_law_748 rfl (lv_at hl 3 rfl) ?_
  refine lv_iconst (v := 1) hx hb dL_law_749 (by decide) ?_
  refine lv_iadd hx hb dL_law_750 ?_
  refine va_sld hx hb hX hbl hbA hS hi1 dL_law_751 ?_
  refine lv_aload_n hx hb dL_law_752 rfl (lv_at hl 0 rfl) ?_
  refine lv_iload_n hx hb dL_law_753 rfl (lv_at hl 3 rfl) ?_
  refine lv_iconst (v := 2) hx hb dL_law_754 (by decide) ?_
  refine lv_iadd hx hb dL_law_755 ?_
  refine va_sld hx hb hX hbl hbA hS hi2 dL_law_756 ?_
  refine q_lcL hPx hPm (lx_dm hLX _) hS (lx_ax hLX) (q_runVL Cx ⟨Nat.le_refl _, Nat.le_refl _⟩ hPx (c_X9_odds (l := l) Cx.2.2.1 hfx) (o := 0) (ci := 8) (As := [.int (xs (i0 + 1).toNatClampNeg), .int (xs (i0 + 2).toNatClampNeg)]) (rest := []) ⟨gd_V k_554 k_555 k_556 k_44 k_557, ⟨rfl, rfl⟩, kd_X9_odds, ⟨Nat.le_of_ble_eq_true rfl, Nat.le_of_ble_eq_true rfl⟩⟩ rfl rfl rfl rfl rfl (Nat.le_of_ble_eq_true rfl) hl.1 dL_law_757) (fun H locs hPx hPm hS => ?_)
  refine lv_aload_n hx hb dL_law_760 rfl (lv_at hl 2 rfl) ?_
  refine lv_aload_n hx hb dL_law_761 rfl (lv_at hl 0 rfl) ?_
  refine lv_iload_n hx hb dL_law_762 rfl (lv_at hl 3 rfl) ?_
  refine lv_iconst (v := 1) hx hb dL_law_763 (by decide) ?_
  refine lv_iadd hx hb dL_law_764 ?_
  refine va_sld hx hb hX hbl hbA hS hi1 dL_law_765 ?_
  refine lv_aload_n hx hb dL_law_766 rfl (lv_at hl 0 rfl) ?_
  refine lv_iload_n hx hb dL_law_767 rfl (lv_at hl 3 rfl) ?_
  refine lv_iconst (v := 2) hx hb dL_law_768 (by decide) ?_
  refine lv_iadd hx hb dL_law_769 ?_
  refine va_sld hx hb hX hbl hbA hS hi2 dL_law_770 ?_
  refine q_lcL hPm hPx (lx_dx hLX _) hS (lx_am hLX) (q_runVL Cm ⟨Nat.le_refl _, Nat.le_refl _⟩ hPm (c_X10_odds (l := l) Cm.2.2.1 hfm) (o := 0) (ci := 9) (As := [.int (xs (i0 + 1).toNatClampNeg), .int (xs (i0 + 2).toNatClampNeg)]) (rest := [.long r]) ⟨gd_V k_949 k_950 k_951 k_53 k_952, ⟨rfl, rfl⟩, kd_X10_odds, ⟨Nat.le_of_ble_eq_true rfl, Nat.le_of_ble_eq_true rfl⟩⟩ rfl rfl rfl rfl rfl (Nat.le_of_ble_eq_true rfl) hl.1 dL_law_771) (fun H locs hPm hPx hS => ?_)
  refine W.lcmp hx hb dL_law_774 ?_
  refine lv_if_eq (tgt := 1124) hx hb dL_law_775 (by decide) (fun _ => ?_) (fun cc0 => absurd ((lg_cmp_eq r r).mpr rfl) cc0)
  exact kk _ _ _ _ hRel1 hPx hPm hS
set_option maxRecDepth 100000 in
set_option maxHeartbeats 4000000 in
theorem lawc_21 (hLX : LX p m meth c s b L xs D adx adm csx csm) {i0 : Int32} (hi1 : vp_in (i0 + 1) L) (hi2 : vp_in (i0 + 2) L) (hi3 : vp_in (i0 + 3) L) (hi4 : vp_in (i0 + 4) L) (hi5 : vp_in (i0 + 5) L) {σx σm : Sg} (hRel : REL σx σm) {H : Heap} {locs : List Loc} (hPx : va_P D vwCl (WX adx csx σx) H) (hPm : va_P D vwCl (WM adm csm σm) H) (hS : va_S (LA s) s.heap H locs) {ls : Array Slot} (hl : lv_has ls 4 [(0, .ref b), (1, .ref (adx 0)), (2, .ref (adm 0)), (3, .int i0)]) (kk : ∀ (σx1 σm1 : Sg) (H1 : Heap) (locs1 : List Loc), REL σx1 σm1 → va_P D vwCl (WX adx csx σx1) H1 → va_P D vwCl (WM adm csm σm1) H1 → va_S (LA s) s.heap H1 locs1 → W p l e room_1 s m #[Value.ref b] below meth c H1 locs1 600000 7302250 Q (F0 m 1124 ls [])) : W p l e room_1 s m #[Value.ref b] below meth c H locs 600000 7302250 Q (F0 m 780 ls []) := by
  obtain ⟨Cx, Cm, hdis, hax, ham, hX, hbl, hL⟩ := id hLX
  have hx := Cx.1.1
  have hb := Cx.1.2.1
  have hbA : ¬ LA s b := Nat.not_le.mpr hbl
  -- sheet
  obtain ⟨r, σx1, σm1, hfx, hfm, hRel1⟩ := sim_sheet hRel (xs (i0 + 1).toNatClampNeg) (xs (i0 + 2).toNatClampNeg) (xs (i0 + 3).toNatClampNeg)
  refine lv_aload_n hx hb dL_law_780 rfl (lv_at hl 1 rfl) ?_
  refine lv_aload_n hx hb dL_law_781 rfl (lv_at hl 0 rfl) ?_
  refine lv_iload_n hx hb dL_law_782 rfl (lv_at hl 3 rfl) ?_
  refine lv_iconst (v := 1) hx hb dL_law_783 (by decide) ?_
  refine lv_iadd hx hb dL_law_784 ?_
  refine va_sld hx hb hX hbl hbA hS hi1 dL_law_785 ?_
  refine lv_aload_n hx hb dL_law_786 rfl (lv_at hl 0 rfl) ?_
  refine lv_iload_n hx hb dL_law_787 rfl (lv_at hl 3 rfl) ?_
  refine lv_iconst (v := 2) hx hb dL_law_788 (by decide) ?_
  refine lv_iadd hx hb dL_law_789 ?_
  refine va_sld hx hb hX hbl hbA hS hi2 dL_law_790 ?_
  refine lv_aload_n hx hb dL_law_791 rfl (lv_at hl 0 rfl) ?_
  refine lv_iload_n hx hb dL_law_792 rfl (lv_at hl 3 rfl) ?_
  refine lv_iconst (v := 3) hx hb dL_law_793 (by decide) ?_
  refine lv_iadd hx hb dL_law_794 ?_
  refine va_sld hx hb hX hbl hbA hS hi3 dL_law_795 ?_
  refine q_lcI hPx hPm (lx_dm hLX _) hS (lx_ax hLX) (q_runVL Cx ⟨Nat.le_refl _, Nat.le_refl _⟩ hPx (c_X9_sheet (l := l) Cx.2.2.1 hfx) (o := 0) (ci := 8) (As := [.int (xs (i0 + 1).toNatClampNeg), .int (xs (i0 + 2).toNatClampNeg), .int (xs (i0 + 3).toNatClampNeg)]) (rest := []) ⟨gd_V k_564 k_565 k_566 k_44 k_567, ⟨rfl, rfl⟩, kd_X9_sheet, ⟨Nat.le_of_ble_eq_true rfl, Nat.le_of_ble_eq_true rfl⟩⟩ rfl rfl rfl rfl rfl (Nat.le_of_ble_eq_true rfl) hl.1 dL_law_796) (fun H locs hPx hPm hS => ?_)
  refine lv_aload_n hx hb dL_law_799 rfl (lv_at hl 2 rfl) ?_
  refine lv_aload_n hx hb dL_law_800 rfl (lv_at hl 0 rfl) ?_
  refine lv_iload_n hx hb dL_law_801 rfl (lv_at hl 3 rfl) ?_
  refine lv_iconst (v := 1) hx hb dL_law_802 (by decide) ?_
  refine lv_iadd hx hb dL_law_803 ?_
  refine va_sld hx hb hX hbl hbA hS hi1 dL_law_804 ?_
  refine lv_aload_n hx hb dL_law_805 rfl (lv_at hl 0 rfl) ?_
  refine lv_iload_n hx hb dL_law_806 rfl (lv_at hl 3 rfl) ?_
  refine lv_iconst (v := 2) hx hb dL_law_807 (by decide) ?_
  refine lv_iadd hx hb dL_law_808 ?_
  refine va_sld hx hb hX hbl hbA hS hi2 dL_law_809 ?_
  refine lv_aload_n hx hb dL_law_810 rfl (lv_at hl 0 rfl) ?_
  refine lv_iload_n hx hb dL_law_811 rfl (lv_at hl 3 rfl) ?_
  refine lv_iconst (v := 3) hx hb dL_law_812 (by decide) ?_
  refine lv_iadd hx hb dL_law_813 ?_
  refine va_sld hx hb hX hbl hbA hS hi3 dL_law_814 ?_
  refine q_lcI hPm hPx (lx_dx hLX _) hS (lx_am hLX) (q_runVL Cm ⟨Nat.le_refl _, Nat.le_refl _⟩ hPm (c_X10_sheet (l := l) Cm.2.2.1 hfm) (o := 0) (ci := 9) (As := [.int (xs (i0 + 1).toNatClampNeg), .int (xs (i0 + 2).toNatClampNeg), .int (xs (i0 + 3).toNatClampNeg)]) (rest := [.int r]) ⟨gd_V k_960 k_961 k_962 k_53 k_963, ⟨rfl, rfl⟩, kd_X10_sheet, ⟨Nat.le_of_ble_eq_true rfl, Nat.le_of_ble_eq_true rfl⟩⟩ rfl rfl rfl rfl rfl (Nat.le_of_ble_eq_true rfl) hl.1 dL_law_815) (fun H locs hPm hPx hS => ?_)
  refine lv_icmp_eq (tgt := 1124) hx hb dL_law_818 (by decide) (fun _ => ?_) (fun cc0 => absurd rfl cc0)
  exact kk _ _ _ _ hRel1 hPx hPm hS
set_option maxRecDepth 100000 in
set_option maxHeartbeats 4000000 in
theorem lawc_22 (hLX : LX p m meth c s b L xs D adx adm csx csm) {i0 : Int32} (hi1 : vp_in (i0 + 1) L) (hi2 : vp_in (i0 + 2) L) (hi3 : vp_in (i0 + 3) L) (hi4 : vp_in (i0 + 4) L) (hi5 : vp_in (i0 + 5) L) {σx σm : Sg} (hRel : REL σx σm) {H : Heap} {locs : List Loc} (hPx : va_P D vwCl (WX adx csx σx) H) (hPm : va_P D vwCl (WM adm csm σm) H) (hS : va_S (LA s) s.heap H locs) {ls : Array Slot} (hl : lv_has ls 4 [(0, .ref b), (1, .ref (adx 0)), (2, .ref (adm 0)), (3, .int i0)]) (kk : ∀ (σx1 σm1 : Sg) (H1 : Heap) (locs1 : List Loc), REL σx1 σm1 → va_P D vwCl (WX adx csx σx1) H1 → va_P D vwCl (WM adm csm σm1) H1 → va_S (LA s) s.heap H1 locs1 → W p l e room_1 s m #[Value.ref b] below meth c H1 locs1 600000 7302250 Q (F0 m 1124 ls [])) : W p l e room_1 s m #[Value.ref b] below meth c H locs 600000 7302250 Q (F0 m 823 ls []) := by
  obtain ⟨Cx, Cm, hdis, hax, ham, hX, hbl, hL⟩ := id hLX
  have hx := Cx.1.1
  have hb := Cx.1.2.1
  have hbA : ¬ LA s b := Nat.not_le.mpr hbl
  -- lose
  obtain ⟨r, σx1, σm1, hfx, hfm, hRel1⟩ := sim_lose hRel (xs (i0 + 1).toNatClampNeg)
  refine lv_aload_n hx hb dL_law_823 rfl (lv_at hl 1 rfl) ?_
  refine lv_aload_n hx hb dL_law_824 rfl (lv_at hl 0 rfl) ?_
  refine lv_iload_n hx hb dL_law_825 rfl (lv_at hl 3 rfl) ?_
  refine lv_iconst (v := 1) hx hb dL_law_826 (by decide) ?_
  refine lv_iadd hx hb dL_law_827 ?_
  refine va_sld hx hb hX hbl hbA hS hi1 dL_law_828 ?_
  refine q_lcI hPx hPm (lx_dm hLX _) hS (lx_ax hLX) (q_runVL Cx ⟨Nat.le_refl _, Nat.le_refl _⟩ hPx (c_X9_lose (l := l) Cx.2.2.1 hfx) (o := 0) (ci := 8) (As := [.int (xs (i0 + 1).toNatClampNeg)]) (rest := []) ⟨gd_V k_574 k_575 k_576 k_44 k_577, ⟨rfl, rfl⟩, kd_X9_lose, ⟨Nat.le_of_ble_eq_true rfl, Nat.le_of_ble_eq_true rfl⟩⟩ rfl rfl rfl rfl rfl (Nat.le_of_ble_eq_true rfl) hl.1 dL_law_829) (fun H locs hPx hPm hS => ?_)
  refine lv_aload_n hx hb dL_law_832 rfl (lv_at hl 2 rfl) ?_
  refine lv_aload_n hx hb dL_law_833 rfl (lv_at hl 0 rfl) ?_
  refine lv_iload_n hx hb dL_law_834 rfl (lv_at hl 3 rfl) ?_
  refine lv_iconst (v := 1) hx hb dL_law_835 (by decide) ?_
  refine lv_iadd hx hb dL_law_836 ?_
  refine va_sld hx hb hX hbl hbA hS hi1 dL_law_837 ?_
  refine q_lcI hPm hPx (lx_dx hLX _) hS (lx_am hLX) (q_runVL Cm ⟨Nat.le_refl _, Nat.le_refl _⟩ hPm (c_X10_lose (l := l) Cm.2.2.1 hfm) (o := 0) (ci := 9) (As := [.int (xs (i0 + 1).toNatClampNeg)]) (rest := [.int r]) ⟨gd_V k_964 k_965 k_966 k_53 k_967, ⟨rfl, rfl⟩, kd_X10_lose, ⟨Nat.le_of_ble_eq_true rfl, Nat.le_of_ble_eq_true rfl⟩⟩ rfl rfl rfl rfl rfl (Nat.le_of_ble_eq_true rfl) hl.1 dL_law_838) (fun H locs hPm hPx hS => ?_)
  refine lv_icmp_eq (tgt := 1124) hx hb dL_law_841 (by decide) (fun _ => ?_) (fun cc0 => absurd rfl cc0)
  exact kk _ _ _ _ hRel1 hPx hPm hS
set_option maxRecDepth 100000 in
set_option maxHeartbeats 4000000 in
theorem lawc_23 (hLX : LX p m meth c s b L xs D adx adm csx csm) {i0 : Int32} (hi1 : vp_in (i0 + 1) L) (hi2 : vp_in (i0 + 2) L) (hi3 : vp_in (i0 + 3) L) (hi4 : vp_in (i0 + 4) L) (hi5 : vp_in (i0 + 5) L) {σx σm : Sg} (hRel : REL σx σm) {H : Heap} {locs : List Loc} (hPx : va_P D vwCl (WX adx csx σx) H) (hPm : va_P D vwCl (WM adm csm σm) H) (hS : va_S (LA s) s.heap H locs) {ls : Array Slot} (hl : lv_has ls 4 [(0, .ref b), (1, .ref (adx 0)), (2, .ref (adm 0)), (3, .int i0)]) (kk : ∀ (σx1 σm1 : Sg) (H1 : Heap) (locs1 : List Loc), REL σx1 σm1 → va_P D vwCl (WX adx csx σx1) H1 → va_P D vwCl (WM adm csm σm1) H1 → va_S (LA s) s.heap H1 locs1 → W p l e room_1 s m #[Value.ref b] below meth c H1 locs1 600000 7302250 Q (F0 m 1124 ls [])) : W p l e room_1 s m #[Value.ref b] below meth c H locs 600000 7302250 Q (F0 m 846 ls []) := by
  obtain ⟨Cx, Cm, hdis, hax, ham, hX, hbl, hL⟩ := id hLX
  have hx := Cx.1.1
  have hb := Cx.1.2.1
  have hbA : ¬ LA s b := Nat.not_le.mpr hbl
  -- put
  obtain ⟨r, σx1, σm1, hfx, hfm, hRel1⟩ := sim_put hRel (xs (i0 + 1).toNatClampNeg) (xs (i0 + 2).toNatClampNeg) (xs (i0 + 3).toNatClampNeg)
  refine lv_aload_n hx hb dL_law_846 rfl (lv_at hl 1 rfl) ?_
  refine lv_aload_n hx hb dL_law_847 rfl (lv_at hl 0 rfl) ?_
  refine lv_iload_n hx hb dL_law_848 rfl (lv_at hl 3 rfl) ?_
  refine lv_iconst (v := 1) hx hb dL_law_849 (by decide) ?_
  refine lv_iadd hx hb dL_law_850 ?_
  refine va_sld hx hb hX hbl hbA hS hi1 dL_law_851 ?_
  refine lv_aload_n hx hb dL_law_852 rfl (lv_at hl 0 rfl) ?_
  refine lv_iload_n hx hb dL_law_853 rfl (lv_at hl 3 rfl) ?_
  refine lv_iconst (v := 2) hx hb dL_law_854 (by decide) ?_
  refine lv_iadd hx hb dL_law_855 ?_
  refine va_sld hx hb hX hbl hbA hS hi2 dL_law_856 ?_
  refine lv_aload_n hx hb dL_law_857 rfl (lv_at hl 0 rfl) ?_
  refine lv_iload_n hx hb dL_law_858 rfl (lv_at hl 3 rfl) ?_
  refine lv_iconst (v := 3) hx hb dL_law_859 (by decide) ?_
  refine lv_iadd hx hb dL_law_860 ?_
  refine va_sld hx hb hX hbl hbA hS hi3 dL_law_861 ?_
  refine q_lcI hPx hPm (lx_dm hLX _) hS (lx_ax hLX) (q_runVL Cx ⟨Nat.le_refl _, Nat.le_refl _⟩ hPx (c_X9_put (l := l) Cx.2.2.1 hfx) (o := 0) (ci := 8) (As := [.int (xs (i0 + 1).toNatClampNeg), .int (xs (i0 + 2).toNatClampNeg), .int (xs (i0 + 3).toNatClampNeg)]) (rest := []) ⟨gd_V k_578 k_579 k_580 k_44 k_581, ⟨rfl, rfl⟩, kd_X9_put, ⟨Nat.le_of_ble_eq_true rfl, Nat.le_of_ble_eq_true rfl⟩⟩ rfl rfl rfl rfl rfl (Nat.le_of_ble_eq_true rfl) hl.1 dL_law_862) (fun H locs hPx hPm hS => ?_)
  refine lv_aload_n hx hb dL_law_865 rfl (lv_at hl 2 rfl) ?_
  refine lv_aload_n hx hb dL_law_866 rfl (lv_at hl 0 rfl) ?_
  refine lv_iload_n hx hb dL_law_867 rfl (lv_at hl 3 rfl) ?_
  refine lv_iconst (v := 1) hx hb dL_law_868 (by decide) ?_
  refine lv_iadd hx hb dL_law_869 ?_
  refine va_sld hx hb hX hbl hbA hS hi1 dL_law_870 ?_
  refine lv_aload_n hx hb dL_law_871 rfl (lv_at hl 0 rfl) ?_
  refine lv_iload_n hx hb dL_law_872 rfl (lv_at hl 3 rfl) ?_
  refine lv_iconst (v := 2) hx hb dL_law_873 (by decide) ?_
  refine lv_iadd hx hb dL_law_874 ?_
  refine va_sld hx hb hX hbl hbA hS hi2 dL_law_875 ?_
  refine lv_aload_n hx hb dL_law_876 rfl (lv_at hl 0 rfl) ?_
  refine lv_iload_n hx hb dL_law_877 rfl (lv_at hl 3 rfl) ?_
  refine lv_iconst (v := 3) hx hb dL_law_878 (by decide) ?_
  refine lv_iadd hx hb dL_law_879 ?_
  refine va_sld hx hb hX hbl hbA hS hi3 dL_law_880 ?_
  refine q_lcI hPm hPx (lx_dx hLX _) hS (lx_am hLX) (q_runVL Cm ⟨Nat.le_refl _, Nat.le_refl _⟩ hPm (c_X10_put (l := l) Cm.2.2.1 hfm) (o := 0) (ci := 9) (As := [.int (xs (i0 + 1).toNatClampNeg), .int (xs (i0 + 2).toNatClampNeg), .int (xs (i0 + 3).toNatClampNeg)]) (rest := [.int r]) ⟨gd_V k_968 k_969 k_970 k_53 k_971, ⟨rfl, rfl⟩, kd_X10_put, ⟨Nat.le_of_ble_eq_true rfl, Nat.le_of_ble_eq_true rfl⟩⟩ rfl rfl rfl rfl rfl (Nat.le_of_ble_eq_true rfl) hl.1 dL_law_881) (fun H locs hPm hPx hS => ?_)
  refine lv_icmp_eq (tgt := 1124) hx hb dL_law_884 (by decide) (fun _ => ?_) (fun cc0 => absurd rfl cc0)
  exact kk _ _ _ _ hRel1 hPx hPm hS
set_option maxRecDepth 100000 in
set_option maxHeartbeats 4000000 in
theorem lawc_24 (hLX : LX p m meth c s b L xs D adx adm csx csm) {i0 : Int32} (hi1 : vp_in (i0 + 1) L) (hi2 : vp_in (i0 + 2) L) (hi3 : vp_in (i0 + 3) L) (hi4 : vp_in (i0 + 4) L) (hi5 : vp_in (i0 + 5) L) {σx σm : Sg} (hRel : REL σx σm) {H : Heap} {locs : List Loc} (hPx : va_P D vwCl (WX adx csx σx) H) (hPm : va_P D vwCl (WM adm csm σm) H) (hS : va_S (LA s) s.heap H locs) {ls : Array Slot} (hl : lv_has ls 4 [(0, .ref b), (1, .ref (adx 0)), (2, .ref (adm 0)), (3, .int i0)]) (kk : ∀ (σx1 σm1 : Sg) (H1 : Heap) (locs1 : List Loc), REL σx1 σm1 → va_P D vwCl (WX adx csx σx1) H1 → va_P D vwCl (WM adm csm σm1) H1 → va_S (LA s) s.heap H1 locs1 → W p l e room_1 s m #[Value.ref b] below meth c H1 locs1 600000 7302250 Q (F0 m 1124 ls [])) : W p l e room_1 s m #[Value.ref b] below meth c H locs 600000 7302250 Q (F0 m 889 ls []) := by
  obtain ⟨Cx, Cm, hdis, hax, ham, hX, hbl, hL⟩ := id hLX
  have hx := Cx.1.1
  have hb := Cx.1.2.1
  have hbA : ¬ LA s b := Nat.not_le.mpr hbl
  -- cell
  obtain ⟨r, σx1, σm1, hfx, hfm, hRel1⟩ := sim_cell hRel (xs (i0 + 1).toNatClampNeg) (xs (i0 + 2).toNatClampNeg) (xs (i0 + 3).toNatClampNeg)
  refine lv_aload_n hx hb dL_law_889 rfl (lv_at hl 1 rfl) ?_
  refine lv_aload_n hx hb dL_law_890 rfl (lv_at hl 0 rfl) ?_
  refine lv_iload_n hx hb dL_law_891 rfl (lv_at hl 3 rfl) ?_
  refine lv_iconst (v := 1) hx hb dL_law_892 (by decide) ?_
  refine lv_iadd hx hb dL_law_893 ?_
  refine va_sld hx hb hX hbl hbA hS hi1 dL_law_894 ?_
  refine lv_aload_n hx hb dL_law_895 rfl (lv_at hl 0 rfl) ?_
  refine lv_iload_n hx hb dL_law_896 rfl (lv_at hl 3 rfl) ?_
  refine lv_iconst (v := 2) hx hb dL_law_897 (by decide) ?_
  refine lv_iadd hx hb dL_law_898 ?_
  refine va_sld hx hb hX hbl hbA hS hi2 dL_law_899 ?_
  refine lv_aload_n hx hb dL_law_900 rfl (lv_at hl 0 rfl) ?_
  refine lv_iload_n hx hb dL_law_901 rfl (lv_at hl 3 rfl) ?_
  refine lv_iconst (v := 3) hx hb dL_law_902 (by decide) ?_
  refine lv_iadd hx hb dL_law_903 ?_
  refine va_sld hx hb hX hbl hbA hS hi3 dL_law_904 ?_
  refine q_lcL hPx hPm (lx_dm hLX _) hS (lx_ax hLX) (q_runVL Cx ⟨Nat.le_refl _, Nat.le_refl _⟩ hPx (c_X9_cell (l := l) Cx.2.2.1 hfx) (o := 0) (ci := 8) (As := [.int (xs (i0 + 1).toNatClampNeg), .int (xs (i0 + 2).toNatClampNeg), .int (xs (i0 + 3).toNatClampNeg)]) (rest := []) ⟨gd_V k_590 k_591 k_592 k_44 k_593, ⟨rfl, rfl⟩, kd_X9_cell, ⟨Nat.le_of_ble_eq_true rfl, Nat.le_of_ble_eq_true rfl⟩⟩ rfl rfl rfl rfl rfl (Nat.le_of_ble_eq_true rfl) hl.1 dL_law_905) (fun H locs hPx hPm hS => ?_)
  refine lv_aload_n hx hb dL_law_908 rfl (lv_at hl 2 rfl) ?_
  refine lv_aload_n hx hb dL_law_909 rfl (lv_at hl 0 rfl) ?_
  refine lv_iload_n hx hb dL_law_910 rfl (lv_at hl 3 rfl) ?_
  refine lv_iconst (v := 1) hx hb dL_law_911 (by decide) ?_
  refine lv_iadd hx hb dL_law_912 ?_
  refine va_sld hx hb hX hbl hbA hS hi1 dL_law_913 ?_
  refine lv_aload_n hx hb dL_law_914 rfl (lv_at hl 0 rfl) ?_
  refine lv_iload_n hx hb dL_law_915 rfl (lv_at hl 3 rfl) ?_
  refine lv_iconst (v := 2) hx hb dL_law_916 (by decide) ?_
  refine lv_iadd hx hb dL_law_917 ?_
  refine va_sld hx hb hX hbl hbA hS hi2 dL_law_918 ?_
  refine lv_aload_n hx hb dL_law_919 rfl (lv_at hl 0 rfl) ?_
  refine lv_iload_n hx hb dL_law_920 rfl (lv_at hl 3 rfl) ?_
  refine lv_iconst (v := 3) hx hb dL_law_921 (by decide) ?_
  refine lv_iadd hx hb dL_law_922 ?_
  refine va_sld hx hb hX hbl hbA hS hi3 dL_law_923 ?_
  refine q_lcL hPm hPx (lx_dx hLX _) hS (lx_am hLX) (q_runVL Cm ⟨Nat.le_refl _, Nat.le_refl _⟩ hPm (c_X10_cell (l := l) Cm.2.2.1 hfm) (o := 0) (ci := 9) (As := [.int (xs (i0 + 1).toNatClampNeg), .int (xs (i0 + 2).toNatClampNeg), .int (xs (i0 + 3).toNatClampNeg)]) (rest := [.long r]) ⟨gd_V k_976 k_977 k_978 k_53 k_979, ⟨rfl, rfl⟩, kd_X10_cell, ⟨Nat.le_of_ble_eq_true rfl, Nat.le_of_ble_eq_true rfl⟩⟩ rfl rfl rfl rfl rfl (Nat.le_of_ble_eq_true rfl) hl.1 dL_law_924) (fun H locs hPm hPx hS => ?_)
  refine W.lcmp hx hb dL_law_927 ?_
  refine lv_if_eq (tgt := 1124) hx hb dL_law_928 (by decide) (fun _ => ?_) (fun cc0 => absurd ((lg_cmp_eq r r).mpr rfl) cc0)
  exact kk _ _ _ _ hRel1 hPx hPm hS
set_option maxRecDepth 100000 in
set_option maxHeartbeats 4000000 in
theorem lawc_25 (hLX : LX p m meth c s b L xs D adx adm csx csm) {i0 : Int32} (hi1 : vp_in (i0 + 1) L) (hi2 : vp_in (i0 + 2) L) (hi3 : vp_in (i0 + 3) L) (hi4 : vp_in (i0 + 4) L) (hi5 : vp_in (i0 + 5) L) {σx σm : Sg} (hRel : REL σx σm) {H : Heap} {locs : List Loc} (hPx : va_P D vwCl (WX adx csx σx) H) (hPm : va_P D vwCl (WM adm csm σm) H) (hS : va_S (LA s) s.heap H locs) {ls : Array Slot} (hl : lv_has ls 4 [(0, .ref b), (1, .ref (adx 0)), (2, .ref (adm 0)), (3, .int i0)]) (kk : ∀ (σx1 σm1 : Sg) (H1 : Heap) (locs1 : List Loc), REL σx1 σm1 → va_P D vwCl (WX adx csx σx1) H1 → va_P D vwCl (WM adm csm σm1) H1 → va_S (LA s) s.heap H1 locs1 → W p l e room_1 s m #[Value.ref b] below meth c H1 locs1 600000 7302250 Q (F0 m 1124 ls [])) : W p l e room_1 s m #[Value.ref b] below meth c H locs 600000 7302250 Q (F0 m 933 ls []) := by
  obtain ⟨Cx, Cm, hdis, hax, ham, hX, hbl, hL⟩ := id hLX
  have hx := Cx.1.1
  have hb := Cx.1.2.1
  have hbA : ¬ LA s b := Nat.not_le.mpr hbl
  -- copy
  obtain ⟨r, σx1, σm1, hfx, hfm, hRel1⟩ := sim_copy hRel (xs (i0 + 1).toNatClampNeg) (xs (i0 + 2).toNatClampNeg) (xs (i0 + 3).toNatClampNeg) (xs (i0 + 4).toNatClampNeg) (xs (i0 + 5).toNatClampNeg)
  refine lv_aload_n hx hb dL_law_933 rfl (lv_at hl 1 rfl) ?_
  refine lv_aload_n hx hb dL_law_934 rfl (lv_at hl 0 rfl) ?_
  refine lv_iload_n hx hb dL_law_935 rfl (lv_at hl 3 rfl) ?_
  refine lv_iconst (v := 1) hx hb dL_law_936 (by decide) ?_
  refine lv_iadd hx hb dL_law_937 ?_
  refine va_sld hx hb hX hbl hbA hS hi1 dL_law_938 ?_
  refine lv_aload_n hx hb dL_law_939 rfl (lv_at hl 0 rfl) ?_
  refine lv_iload_n hx hb dL_law_940 rfl (lv_at hl 3 rfl) ?_
  refine lv_iconst (v := 2) hx hb dL_law_941 (by decide) ?_
  refine lv_iadd hx hb dL_law_942 ?_
  refine va_sld hx hb hX hbl hbA hS hi2 dL_law_943 ?_
  refine lv_aload_n hx hb dL_law_944 rfl (lv_at hl 0 rfl) ?_
  refine lv_iload_n hx hb dL_law_945 rfl (lv_at hl 3 rfl) ?_
  refine lv_iconst (v := 3) hx hb dL_law_946 (by decide) ?_
  refine lv_iadd hx hb dL_law_947 ?_
  refine va_sld hx hb hX hbl hbA hS hi3 dL_law_948 ?_
  refine lv_aload_n hx hb dL_law_949 rfl (lv_at hl 0 rfl) ?_
  refine lv_iload_n hx hb dL_law_950 rfl (lv_at hl 3 rfl) ?_
  refine lv_iconst (v := 4) hx hb dL_law_951 (by decide) ?_
  refine lv_iadd hx hb dL_law_952 ?_
  refine va_sld hx hb hX hbl hbA hS hi4 dL_law_953 ?_
  refine lv_aload_n hx hb dL_law_954 rfl (lv_at hl 0 rfl) ?_
  refine lv_iload_n hx hb dL_law_955 rfl (lv_at hl 3 rfl) ?_
  refine lv_iconst (v := 5) hx hb dL_law_956 (by decide) ?_
  refine lv_iadd hx hb dL_law_957 ?_
  refine va_sld hx hb hX hbl hbA hS hi5 dL_law_958 ?_
  refine q_lcI hPx hPm (lx_dm hLX _) hS (lx_ax hLX) (q_runVL Cx ⟨Nat.le_refl _, Nat.le_refl _⟩ hPx (c_X9_copy (l := l) Cx.2.2.1 hfx) (o := 0) (ci := 8) (As := [.int (xs (i0 + 1).toNatClampNeg), .int (xs (i0 + 2).toNatClampNeg), .int (xs (i0 + 3).toNatClampNeg), .int (xs (i0 + 4).toNatClampNeg), .int (xs (i0 + 5).toNatClampNeg)]) (rest := []) ⟨gd_V k_594 k_595 k_596 k_44 k_597, ⟨rfl, rfl⟩, kd_X9_copy, ⟨Nat.le_of_ble_eq_true rfl, Nat.le_of_ble_eq_true rfl⟩⟩ rfl rfl rfl rfl rfl (Nat.le_of_ble_eq_true rfl) hl.1 dL_law_959) (fun H locs hPx hPm hS => ?_)
  refine lv_aload_n hx hb dL_law_962 rfl (lv_at hl 2 rfl) ?_
  refine lv_aload_n hx hb dL_law_963 rfl (lv_at hl 0 rfl) ?_
  refine lv_iload_n hx hb dL_law_964 rfl (lv_at hl 3 rfl) ?_
  refine lv_iconst (v := 1) hx hb dL_law_965 (by decide) ?_
  refine lv_iadd hx hb dL_law_966 ?_
  refine va_sld hx hb hX hbl hbA hS hi1 dL_law_967 ?_
  refine lv_aload_n hx hb dL_law_968 rfl (lv_at hl 0 rfl) ?_
  refine lv_iload_n hx hb dL_law_969 rfl (lv_at hl 3 rfl) ?_
  refine lv_iconst (v := 2) hx hb dL_law_970 (by decide) ?_
  refine lv_iadd hx hb dL_law_971 ?_
  refine va_sld hx hb hX hbl hbA hS hi2 dL_law_972 ?_
  refine lv_aload_n hx hb dL_law_973 rfl (lv_at hl 0 rfl) ?_
  refine lv_iload_n hx hb dL_law_974 rfl (lv_at hl 3 rfl) ?_
  refine lv_iconst (v := 3) hx hb dL_law_975 (by decide) ?_
  refine lv_iadd hx hb dL_law_976 ?_
  refine va_sld hx hb hX hbl hbA hS hi3 dL_law_977 ?_
  refine lv_aload_n hx hb dL_law_978 rfl (lv_at hl 0 rfl) ?_
  refine lv_iload_n hx hb dL_law_979 rfl (lv_at hl 3 rfl) ?_
  refine lv_iconst (v := 4) hx hb dL_law_980 (by decide) ?_
  refine lv_iadd hx hb dL_law_981 ?_
  refine va_sld hx hb hX hbl hbA hS hi4 dL_law_982 ?_
  refine lv_aload_n hx hb dL_law_983 rfl (lv_at hl 0 rfl) ?_
  refine lv_iload_n hx hb dL_law_984 rfl (lv_at hl 3 rfl) ?_
  refine lv_iconst (v := 5) hx hb dL_law_985 (by decide) ?_
  refine lv_iadd hx hb dL_law_986 ?_
  refine va_sld hx hb hX hbl hbA hS hi5 dL_law_987 ?_
  refine q_lcI hPm hPx (lx_dx hLX _) hS (lx_am hLX) (q_runVL Cm ⟨Nat.le_refl _, Nat.le_refl _⟩ hPm (c_X10_copy (l := l) Cm.2.2.1 hfm) (o := 0) (ci := 9) (As := [.int (xs (i0 + 1).toNatClampNeg), .int (xs (i0 + 2).toNatClampNeg), .int (xs (i0 + 3).toNatClampNeg), .int (xs (i0 + 4).toNatClampNeg), .int (xs (i0 + 5).toNatClampNeg)]) (rest := [.int r]) ⟨gd_V k_984 k_985 k_986 k_53 k_987, ⟨rfl, rfl⟩, kd_X10_copy, ⟨Nat.le_of_ble_eq_true rfl, Nat.le_of_ble_eq_true rfl⟩⟩ rfl rfl rfl rfl rfl (Nat.le_of_ble_eq_true rfl) hl.1 dL_law_988) (fun H locs hPm hPx hS => ?_)
  refine lv_icmp_eq (tgt := 1124) hx hb dL_law_991 (by decide) (fun _ => ?_) (fun cc0 => absurd rfl cc0)
  exact kk _ _ _ _ hRel1 hPx hPm hS
set_option maxRecDepth 100000 in
set_option maxHeartbeats 4000000 in
theorem lawc_26 (hLX : LX p m meth c s b L xs D adx adm csx csm) {i0 : Int32} (hi1 : vp_in (i0 + 1) L) (hi2 : vp_in (i0 + 2) L) (hi3 : vp_in (i0 + 3) L) (hi4 : vp_in (i0 + 4) L) (hi5 : vp_in (i0 + 5) L) {σx σm : Sg} (hRel : REL σx σm) {H : Heap} {locs : List Loc} (hPx : va_P D vwCl (WX adx csx σx) H) (hPm : va_P D vwCl (WM adm csm σm) H) (hS : va_S (LA s) s.heap H locs) {ls : Array Slot} (hl : lv_has ls 4 [(0, .ref b), (1, .ref (adx 0)), (2, .ref (adm 0)), (3, .int i0)]) (kk : ∀ (σx1 σm1 : Sg) (H1 : Heap) (locs1 : List Loc), REL σx1 σm1 → va_P D vwCl (WX adx csx σx1) H1 → va_P D vwCl (WM adm csm σm1) H1 → va_S (LA s) s.heap H1 locs1 → W p l e room_1 s m #[Value.ref b] below meth c H1 locs1 600000 7302250 Q (F0 m 1124 ls [])) : W p l e room_1 s m #[Value.ref b] below meth c H locs 600000 7302250 Q (F0 m 996 ls []) := by
  obtain ⟨Cx, Cm, hdis, hax, ham, hX, hbl, hL⟩ := id hLX
  have hx := Cx.1.1
  have hb := Cx.1.2.1
  have hbA : ¬ LA s b := Nat.not_le.mpr hbl
  -- tell
  obtain ⟨r, σx1, σm1, hfx, hfm, hRel1⟩ := sim_tell hRel (xs (i0 + 1).toNatClampNeg)
  refine lv_aload_n hx hb dL_law_996 rfl (lv_at hl 1 rfl) ?_
  refine lv_aload_n hx hb dL_law_997 rfl (lv_at hl 0 rfl) ?_
  refine lv_iload_n hx hb dL_law_998 rfl (lv_at hl 3 rfl) ?_
  refine lv_iconst (v := 1) hx hb dL_law_999 (by decide) ?_
  refine lv_iadd hx hb dL_law_1000 ?_
  refine va_sld hx hb hX hbl hbA hS hi1 dL_law_1001 ?_
  refine q_lcI hPx hPm (lx_dm hLX _) hS (lx_ax hLX) (q_runVL Cx ⟨Nat.le_refl _, Nat.le_refl _⟩ hPx (c_X9_tell (l := l) Cx.2.2.1 hfx) (o := 0) (ci := 8) (As := [.int (xs (i0 + 1).toNatClampNeg)]) (rest := []) ⟨gd_V k_602 k_603 k_604 k_44 k_605, ⟨rfl, rfl⟩, kd_X9_tell, ⟨Nat.le_of_ble_eq_true rfl, Nat.le_of_ble_eq_true rfl⟩⟩ rfl rfl rfl rfl rfl (Nat.le_of_ble_eq_true rfl) hl.1 dL_law_1002) (fun H locs hPx hPm hS => ?_)
  refine lv_aload_n hx hb dL_law_1005 rfl (lv_at hl 2 rfl) ?_
  refine lv_aload_n hx hb dL_law_1006 rfl (lv_at hl 0 rfl) ?_
  refine lv_iload_n hx hb dL_law_1007 rfl (lv_at hl 3 rfl) ?_
  refine lv_iconst (v := 1) hx hb dL_law_1008 (by decide) ?_
  refine lv_iadd hx hb dL_law_1009 ?_
  refine va_sld hx hb hX hbl hbA hS hi1 dL_law_1010 ?_
  refine q_lcI hPm hPx (lx_dx hLX _) hS (lx_am hLX) (q_runVL Cm ⟨Nat.le_refl _, Nat.le_refl _⟩ hPm (c_X10_tell (l := l) Cm.2.2.1 hfm) (o := 0) (ci := 9) (As := [.int (xs (i0 + 1).toNatClampNeg)]) (rest := [.int r]) ⟨gd_V k_988 k_989 k_990 k_53 k_991, ⟨rfl, rfl⟩, kd_X10_tell, ⟨Nat.le_of_ble_eq_true rfl, Nat.le_of_ble_eq_true rfl⟩⟩ rfl rfl rfl rfl rfl (Nat.le_of_ble_eq_true rfl) hl.1 dL_law_1011) (fun H locs hPm hPx hS => ?_)
  refine lv_icmp_eq (tgt := 1124) hx hb dL_law_1014 (by decide) (fun _ => ?_) (fun cc0 => absurd rfl cc0)
  exact kk _ _ _ _ hRel1 hPx hPm hS
set_option maxRecDepth 100000 in
set_option maxHeartbeats 4000000 in
theorem lawc_27 (hLX : LX p m meth c s b L xs D adx adm csx csm) {i0 : Int32} (hi1 : vp_in (i0 + 1) L) (hi2 : vp_in (i0 + 2) L) (hi3 : vp_in (i0 + 3) L) (hi4 : vp_in (i0 + 4) L) (hi5 : vp_in (i0 + 5) L) {σx σm : Sg} (hRel : REL σx σm) {H : Heap} {locs : List Loc} (hPx : va_P D vwCl (WX adx csx σx) H) (hPm : va_P D vwCl (WM adm csm σm) H) (hS : va_S (LA s) s.heap H locs) {ls : Array Slot} (hl : lv_has ls 4 [(0, .ref b), (1, .ref (adx 0)), (2, .ref (adm 0)), (3, .int i0)]) (kk : ∀ (σx1 σm1 : Sg) (H1 : Heap) (locs1 : List Loc), REL σx1 σm1 → va_P D vwCl (WX adx csx σx1) H1 → va_P D vwCl (WM adm csm σm1) H1 → va_S (LA s) s.heap H1 locs1 → W p l e room_1 s m #[Value.ref b] below meth c H1 locs1 600000 7302250 Q (F0 m 1124 ls [])) : W p l e room_1 s m #[Value.ref b] below meth c H locs 600000 7302250 Q (F0 m 1019 ls []) := by
  obtain ⟨Cx, Cm, hdis, hax, ham, hX, hbl, hL⟩ := id hLX
  have hx := Cx.1.1
  have hb := Cx.1.2.1
  have hbA : ¬ LA s b := Nat.not_le.mpr hbl
  -- call
  obtain ⟨r, σx1, σm1, hfx, hfm, hRel1⟩ := sim_call hRel (xs (i0 + 1).toNatClampNeg)
  refine lv_aload_n hx hb dL_law_1019 rfl (lv_at hl 1 rfl) ?_
  refine lv_aload_n hx hb dL_law_1020 rfl (lv_at hl 0 rfl) ?_
  refine lv_iload_n hx hb dL_law_1021 rfl (lv_at hl 3 rfl) ?_
  refine lv_iconst (v := 1) hx hb dL_law_1022 (by decide) ?_
  refine lv_iadd hx hb dL_law_1023 ?_
  refine va_sld hx hb hX hbl hbA hS hi1 dL_law_1024 ?_
  refine q_lcI hPx hPm (lx_dm hLX _) hS (lx_ax hLX) (q_runVL Cx ⟨Nat.le_refl _, Nat.le_refl _⟩ hPx (c_X9_call (l := l) Cx.2.2.1 hfx) (o := 0) (ci := 8) (As := [.int (xs (i0 + 1).toNatClampNeg)]) (rest := []) ⟨gd_V k_626 k_627 k_628 k_44 k_629, ⟨rfl, rfl⟩, kd_X9_call, ⟨Nat.le_of_ble_eq_true rfl, Nat.le_of_ble_eq_true rfl⟩⟩ rfl rfl rfl rfl rfl (Nat.le_of_ble_eq_true rfl) hl.1 dL_law_1025) (fun H locs hPx hPm hS => ?_)
  refine lv_aload_n hx hb dL_law_1028 rfl (lv_at hl 2 rfl) ?_
  refine lv_aload_n hx hb dL_law_1029 rfl (lv_at hl 0 rfl) ?_
  refine lv_iload_n hx hb dL_law_1030 rfl (lv_at hl 3 rfl) ?_
  refine lv_iconst (v := 1) hx hb dL_law_1031 (by decide) ?_
  refine lv_iadd hx hb dL_law_1032 ?_
  refine va_sld hx hb hX hbl hbA hS hi1 dL_law_1033 ?_
  refine q_lcI hPm hPx (lx_dx hLX _) hS (lx_am hLX) (q_runVL Cm ⟨Nat.le_refl _, Nat.le_refl _⟩ hPm (c_X10_call (l := l) Cm.2.2.1 hfm) (o := 0) (ci := 9) (As := [.int (xs (i0 + 1).toNatClampNeg)]) (rest := [.int r]) ⟨gd_V k_996 k_997 k_998 k_53 k_999, ⟨rfl, rfl⟩, kd_X10_call, ⟨Nat.le_of_ble_eq_true rfl, Nat.le_of_ble_eq_true rfl⟩⟩ rfl rfl rfl rfl rfl (Nat.le_of_ble_eq_true rfl) hl.1 dL_law_1034) (fun H locs hPm hPx hS => ?_)
  refine lv_icmp_eq (tgt := 1124) hx hb dL_law_1037 (by decide) (fun _ => ?_) (fun cc0 => absurd rfl cc0)
  exact kk _ _ _ _ hRel1 hPx hPm hS
set_option maxRecDepth 100000 in
set_option maxHeartbeats 4000000 in
theorem lawc_28 (hLX : LX p m meth c s b L xs D adx adm csx csm) {i0 : Int32} (hi1 : vp_in (i0 + 1) L) (hi2 : vp_in (i0 + 2) L) (hi3 : vp_in (i0 + 3) L) (hi4 : vp_in (i0 + 4) L) (hi5 : vp_in (i0 + 5) L) {σx σm : Sg} (hRel : REL σx σm) {H : Heap} {locs : List Loc} (hPx : va_P D vwCl (WX adx csx σx) H) (hPm : va_P D vwCl (WM adm csm σm) H) (hS : va_S (LA s) s.heap H locs) {ls : Array Slot} (hl : lv_has ls 4 [(0, .ref b), (1, .ref (adx 0)), (2, .ref (adm 0)), (3, .int i0)]) (kk : ∀ (σx1 σm1 : Sg) (H1 : Heap) (locs1 : List Loc), REL σx1 σm1 → va_P D vwCl (WX adx csx σx1) H1 → va_P D vwCl (WM adm csm σm1) H1 → va_S (LA s) s.heap H1 locs1 → W p l e room_1 s m #[Value.ref b] below meth c H1 locs1 600000 7302250 Q (F0 m 1124 ls [])) : W p l e room_1 s m #[Value.ref b] below meth c H locs 600000 7302250 Q (F0 m 1042 ls []) := by
  obtain ⟨Cx, Cm, hdis, hax, ham, hX, hbl, hL⟩ := id hLX
  have hx := Cx.1.1
  have hb := Cx.1.2.1
  have hbA : ¬ LA s b := Nat.not_le.mpr hbl
  -- as
  obtain ⟨r, σx1, σm1, hfx, hfm, hRel1⟩ := sim_as hRel (xs (i0 + 1).toNatClampNeg) (xs (i0 + 2).toNatClampNeg)
  refine lv_aload_n hx hb dL_law_1042 rfl (lv_at hl 1 rfl) ?_
  refine lv_aload_n hx hb dL_law_1043 rfl (lv_at hl 0 rfl) ?_
  refine lv_iload_n hx hb dL_law_1044 rfl (lv_at hl 3 rfl) ?_
  refine lv_iconst (v := 1) hx hb dL_law_1045 (by decide) ?_
  refine lv_iadd hx hb dL_law_1046 ?_
  refine va_sld hx hb hX hbl hbA hS hi1 dL_law_1047 ?_
  refine lv_aload_n hx hb dL_law_1048 rfl (lv_at hl 0 rfl) ?_
  refine lv_iload_n hx hb dL_law_1049 rfl (lv_at hl 3 rfl) ?_
  refine lv_iconst (v := 2) hx hb dL_law_1050 (by decide) ?_
  refine lv_iadd hx hb dL_law_1051 ?_
  refine va_sld hx hb hX hbl hbA hS hi2 dL_law_1052 ?_
  refine q_lcI hPx hPm (lx_dm hLX _) hS (lx_ax hLX) (q_runVL Cx ⟨Nat.le_refl _, Nat.le_refl _⟩ hPx (c_X9_as (l := l) Cx.2.2.1 hfx) (o := 0) (ci := 8) (As := [.int (xs (i0 + 1).toNatClampNeg), .int (xs (i0 + 2).toNatClampNeg)]) (rest := []) ⟨gd_V k_642 k_643 k_644 k_44 k_645, ⟨rfl, rfl⟩, kd_X9_as, ⟨Nat.le_of_ble_eq_true rfl, Nat.le_of_ble_eq_true rfl⟩⟩ rfl rfl rfl rfl rfl (Nat.le_of_ble_eq_true rfl) hl.1 dL_law_1053) (fun H locs hPx hPm hS => ?_)
  refine lv_aload_n hx hb dL_law_1056 rfl (lv_at hl 2 rfl) ?_
  refine lv_aload_n hx hb dL_law_1057 rfl (lv_at hl 0 rfl) ?_
  refine lv_iload_n hx hb dL_law_1058 rfl (lv_at hl 3 rfl) ?_
  refine lv_iconst (v := 1) hx hb dL_law_1059 (by decide) ?_
  refine lv_iadd hx hb dL_law_1060 ?_
  refine va_sld hx hb hX hbl hbA hS hi1 dL_law_1061 ?_
  refine lv_aload_n hx hb dL_law_1062 rfl (lv_at hl 0 rfl) ?_
  refine lv_iload_n hx hb dL_law_1063 rfl (lv_at hl 3 rfl) ?_
  refine lv_iconst (v := 2) hx hb dL_law_1064 (by decide) ?_
  refine lv_iadd hx hb dL_law_1065 ?_
  refine va_sld hx hb hX hbl hbA hS hi2 dL_law_1066 ?_
  refine q_lcI hPm hPx (lx_dx hLX _) hS (lx_am hLX) (q_runVL Cm ⟨Nat.le_refl _, Nat.le_refl _⟩ hPm (c_X10_as (l := l) Cm.2.2.1 hfm) (o := 0) (ci := 9) (As := [.int (xs (i0 + 1).toNatClampNeg), .int (xs (i0 + 2).toNatClampNeg)]) (rest := [.int r]) ⟨gd_V k_1000 k_1001 k_1002 k_53 k_1003, ⟨rfl, rfl⟩, kd_X10_as, ⟨Nat.le_of_ble_eq_true rfl, Nat.le_of_ble_eq_true rfl⟩⟩ rfl rfl rfl rfl rfl (Nat.le_of_ble_eq_true rfl) hl.1 dL_law_1067) (fun H locs hPm hPx hS => ?_)
  refine lv_icmp_eq (tgt := 1124) hx hb dL_law_1070 (by decide) (fun _ => ?_) (fun cc0 => absurd rfl cc0)
  exact kk _ _ _ _ hRel1 hPx hPm hS
set_option maxRecDepth 100000 in
set_option maxHeartbeats 4000000 in
theorem lawc_29 (hLX : LX p m meth c s b L xs D adx adm csx csm) {i0 : Int32} (hi1 : vp_in (i0 + 1) L) (hi2 : vp_in (i0 + 2) L) (hi3 : vp_in (i0 + 3) L) (hi4 : vp_in (i0 + 4) L) (hi5 : vp_in (i0 + 5) L) {σx σm : Sg} (hRel : REL σx σm) {H : Heap} {locs : List Loc} (hPx : va_P D vwCl (WX adx csx σx) H) (hPm : va_P D vwCl (WM adm csm σm) H) (hS : va_S (LA s) s.heap H locs) {ls : Array Slot} (hl : lv_has ls 4 [(0, .ref b), (1, .ref (adx 0)), (2, .ref (adm 0)), (3, .int i0)]) (kk : ∀ (σx1 σm1 : Sg) (H1 : Heap) (locs1 : List Loc), REL σx1 σm1 → va_P D vwCl (WX adx csx σx1) H1 → va_P D vwCl (WM adm csm σm1) H1 → va_S (LA s) s.heap H1 locs1 → W p l e room_1 s m #[Value.ref b] below meth c H1 locs1 600000 7302250 Q (F0 m 1124 ls [])) : W p l e room_1 s m #[Value.ref b] below meth c H locs 600000 7302250 Q (F0 m 1075 ls []) := by
  obtain ⟨Cx, Cm, hdis, hax, ham, hX, hbl, hL⟩ := id hLX
  have hx := Cx.1.1
  have hb := Cx.1.2.1
  have hbA : ¬ LA s b := Nat.not_le.mpr hbl
  -- trace
  obtain ⟨r, hfx, hfm⟩ := sim_trace hRel 
  refine lv_aload_n hx hb dL_law_1075 rfl (lv_at hl 1 rfl) ?_
  refine q_lcI hPx hPm (lx_dm hLX _) hS (lx_ax hLX) (q_runVL Cx ⟨Nat.le_refl _, Nat.le_refl _⟩ hPx (c_X9_trace (l := l) Cx.2.2.1 hfx) (o := 0) (ci := 8) (As := []) (rest := []) ⟨gd_V k_646 k_647 k_648 k_44 k_649, ⟨rfl, rfl⟩, kd_X9_trace, ⟨Nat.le_of_ble_eq_true rfl, Nat.le_of_ble_eq_true rfl⟩⟩ rfl rfl rfl rfl rfl (Nat.le_of_ble_eq_true rfl) hl.1 dL_law_1076) (fun H locs hPx hPm hS => ?_)
  refine lv_aload_n hx hb dL_law_1079 rfl (lv_at hl 2 rfl) ?_
  refine q_lcI hPm hPx (lx_dx hLX _) hS (lx_am hLX) (q_runVL Cm ⟨Nat.le_refl _, Nat.le_refl _⟩ hPm (c_X10_trace (l := l) Cm.2.2.1 hfm) (o := 0) (ci := 9) (As := []) (rest := [.int r]) ⟨gd_V k_1004 k_1005 k_1006 k_53 k_1007, ⟨rfl, rfl⟩, kd_X10_trace, ⟨Nat.le_of_ble_eq_true rfl, Nat.le_of_ble_eq_true rfl⟩⟩ rfl rfl rfl rfl rfl (Nat.le_of_ble_eq_true rfl) hl.1 dL_law_1080) (fun H locs hPm hPx hS => ?_)
  refine lv_icmp_eq (tgt := 1124) hx hb dL_law_1083 (by decide) (fun _ => ?_) (fun cc0 => absurd rfl cc0)
  exact kk _ _ _ _ hRel hPx hPm hS
set_option maxRecDepth 100000 in
set_option maxHeartbeats 4000000 in
theorem lawc_30 (hLX : LX p m meth c s b L xs D adx adm csx csm) {i0 : Int32} (hi1 : vp_in (i0 + 1) L) (hi2 : vp_in (i0 + 2) L) (hi3 : vp_in (i0 + 3) L) (hi4 : vp_in (i0 + 4) L) (hi5 : vp_in (i0 + 5) L) {σx σm : Sg} (hRel : REL σx σm) {H : Heap} {locs : List Loc} (hPx : va_P D vwCl (WX adx csx σx) H) (hPm : va_P D vwCl (WM adm csm σm) H) (hS : va_S (LA s) s.heap H locs) {ls : Array Slot} (hl : lv_has ls 4 [(0, .ref b), (1, .ref (adx 0)), (2, .ref (adm 0)), (3, .int i0)]) (kk : ∀ (σx1 σm1 : Sg) (H1 : Heap) (locs1 : List Loc), REL σx1 σm1 → va_P D vwCl (WX adx csx σx1) H1 → va_P D vwCl (WM adm csm σm1) H1 → va_S (LA s) s.heap H1 locs1 → W p l e room_1 s m #[Value.ref b] below meth c H1 locs1 600000 7302250 Q (F0 m 1124 ls [])) : W p l e room_1 s m #[Value.ref b] below meth c H locs 600000 7302250 Q (F0 m 1088 ls []) := by
  obtain ⟨Cx, Cm, hdis, hax, ham, hX, hbl, hL⟩ := id hLX
  have hx := Cx.1.1
  have hb := Cx.1.2.1
  have hbA : ¬ LA s b := Nat.not_le.mpr hbl
  -- fault
  obtain ⟨r, hfx, hfm⟩ := sim_fault hRel 
  refine lv_aload_n hx hb dL_law_1088 rfl (lv_at hl 1 rfl) ?_
  refine q_lcI hPx hPm (lx_dm hLX _) hS (lx_ax hLX) (q_runVL Cx ⟨Nat.le_refl _, Nat.le_refl _⟩ hPx (c_X9_fault (l := l) Cx.2.2.1 hfx) (o := 0) (ci := 8) (As := []) (rest := []) ⟨gd_V k_650 k_651 k_652 k_44 k_653, ⟨rfl, rfl⟩, kd_X9_fault, ⟨Nat.le_of_ble_eq_true rfl, Nat.le_of_ble_eq_true rfl⟩⟩ rfl rfl rfl rfl rfl (Nat.le_of_ble_eq_true rfl) hl.1 dL_law_1089) (fun H locs hPx hPm hS => ?_)
  refine lv_aload_n hx hb dL_law_1092 rfl (lv_at hl 2 rfl) ?_
  refine q_lcI hPm hPx (lx_dx hLX _) hS (lx_am hLX) (q_runVL Cm ⟨Nat.le_refl _, Nat.le_refl _⟩ hPm (c_X10_fault (l := l) Cm.2.2.1 hfm) (o := 0) (ci := 9) (As := []) (rest := [.int r]) ⟨gd_V k_1008 k_1009 k_1010 k_53 k_1011, ⟨rfl, rfl⟩, kd_X10_fault, ⟨Nat.le_of_ble_eq_true rfl, Nat.le_of_ble_eq_true rfl⟩⟩ rfl rfl rfl rfl rfl (Nat.le_of_ble_eq_true rfl) hl.1 dL_law_1093) (fun H locs hPm hPx hS => ?_)
  refine lv_icmp_eq (tgt := 1124) hx hb dL_law_1096 (by decide) (fun _ => ?_) (fun cc0 => absurd rfl cc0)
  exact kk _ _ _ _ hRel hPx hPm hS
set_option maxRecDepth 100000 in
set_option maxHeartbeats 4000000 in
theorem lawc_31 (hLX : LX p m meth c s b L xs D adx adm csx csm) {i0 : Int32} (hi1 : vp_in (i0 + 1) L) (hi2 : vp_in (i0 + 2) L) (hi3 : vp_in (i0 + 3) L) (hi4 : vp_in (i0 + 4) L) (hi5 : vp_in (i0 + 5) L) {σx σm : Sg} (hRel : REL σx σm) {H : Heap} {locs : List Loc} (hPx : va_P D vwCl (WX adx csx σx) H) (hPm : va_P D vwCl (WM adm csm σm) H) (hS : va_S (LA s) s.heap H locs) {ls : Array Slot} (hl : lv_has ls 4 [(0, .ref b), (1, .ref (adx 0)), (2, .ref (adm 0)), (3, .int i0)]) (kk : ∀ (σx1 σm1 : Sg) (H1 : Heap) (locs1 : List Loc), REL σx1 σm1 → va_P D vwCl (WX adx csx σx1) H1 → va_P D vwCl (WM adm csm σm1) H1 → va_S (LA s) s.heap H1 locs1 → W p l e room_1 s m #[Value.ref b] below meth c H1 locs1 600000 7302250 Q (F0 m 1124 ls [])) : W p l e room_1 s m #[Value.ref b] below meth c H locs 600000 7302250 Q (F0 m 1101 ls []) := by
  obtain ⟨Cx, Cm, hdis, hax, ham, hX, hbl, hL⟩ := id hLX
  have hx := Cx.1.1
  have hb := Cx.1.2.1
  have hbA : ¬ LA s b := Nat.not_le.mpr hbl
  -- many
  obtain ⟨r, hfx, hfm⟩ := sim_many hRel (xs (i0 + 1).toNatClampNeg)
  refine lv_aload_n hx hb dL_law_1101 rfl (lv_at hl 1 rfl) ?_
  refine lv_aload_n hx hb dL_law_1102 rfl (lv_at hl 0 rfl) ?_
  refine lv_iload_n hx hb dL_law_1103 rfl (lv_at hl 3 rfl) ?_
  refine lv_iconst (v := 1) hx hb dL_law_1104 (by decide) ?_
  refine lv_iadd hx hb dL_law_1105 ?_
  refine va_sld hx hb hX hbl hbA hS hi1 dL_law_1106 ?_
  refine q_lcI hPx hPm (lx_dm hLX _) hS (lx_ax hLX) (q_runVL Cx ⟨Nat.le_refl _, Nat.le_refl _⟩ hPx (c_X9_many (l := l) Cx.2.2.1 hfx) (o := 0) (ci := 8) (As := [.int (xs (i0 + 1).toNatClampNeg)]) (rest := []) ⟨gd_V k_654 k_655 k_656 k_44 k_657, ⟨rfl, rfl⟩, kd_X9_many, ⟨Nat.le_of_ble_eq_true rfl, Nat.le_of_ble_eq_true rfl⟩⟩ rfl rfl rfl rfl rfl (Nat.le_of_ble_eq_true rfl) hl.1 dL_law_1107) (fun H locs hPx hPm hS => ?_)
  refine lv_aload_n hx hb dL_law_1110 rfl (lv_at hl 2 rfl) ?_
  refine lv_aload_n hx hb dL_law_1111 rfl (lv_at hl 0 rfl) ?_
  refine lv_iload_n hx hb dL_law_1112 rfl (lv_at hl 3 rfl) ?_
  refine lv_iconst (v := 1) hx hb dL_law_1113 (by decide) ?_
  refine lv_iadd hx hb dL_law_1114 ?_
  refine va_sld hx hb hX hbl hbA hS hi1 dL_law_1115 ?_
  refine q_lcI hPm hPx (lx_dx hLX _) hS (lx_am hLX) (q_runVL Cm ⟨Nat.le_refl _, Nat.le_refl _⟩ hPm (c_X10_many (l := l) Cm.2.2.1 hfm) (o := 0) (ci := 9) (As := [.int (xs (i0 + 1).toNatClampNeg)]) (rest := [.int r]) ⟨gd_V k_1012 k_1013 k_1014 k_53 k_1015, ⟨rfl, rfl⟩, kd_X10_many, ⟨Nat.le_of_ble_eq_true rfl, Nat.le_of_ble_eq_true rfl⟩⟩ rfl rfl rfl rfl rfl (Nat.le_of_ble_eq_true rfl) hl.1 dL_law_1116) (fun H locs hPm hPx hS => ?_)
  refine lv_icmp_eq (tgt := 1124) hx hb dL_law_1119 (by decide) (fun _ => ?_) (fun cc0 => absurd rfl cc0)
  exact kk _ _ _ _ hRel hPx hPm hS
set_option maxRecDepth 100000 in
set_option maxHeartbeats 16000000 in
theorem law_loop (hLX : LX p m meth c s b L xs D adx adm csx csm) (hr : meth.sig.returnType = ret) (hlk : meth.locks = false) : ∀ (n j : Nat), 6 * j ≤ L + 6 → L + 6 < 6 * j + 6 * n → ∀ (σx σm : Sg), REL σx σm → ∀ (H : Heap) (locs : List Loc), va_P D vwCl (WX adx csx σx) H → va_P D vwCl (WM adm csm σm) H → va_S (LA s) s.heap H locs → ∀ (ls : Array Slot), lv_has ls 4 [(0, .ref b), (1, .ref (adx 0)), (2, .ref (adm 0)), (3, .int (nI (6 * j)))] → W p l e room_1 s m #[Value.ref b] below meth c H locs 600000 7302250 (lw_Z below #[Value.ref b] s) (F0 m 18 ls []) := by
  obtain ⟨Cx, Cm, hdis, hax, ham, hX, hbl, hL⟩ := id hLX
  have hx := Cx.1.1
  have hb := Cx.1.2.1
  have hbA : ¬ LA s b := Nat.not_le.mpr hbl
  intro n
  induction n with
  | zero => intro j h1 h2; exact absurd h2 (by omega)
  | succ n ih =>
    intro j h1 h2 σx σm hRel H locs hPx hPm hS ls hl
    refine lv_iload_n hx hb dL_law_18 rfl (lv_at hl 3 rfl) ?_
    refine lv_aload_n hx hb dL_law_19 rfl (lv_at hl 0 rfl) ?_
    refine va_slen hx hb hX hbl hbA hS dL_law_20 ?_
    refine lv_bipush (v := 6) hx hb dL_law_21 (by decide) ?_
    refine lv_isub hx hb dL_law_23 ?_
    have hsub : (Int32.ofNat L - 6).toInt = (L : Int) - 6 := pk_sub_toInt (a := L) (b := 6) (by omega) (by omega)
    have hj : (nI (6 * j)).toInt = ((6 * j : Nat) : Int) := nI_toInt (by omega)
    refine lv_icmp_gt (tgt := 1130) hx hb dL_law_24 (by decide) (fun c0 => ?_) (fun c0 => ?_)
    · refine lv_iconst (v := 1) hx hb dL_law_1130 (by decide) ?_
      refine va_forget (fun q hq => hS.2.2 q hq) ?_
      exact lw_ret hx hb hr hlk dL_law_1131
    · have hlt : 6 * j + 6 ≤ L := by
        rw [Int32.lt_iff_toInt_lt, hsub, hj] at c0
        omega
      have hin : ∀ k, k < 6 → vp_in (nI (6 * j) + nI k) L := fun k hk => by
        rw [nI_add]
        exact vp_in_nI (by omega) (by omega)
      have hin0 : vp_in (nI (6 * j)) L := vp_in_nI (by omega) (by omega)
      refine lv_aload_n hx hb dL_law_27 rfl (lv_at hl 0 rfl) ?_
      refine lv_iload_n hx hb dL_law_28 rfl (lv_at hl 3 rfl) ?_
      refine va_sld hx hb hX hbl hbA hS hin0 dL_law_29 ?_
      refine lv_bipush (v := 31) hx hb dL_law_30 (by decide) ?_
      refine lv_iand hx hb dL_law_32 ?_
      have hback : ∀ (σx1 σm1 : Sg) (H1 : Heap) (locs1 : List Loc), REL σx1 σm1 → va_P D vwCl (WX adx csx σx1) H1 → va_P D vwCl (WM adm csm σm1) H1 → va_S (LA s) s.heap H1 locs1 → W p l e room_1 s m #[Value.ref b] below meth c H1 locs1 600000 7302250 (lw_Z below #[Value.ref b] s) (F0 m 1124 ls []) := by
        intro σx1 σm1 H1 locs1 g1 g2 g3 g4
        refine lv_iinc (v := nI (6 * (j + 1))) (lv' := [(3, .int (nI (6 * (j + 1)))), (0, .ref b), (1, .ref (adx 0)), (2, .ref (adm 0))]) hx hb dL_law_1124 hl (k := 3) rfl (by show nI (6 * j) + nI 6 = _; rw [nI_add]; rfl) (by decide) rfl (fun ls hl => ?_)
        refine lv_goto (tgt := 18) hx hb dL_law_1127 (by decide) ?_
        exact ih (j + 1) (by omega) (by omega) σx1 σm1 g1 H1 locs1 g2 g3 g4 ls (lv_sub hl [1, 2, 3, 0] rfl)
      obtain ⟨k, hk, ek⟩ := pk_andE (xs (nI (6 * j)).toNatClampNeg) (m := 31) 5 (by decide +kernel)
      match k, hk, ek with
      | 0, _, ek =>
        refine lv_tableIn (off := 143) (tgt := 176) hx hb dL_law_33 (by rw [ek]; decide) (by rw [ek]; decide) (by rw [ek]; rfl) (by decide) ?_
        exact lawc_0 hLX (hin 1 (by omega)) (hin 2 (by omega)) (hin 3 (by omega)) (hin 4 (by omega)) (hin 5 (by omega)) hRel hPx hPm hS hl hback
      | 1, _, ek =>
        refine lv_tableIn (off := 196) (tgt := 229) hx hb dL_law_33 (by rw [ek]; decide) (by rw [ek]; decide) (by rw [ek]; rfl) (by decide) ?_
        exact lawc_1 hLX (hin 1 (by omega)) (hin 2 (by omega)) (hin 3 (by omega)) (hin 4 (by omega)) (hin 5 (by omega)) hRel hPx hPm hS hl hback
      | 2, _, ek =>
        refine lv_tableIn (off := 229) (tgt := 262) hx hb dL_law_33 (by rw [ek]; decide) (by rw [ek]; decide) (by rw [ek]; rfl) (by decide) ?_
        exact lawc_2 hLX (hin 1 (by omega)) (hin 2 (by omega)) (hin 3 (by omega)) (hin 4 (by omega)) (hin 5 (by omega)) hRel hPx hPm hS hl hback
      | 3, _, ek =>
        refine lv_tableIn (off := 252) (tgt := 285) hx hb dL_law_33 (by rw [ek]; decide) (by rw [ek]; decide) (by rw [ek]; rfl) (by decide) ?_
        exact lawc_3 hLX (hin 1 (by omega)) (hin 2 (by omega)) (hin 3 (by omega)) (hin 4 (by omega)) (hin 5 (by omega)) hRel hPx hPm hS hl hback
      | 4, _, ek =>
        refine lv_tableIn (off := 285) (tgt := 318) hx hb dL_law_33 (by rw [ek]; decide) (by rw [ek]; decide) (by rw [ek]; rfl) (by decide) ?_
        exact lawc_4 hLX (hin 1 (by omega)) (hin 2 (by omega)) (hin 3 (by omega)) (hin 4 (by omega)) (hin 5 (by omega)) hRel hPx hPm hS hl hback
      | 5, _, ek =>
        refine lv_tableIn (off := 328) (tgt := 361) hx hb dL_law_33 (by rw [ek]; decide) (by rw [ek]; decide) (by rw [ek]; rfl) (by decide) ?_
        exact lawc_5 hLX (hin 1 (by omega)) (hin 2 (by omega)) (hin 3 (by omega)) (hin 4 (by omega)) (hin 5 (by omega)) hRel hPx hPm hS hl hback
      | 6, _, ek =>
        refine lv_tableIn (off := 351) (tgt := 384) hx hb dL_law_33 (by rw [ek]; decide) (by rw [ek]; decide) (by rw [ek]; rfl) (by decide) ?_
        exact lawc_6 hLX (hin 1 (by omega)) (hin 2 (by omega)) (hin 3 (by omega)) (hin 4 (by omega)) (hin 5 (by omega)) hRel hPx hPm hS hl hback
      | 7, _, ek =>
        refine lv_tableIn (off := 384) (tgt := 417) hx hb dL_law_33 (by rw [ek]; decide) (by rw [ek]; decide) (by rw [ek]; rfl) (by decide) ?_
        exact lawc_7 hLX (hin 1 (by omega)) (hin 2 (by omega)) (hin 3 (by omega)) (hin 4 (by omega)) (hin 5 (by omega)) hRel hPx hPm hS hl hback
      | 8, _, ek =>
        refine lv_tableIn (off := 407) (tgt := 440) hx hb dL_law_33 (by rw [ek]; decide) (by rw [ek]; decide) (by rw [ek]; rfl) (by decide) ?_
        exact lawc_8 hLX (hin 1 (by omega)) (hin 2 (by omega)) (hin 3 (by omega)) (hin 4 (by omega)) (hin 5 (by omega)) hRel hPx hPm hS hl hback
      | 9, _, ek =>
        refine lv_tableIn (off := 430) (tgt := 463) hx hb dL_law_33 (by rw [ek]; decide) (by rw [ek]; decide) (by rw [ek]; rfl) (by decide) ?_
        exact lawc_9 hLX (hin 1 (by omega)) (hin 2 (by omega)) (hin 3 (by omega)) (hin 4 (by omega)) (hin 5 (by omega)) hRel hPx hPm hS hl hback
      | 10, _, ek =>
        refine lv_tableIn (off := 443) (tgt := 476) hx hb dL_law_33 (by rw [ek]; decide) (by rw [ek]; decide) (by rw [ek]; rfl) (by decide) ?_
        exact lawc_10 hLX (hin 1 (by omega)) (hin 2 (by omega)) (hin 3 (by omega)) (hin 4 (by omega)) (hin 5 (by omega)) hRel hPx hPm hS hl hback
      | 11, _, ek =>
        refine lv_tableIn (off := 466) (tgt := 499) hx hb dL_law_33 (by rw [ek]; decide) (by rw [ek]; decide) (by rw [ek]; rfl) (by decide) ?_
        exact lawc_11 hLX (hin 1 (by omega)) (hin 2 (by omega)) (hin 3 (by omega)) (hin 4 (by omega)) (hin 5 (by omega)) hRel hPx hPm hS hl hback
      | 12, _, ek =>
        refine lv_tableIn (off := 499) (tgt := 532) hx hb dL_law_33 (by rw [ek]; decide) (by rw [ek]; decide) (by rw [ek]; rfl) (by decide) ?_
        exact lawc_12 hLX (hin 1 (by omega)) (hin 2 (by omega)) (hin 3 (by omega)) (hin 4 (by omega)) (hin 5 (by omega)) hRel hPx hPm hS hl hback
      | 13, _, ek =>
        refine lv_tableIn (off := 522) (tgt := 555) hx hb dL_law_33 (by rw [ek]; decide) (by rw [ek]; decide) (by rw [ek]; rfl) (by decide) ?_
        exact lawc_13 hLX (hin 1 (by omega)) (hin 2 (by omega)) (hin 3 (by omega)) (hin 4 (by omega)) (hin 5 (by omega)) hRel hPx hPm hS hl hback
      | 14, _, ek =>
        refine lv_tableIn (off := 545) (tgt := 578) hx hb dL_law_33 (by rw [ek]; decide) (by rw [ek]; decide) (by rw [ek]; rfl) (by decide) ?_
        exact lawc_14 hLX (hin 1 (by omega)) (hin 2 (by omega)) (hin 3 (by omega)) (hin 4 (by omega)) (hin 5 (by omega)) hRel hPx hPm hS hl hback
      | 15, _, ek =>
        refine lv_tableIn (off := 568) (tgt := 601) hx hb dL_law_33 (by rw [ek]; decide) (by rw [ek]; decide) (by rw [ek]; rfl) (by decide) ?_
        exact lawc_15 hLX (hin 1 (by omega)) (hin 2 (by omega)) (hin 3 (by omega)) (hin 4 (by omega)) (hin 5 (by omega)) hRel hPx hPm hS hl hback
      | 16, _, ek =>
        refine lv_tableIn (off := 621) (tgt := 654) hx hb dL_law_33 (by rw [ek]; decide) (by rw [ek]; decide) (by rw [ek]; rfl) (by decide) ?_
        exact lawc_16 hLX (hin 1 (by omega)) (hin 2 (by omega)) (hin 3 (by omega)) (hin 4 (by omega)) (hin 5 (by omega)) hRel hPx hPm hS hl hback
      | 17, _, ek =>
        refine lv_tableIn (off := 654) (tgt := 687) hx hb dL_law_33 (by rw [ek]; decide) (by rw [ek]; decide) (by rw [ek]; rfl) (by decide) ?_
        exact lawc_17 hLX (hin 1 (by omega)) (hin 2 (by omega)) (hin 3 (by omega)) (hin 4 (by omega)) (hin 5 (by omega)) hRel hPx hPm hS hl hback
      | 18, _, ek =>
        refine lv_tableIn (off := 677) (tgt := 710) hx hb dL_law_33 (by rw [ek]; decide) (by rw [ek]; decide) (by rw [ek]; rfl) (by decide) ?_
        exact lawc_18 hLX (hin 1 (by omega)) (hin 2 (by omega)) (hin 3 (by omega)) (hin 4 (by omega)) (hin 5 (by omega)) hRel hPx hPm hS hl hback
      | 19, _, ek =>
        refine lv_tableIn (off := 700) (tgt := 733) hx hb dL_law_33 (by rw [ek]; decide) (by rw [ek]; decide) (by rw [ek]; rfl) (by decide) ?_
        exact lawc_19 hLX (hin 1 (by omega)) (hin 2 (by omega)) (hin 3 (by omega)) (hin 4 (by omega)) (hin 5 (by omega)) hRel hPx hPm hS hl hback
      | 20, _, ek =>
        refine lv_tableIn (off := 713) (tgt := 746) hx hb dL_law_33 (by rw [ek]; decide) (by rw [ek]; decide) (by rw [ek]; rfl) (by decide) ?_
        exact lawc_20 hLX (hin 1 (by omega)) (hin 2 (by omega)) (hin 3 (by omega)) (hin 4 (by omega)) (hin 5 (by omega)) hRel hPx hPm hS hl hback
      | 21, _, ek =>
        refine lv_tableIn (off := 747) (tgt := 780) hx hb dL_law_33 (by rw [ek]; decide) (by rw [ek]; decide) (by rw [ek]; rfl) (by decide) ?_
        exact lawc_21 hLX (hin 1 (by omega)) (hin 2 (by omega)) (hin 3 (by omega)) (hin 4 (by omega)) (hin 5 (by omega)) hRel hPx hPm hS hl hback
      | 22, _, ek =>
        refine lv_tableIn (off := 790) (tgt := 823) hx hb dL_law_33 (by rw [ek]; decide) (by rw [ek]; decide) (by rw [ek]; rfl) (by decide) ?_
        exact lawc_22 hLX (hin 1 (by omega)) (hin 2 (by omega)) (hin 3 (by omega)) (hin 4 (by omega)) (hin 5 (by omega)) hRel hPx hPm hS hl hback
      | 23, _, ek =>
        refine lv_tableIn (off := 813) (tgt := 846) hx hb dL_law_33 (by rw [ek]; decide) (by rw [ek]; decide) (by rw [ek]; rfl) (by decide) ?_
        exact lawc_23 hLX (hin 1 (by omega)) (hin 2 (by omega)) (hin 3 (by omega)) (hin 4 (by omega)) (hin 5 (by omega)) hRel hPx hPm hS hl hback
      | 24, _, ek =>
        refine lv_tableIn (off := 856) (tgt := 889) hx hb dL_law_33 (by rw [ek]; decide) (by rw [ek]; decide) (by rw [ek]; rfl) (by decide) ?_
        exact lawc_24 hLX (hin 1 (by omega)) (hin 2 (by omega)) (hin 3 (by omega)) (hin 4 (by omega)) (hin 5 (by omega)) hRel hPx hPm hS hl hback
      | 25, _, ek =>
        refine lv_tableIn (off := 900) (tgt := 933) hx hb dL_law_33 (by rw [ek]; decide) (by rw [ek]; decide) (by rw [ek]; rfl) (by decide) ?_
        exact lawc_25 hLX (hin 1 (by omega)) (hin 2 (by omega)) (hin 3 (by omega)) (hin 4 (by omega)) (hin 5 (by omega)) hRel hPx hPm hS hl hback
      | 26, _, ek =>
        refine lv_tableIn (off := 963) (tgt := 996) hx hb dL_law_33 (by rw [ek]; decide) (by rw [ek]; decide) (by rw [ek]; rfl) (by decide) ?_
        exact lawc_26 hLX (hin 1 (by omega)) (hin 2 (by omega)) (hin 3 (by omega)) (hin 4 (by omega)) (hin 5 (by omega)) hRel hPx hPm hS hl hback
      | 27, _, ek =>
        refine lv_tableIn (off := 986) (tgt := 1019) hx hb dL_law_33 (by rw [ek]; decide) (by rw [ek]; decide) (by rw [ek]; rfl) (by decide) ?_
        exact lawc_27 hLX (hin 1 (by omega)) (hin 2 (by omega)) (hin 3 (by omega)) (hin 4 (by omega)) (hin 5 (by omega)) hRel hPx hPm hS hl hback
      | 28, _, ek =>
        refine lv_tableIn (off := 1009) (tgt := 1042) hx hb dL_law_33 (by rw [ek]; decide) (by rw [ek]; decide) (by rw [ek]; rfl) (by decide) ?_
        exact lawc_28 hLX (hin 1 (by omega)) (hin 2 (by omega)) (hin 3 (by omega)) (hin 4 (by omega)) (hin 5 (by omega)) hRel hPx hPm hS hl hback
      | 29, _, ek =>
        refine lv_tableIn (off := 1042) (tgt := 1075) hx hb dL_law_33 (by rw [ek]; decide) (by rw [ek]; decide) (by rw [ek]; rfl) (by decide) ?_
        exact lawc_29 hLX (hin 1 (by omega)) (hin 2 (by omega)) (hin 3 (by omega)) (hin 4 (by omega)) (hin 5 (by omega)) hRel hPx hPm hS hl hback
      | 30, _, ek =>
        refine lv_tableIn (off := 1055) (tgt := 1088) hx hb dL_law_33 (by rw [ek]; decide) (by rw [ek]; decide) (by rw [ek]; rfl) (by decide) ?_
        exact lawc_30 hLX (hin 1 (by omega)) (hin 2 (by omega)) (hin 3 (by omega)) (hin 4 (by omega)) (hin 5 (by omega)) hRel hPx hPm hS hl hback
      | 31, _, ek =>
        refine lv_tableIn (off := 1068) (tgt := 1101) hx hb dL_law_33 (by rw [ek]; decide) (by rw [ek]; decide) (by rw [ek]; rfl) (by decide) ?_
        exact lawc_31 hLX (hin 1 (by omega)) (hin 2 (by omega)) (hin 3 (by omega)) (hin 4 (by omega)) (hin 5 (by omega)) hRel hPx hPm hS hl hback
      | k + 32, hk, _ => exact absurd hk (by omega)
end

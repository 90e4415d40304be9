/-! the state of a system as whole numbers: object, place -/
abbrev Sg : Type := Nat → Nat → Int32
def st (σ : Sg) (o k : Nat) (v : Int32) : Sg := fun o' => if o' = o then upd (σ o) k v else σ o'
def vin (i : Int32) (n : Nat) : Bool := decide (0 ≤ i.toInt) && decide (i.toInt < n)
theorem vin_in {i : Int32} {n : Nat} (h : vin i n = true) : vp_in i n := vp_in_iff.mpr (by simpa [vin] using h)
theorem zt {α : Type} {c : Prop} [Decidable c] {a b r : α} (h : c) (hf : (if c then a else b) = r) : a = r := by rwa [if_pos h] at hf
theorem zf {α : Type} {c : Prop} [Decidable c] {a b r : α} (h : ¬ c) (hf : (if c then a else b) = r) : b = r := by rwa [if_neg h] at hf
theorem zc {α : Type} {c : Prop} [Decidable c] {a : Option α} {r : α} (hf : (if c then a else none) = some r) : c ∧ a = some r := by
  by_cases h : c
  · exact ⟨h, by rwa [if_pos h] at hf⟩
  · rw [if_neg h] at hf; cases hf
theorem zb {α β : Type} {x : Option α} {k : α → Option β} {r : β} (hf : x.bind k = some r) : ∃ a, x = some a ∧ k a = some r := Option.bind_eq_some_iff.mp hf
theorem z01 {v : Int32} (h : v = 0 ∨ v = 1) : narrow .boolean (.int v) = .int v := by rcases h with rfl | rfl <;> rfl
/-- the words of a method's contract: its own code, then all of the tables' -/
def lw_tg : List Cond := lw_tbl.filter goodWord
def wm (y : MethodName) (cc : ByteArray) (n : Nat) (ret : Option FieldType) : List Cond := .code y cc n ret :: lw_tg
theorem lw_ofs {w : Cond} (i : Nat) (h : lw_tbl[i]? = some w) (g : goodWord w = true) : w ∈ lw_tg := List.mem_filter.mpr ⟨List.mem_of_getElem? h, g⟩
theorem gd_wm {y : MethodName} {cc : ByteArray} {n : Nat} {ret : Option FieldType} (h : Cond.code y cc n ret ∈ lw_tg) : GoodIn lw_tg (wm y cc n ret) := fun w hw => by
  have hm : w ∈ lw_tg := (List.mem_cons.mp hw).elim (fun e => by rw [e]; exact h) id
  exact ⟨hm, good_of_word ((List.mem_filter.mp hm).2)⟩
theorem gd_l {a b : List Cond} (ha : ∀ w ∈ a, w ∈ lw_tg) (hb : GoodIn lw_tg b) : GoodIn lw_tg (a ++ b) := fun w hw => (List.mem_append.mp hw).elim (fun h => ⟨ha w h, good_of_word ((List.mem_filter.mp (ha w h)).2)⟩) (hb w)
theorem gd_V {own C : String} {i : Nat} {y : MethodName} {cc : ByteArray} {n : Nat} {ret : Option FieldType} (h1 : Cond.methodLink own i y ∈ lw_tg) (h2 : Cond.instanceMethod y ∈ lw_tg) (h3 : Cond.selects C y y ∈ lw_tg) (h4 : Cond.initialized C ∈ lw_tg) (h : Cond.code y cc n ret ∈ lw_tg) : GoodIn lw_tg (wsV own i C y (wm y cc n ret)) :=
  gd_l (List.forall_mem_cons.mpr ⟨h1, List.forall_mem_cons.mpr ⟨h2, List.forall_mem_cons.mpr ⟨h3, List.forall_mem_cons.mpr ⟨h4, fun _ h => absurd h List.not_mem_nil⟩⟩⟩⟩) (gd_wm h)
theorem gd_S {own : String} {i : Nat} {y : MethodName} {cc : ByteArray} {n : Nat} {ret : Option FieldType} (h1 : Cond.methodLink own i y ∈ lw_tg) (h2 : Cond.static y ∈ lw_tg) (h4 : Cond.initialized y.cls ∈ lw_tg) (h : Cond.code y cc n ret ∈ lw_tg) : GoodIn lw_tg (va_wsS own i y (wm y cc n ret)) :=
  gd_l (List.forall_mem_cons.mpr ⟨h1, List.forall_mem_cons.mpr ⟨h2, List.forall_mem_cons.mpr ⟨h4, fun _ h => absurd h List.not_mem_nil⟩⟩⟩) (gd_wm h)
/-- words that no contract's list may hold: they go with the world -/
def isNF : Cond → Bool
  | .fieldLinkNest _ _ _ _ _ _ => true
  | .methodLinkNest _ _ _ _ => true
  | .arrayOver (.object _) => true
  | _ => false
def lw_nf : List Cond := lw_tbl.filter isNF
theorem lw_ofn {w : Cond} (i : Nat) (h : lw_tbl[i]? = some w) (g : isNF w = true) : w ∈ lw_nf := List.mem_filter.mpr ⟨List.mem_of_getElem? h, g⟩
def NW (U : State) : Prop := ∀ w ∈ lw_nf, va_Nw w U
theorem NW.warm {s U : State} (hW : s.WarmedH U.vm) (h : NW s) : NW U := fun w hw => by
  have hn := (List.mem_filter.mp hw).2
  have hz := h w hw
  unfold isNF at hn
  split at hn
  · exact va_Nw.warmF hW hz
  · exact va_Nw.warmM hW hz
  · exact va_AO.moved hW.alike hz
  · cases hn
theorem NW.same {u U : State} (hv : u.vm = U.vm) (h : NW u) : NW U := fun w hw => by
  have hn := (List.mem_filter.mp hw).2
  have hz := h w hw
  unfold isNF at hn
  split at hn
  · exact va_Nw.same rfl hv hz
  · exact va_Nw.same rfl hv hz
  · exact va_AO.moved (by rw [hv]; exact Vm.Alike.refl _) hz
  · cases hn
/-- the world behind a call -/
def BW (D : va_G) (tys : List (ClassId × FieldType)) (Wf : Sg → va_W) (σ : Sg) : State → Prop := fun U => va_P D vwCl (Wf σ) U.heap ∧ va_K D vwCl tys U ∧ NW U
/-- what stays throughout a method -/
def CX (p : Program) (m : MethodId) (c : Code) (cc : ByteArray) (nL : Nat) (s : State) (args : Array Value) (own : String) (D : va_G) (tys : List (ClassId × FieldType)) (Wf : Sg → va_W) (A : Nat → Prop) : Prop := CallFix p m c cc nL s args lw_tg own ∧ va_K D vwCl tys s ∧ (∀ σ, va_D A (Wf σ)) ∧ NW s
/-- the ends: an int, a long, nothing, a reference or null -/
abbrev QI (D : va_G) (tys : List (ClassId × FieldType)) (Wf : Sg → va_W) (A : Nat → Prop) (r0 : Int32) (σ : Sg) : Array Value → State → Outcome → State → Prop := va_Qi (fun (r : Int32) (_ : Unit) => r = r0) (fun _ => BW D tys Wf σ) A
abbrev QL (D : va_G) (tys : List (ClassId × FieldType)) (Wf : Sg → va_W) (A : Nat → Prop) (r0 : Int64) (σ : Sg) : Array Value → State → Outcome → State → Prop := va_Ql (fun (r : Int64) (_ : Unit) => r = r0) (fun _ => BW D tys Wf σ) A
abbrev QV (D : va_G) (tys : List (ClassId × FieldType)) (Wf : Sg → va_W) (A : Nat → Prop) (σ : Sg) : Array Value → State → Outcome → State → Prop := va_Qv (fun _ : Unit => True) (fun _ => BW D tys Wf σ) A
abbrev QR (D : va_G) (tys : List (ClassId × FieldType)) (Wf : Sg → va_W) (A : Nat → Prop) (r0 : Option Nat) (σ : Sg) : Array Value → State → Outcome → State → Prop := va_Qq (fun (r : Option Nat) (_ : Unit) => r = r0) (fun _ => BW D tys Wf σ) A
section
variable {p : Program} {l : Launch} {e : Env} {R : Room} {s : State} {m : MethodId} {args : Array Value} {below : List Frame} {meth : Method} {c : Code} {cc : ByteArray} {nL : Nat} {own : String} {D : va_G} {tys : List (ClassId × FieldType)} {Wf : Sg → va_W} {A : Nat → Prop} {H : Heap} {locs : List Loc} {Q : State → Prop} {pc : Nat} {ls : Array Slot} {rest : List Value} {σ : Sg} {a : Nat}
theorem q_enter {y : MethodName} {maxL : Nat} {ret : Option FieldType} {rm : Room} {As : List Value} {Qc : Array Value → State → Outcome → State → Prop} (hpn : plainName y.cls = true) (hD : ∀ σ, va_D A (Wf σ)) (hlen : (lg_sl As).length ≤ maxL)
    (body : ∀ (p : Program) (e : Env) (s : State) (m : MethodId) (below : List Frame) (meth : Method) (c : Code), CX p m c cc maxL s As.toArray y.cls D tys Wf A → meth.sig.returnType = ret → meth.locks = false → va_P D vwCl (Wf σ) s.heap → va_S A s.heap s.heap [] → ∀ ls, lv_has ls maxL (lv_args 0 As) → W p l e rm s m As.toArray below meth c s.heap [] 0 0 (MQ below Qc As.toArray s 0 0 A) (F0 m 0 ls [])) :
    Met l y (wm y cc maxL ret) rm (va_Pc As (BW D tys Wf σ)) Qc 0 0 A := by
  refine Met.ofW (cc := cc) (maxL := maxL) (ret := ret) hpn rfl ?_
  intro p e s m args below meth c s₁ B hml hv
  obtain ⟨rfl, hP, hK, hN⟩ := hv
  have hts := atoms_spec (ws := wm y cc maxL ret) B.pre
  have hl := lv_entry As (n := maxL) hlen
  rw [lg_entry_eq]
  exact body p e s m below meth c ⟨⟨B.exec, B.bytes, hml, findClass_of_methodNamed B.named, fun w hw => hts w (List.mem_cons_of_mem _ hw)⟩, hK, hD, hN⟩ B.returns B.notSynchronized hP va_S.rf _ hl
theorem fb_BW {As : List Value} : FrameBlind (va_Pc As (BW D tys Wf σ)) := fun a U g mk q => by
  obtain ⟨q0, qP, qK, qN⟩ := q
  exact ⟨q0, qP, va_K.moved (u := U) (U := U.calling g mk a) (Vm.Alike.refl U.vm) qK, NW.same (u := U) (U := U.calling g mk a) rfl qN⟩
-- returns
theorem q_iret (C : CX p m c cc nL s args own D tys Wf A) (hr : meth.sig.returnType = some .int) (hlk : meth.locks = false) (hP : va_P D vwCl (Wf σ) H) (hS : va_S A s.heap H locs) {v r0 : Int32} {σ' : Sg} (hv : (v, σ) = (r0, σ')) (hd : decode cc pc = .ok (.ireturn, 1)) : W p l e R s m args below meth c H locs 0 0 (MQ below (QI D tys Wf A r0 σ') args s 0 0 A) (F0 m pc ls [.int v]) := by
  cases hv
  exact W.iret (v := v) C.1.1 C.1.2.1 hr (fun t ht hW => ⟨⟨v, (), rfl, rfl, by rw [ht]; exact hP, va_K.moved hW.alike C.2.1, NW.warm hW C.2.2.2⟩, hS.F ht⟩) hS.2.2 hd hlk
theorem q_zret (C : CX p m c cc nL s args own D tys Wf A) (hr : meth.sig.returnType = some .boolean) (hlk : meth.locks = false) (hP : va_P D vwCl (Wf σ) H) (hS : va_S A s.heap H locs) {v r0 : Int32} {σ' : Sg} (hv : (v, σ) = (r0, σ')) (h01 : v = 0 ∨ v = 1) (hd : decode cc pc = .ok (.ireturn, 1)) : W p l e R s m args below meth c H locs 0 0 (MQ below (QI D tys Wf A r0 σ') args s 0 0 A) (F0 m pc ls [.int v]) := by
  cases hv
  exact W.zret (v := v) C.1.1 C.1.2.1 hr (z01 h01) (fun t ht hW => ⟨⟨v, (), rfl, rfl, by rw [ht]; exact hP, va_K.moved hW.alike C.2.1, NW.warm hW C.2.2.2⟩, hS.F ht⟩) hS.2.2 hd hlk
theorem q_lret (C : CX p m c cc nL s args own D tys Wf A) (hr : meth.sig.returnType = some .long) (hlk : meth.locks = false) (hP : va_P D vwCl (Wf σ) H) (hS : va_S A s.heap H locs) {v r0 : Int64} {σ' : Sg} (hv : (v, σ) = (r0, σ')) (hd : decode cc pc = .ok (.lreturn, 1)) : W p l e R s m args below meth c H locs 0 0 (MQ below (QL D tys Wf A r0 σ') args s 0 0 A) (F0 m pc ls [.long v]) := by
  cases hv
  exact W.lret (v := v) C.1.1 C.1.2.1 hr (fun t ht hW => ⟨⟨v, (), rfl, rfl, by rw [ht]; exact hP, va_K.moved hW.alike C.2.1, NW.warm hW C.2.2.2⟩, hS.F ht⟩) hS.2.2 hd hlk
theorem q_vret (C : CX p m c cc nL s args own D tys Wf A) (hr : meth.sig.returnType = none) (hlk : meth.locks = false) (hP : va_P D vwCl (Wf σ) H) (hS : va_S A s.heap H locs) {σ' : Sg} (hv : σ = σ') (hd : decode cc pc = .ok (.return_, 1)) : W p l e R s m args below meth c H locs 0 0 (MQ below (QV D tys Wf A σ') args s 0 0 A) (F0 m pc ls []) := by
  cases hv
  exact W.vret C.1.1 C.1.2.1 hr (fun t ht hW => ⟨⟨(), rfl, trivial, by rw [ht]; exact hP, va_K.moved hW.alike C.2.1, NW.warm hW C.2.2.2⟩, hS.F ht⟩) hS.2.2 hd hlk
theorem q_aret (C : CX p m c cc nL s args own D tys Wf A) {rt : FieldType} (hr : meth.sig.returnType = some rt) (hrt : (∃ n, rt = .object n) ∨ ∃ t, rt = .array t) (hlk : meth.locks = false) (hP : va_P D vwCl (Wf σ) H) (hS : va_S A s.heap H locs) {v r0 : Option Nat} {σ' : Sg} (hv : (v, σ) = (r0, σ')) (hd : decode cc pc = .ok (.areturn, 1)) : W p l e R s m args below meth c H locs 0 0 (MQ below (QR D tys Wf A r0 σ') args s 0 0 A) (F0 m pc ls [va_rf v]) := by
  cases hv
  exact W.aret (v := va_rf v) C.1.1 C.1.2.1 hr hrt (va_rf_or v) (fun t ht hW => ⟨⟨v, (), rfl, rfl, by rw [ht]; exact hP, va_K.moved hW.alike C.2.1, NW.warm hW C.2.2.2⟩, hS.F ht⟩) hS.2.2 hd hlk
-- fields
theorem q_get (C : CX p m c cc nL s args own D tys Wf A) (hP : va_P D vwCl (Wf σ) H) {o ci k N idx : Nat} {fs : List Value} {Cn : String} {T : u_T} {v : Value} (he : (Wf σ)[o]? = some (a, .inr (ci, fs))) (hc : vwCl[ci]? = some (Cn, T, N)) (hin : ∀ w ∈ u_ws Cn T N, w ∈ lw_tg) (hk : k < N) (hv : fs[k]? = some v) (hl : Cond.fieldLink own idx (T k).1 (T k).2.1 (T k).2.2.1 ∈ lw_tg) (hd : decode cc pc = .ok (.getfield idx, 3))
    (kk : W p l e R s m args below meth c H locs 0 0 Q (F0 m (pc + 3) ls (v :: rest))) : W p l e R s m args below meth c H locs 0 0 Q (F0 m pc ls (.ref a :: rest)) :=
  va_get C.1.1 C.1.2.1 C.1.2.2.2.2 hin C.1.2.2.2.1 C.2.1 hP o he hc k hk (C.1.2.2.2.2 _ hl) (fun _ h => h) hv hd kk
theorem q_getN (C : CX p m c cc nL s args own D tys Wf A) (hP : va_P D vwCl (Wf σ) H) {o ci k N idx : Nat} {fs : List Value} {Cn host : String} {T : u_T} {v : Value} (he : (Wf σ)[o]? = some (a, .inr (ci, fs))) (hc : vwCl[ci]? = some (Cn, T, N)) (hin : ∀ w ∈ u_ws Cn T N, w ∈ lw_tg) (hk : k < N) (hv : fs[k]? = some v) (hl : Cond.fieldLinkNest own idx (T k).1 (T k).2.1 (T k).2.2.1 host ∈ lw_nf) (hd : decode cc pc = .ok (.getfield idx, 3))
    (kk : W p l e R s m args below meth c H locs 0 0 Q (F0 m (pc + 3) ls (v :: rest))) : W p l e R s m args below meth c H locs 0 0 Q (F0 m pc ls (.ref a :: rest)) :=
  va_getN C.1.1 C.1.2.1 C.1.2.2.2.2 hin C.1.2.2.2.1 C.2.1 hP o he hc k hk (va_Nw.use rfl (C.2.2.2 _ hl)) (fun _ h => h) hv hd kk
theorem q_put (C : CX p m c cc nL s args own D tys Wf A) (hP : va_P D vwCl (Wf σ) H) (hS : va_S A s.heap H locs) {o ci k N idx : Nat} {fs : List Value} {Cn : String} {T : u_T} {v : Value} {ty0 : Nat → FieldType} (he : (Wf σ)[o]? = some (a, .inr (ci, fs))) (hc : vwCl[ci]? = some (Cn, T, N)) (hin : ∀ w ∈ u_ws Cn T N, w ∈ lw_tg) (hty : ∀ k, k < N → parseFieldDescriptor (T k).2.2.1 = some (ty0 k)) (hnm : ∀ a, a < N → ∀ b, b < N → a ≠ b → (T a).2.1 ≠ (T b).2.1) (hk : k < N) (hfin : (T k).2.2.2 = false) (hn : narrow (ty0 k) v = v) (hfit : fits (ty0 k) v = true) (hlen : k < fs.length) {σ' : Sg} (hset : (Wf σ).set o (a, .inr (ci, fs.set k v)) = Wf σ') (hl : Cond.fieldLink own idx (T k).1 (T k).2.1 (T k).2.2.1 ∈ lw_tg) (hd : decode cc pc = .ok (.putfield idx, 3))
    (kk : ∀ (H1 : Heap) (locs1 : List Loc), va_P D vwCl (Wf σ') H1 → va_S A s.heap H1 locs1 → W p l e R s m args below meth c H1 locs1 0 0 Q (F0 m (pc + 3) ls rest)) : W p l e R s m args below meth c H locs 0 0 Q (F0 m pc ls (v :: .ref a :: rest)) :=
  va_put C.1.1 C.1.2.1 C.1.2.2.2.2 hin ty0 hty hnm C.1.2.2.2.1 C.2.1 hP (C.2.2.1 σ) hS o he hc k hk (C.1.2.2.2.2 _ hl) (fun _ h => h) hfin (hty k hk) hn hfit hlen hd (fun H1 locs1 h1 _ h3 => kk H1 locs1 (hset ▸ h1) h3)
theorem q_putN (C : CX p m c cc nL s args own D tys Wf A) (hP : va_P D vwCl (Wf σ) H) (hS : va_S A s.heap H locs) {o ci k N idx : Nat} {fs : List Value} {Cn host : String} {T : u_T} {v : Value} {ty0 : Nat → FieldType} (he : (Wf σ)[o]? = some (a, .inr (ci, fs))) (hc : vwCl[ci]? = some (Cn, T, N)) (hin : ∀ w ∈ u_ws Cn T N, w ∈ lw_tg) (hty : ∀ k, k < N → parseFieldDescriptor (T k).2.2.1 = some (ty0 k)) (hnm : ∀ a, a < N → ∀ b, b < N → a ≠ b → (T a).2.1 ≠ (T b).2.1) (hk : k < N) (hfin : (T k).2.2.2 = false) (hn : narrow (ty0 k) v = v) (hfit : fits (ty0 k) v = true) (hlen : k < fs.length) {σ' : Sg} (hset : (Wf σ).set o (a, .inr (ci, fs.set k v)) = Wf σ') (hl : Cond.fieldLinkNest own idx (T k).1 (T k).2.1 (T k).2.2.1 host ∈ lw_nf) (hd : decode cc pc = .ok (.putfield idx, 3))
    (kk : ∀ (H1 : Heap) (locs1 : List Loc), va_P D vwCl (Wf σ') H1 → va_S A s.heap H1 locs1 → W p l e R s m args below meth c H1 locs1 0 0 Q (F0 m (pc + 3) ls rest)) : W p l e R s m args below meth c H locs 0 0 Q (F0 m pc ls (v :: .ref a :: rest)) :=
  va_putN C.1.1 C.1.2.1 C.1.2.2.2.2 hin ty0 hty hnm C.1.2.2.2.1 C.2.1 hP (C.2.2.1 σ) hS o he hc k hk (va_Nw.use rfl (C.2.2.2 _ hl)) (fun _ h => h) hfin (hty k hk) hn hfit hlen hd (fun H1 locs1 h1 _ h3 => kk H1 locs1 (hset ▸ h1) h3)
-- arrays of ints
theorem q_ald (C : CX p m c cc nL s args own D tys Wf A) (hP : va_P D vwCl (Wf σ) H) {o n : Nat} {cA : ClassId} {f : Nat → Int32} (he : (Wf σ)[o]? = some (a, .inl (cA, n, .inl f))) (ht : tys[0]? = some (cA, .int)) {i : Int32} (hin : vin i n = true) (hd : decode cc pc = .ok (.iaload, 1))
    (kk : W p l e R s m args below meth c H locs 0 0 Q (F0 m (pc + 1) ls (.int (f i.toNatClampNeg) :: rest))) : W p l e R s m args below meth c H locs 0 0 Q (F0 m pc ls (.int i :: .ref a :: rest)) :=
  va_iald C.1.1 C.1.2.1 C.2.1 hP o 0 he ht (vin_in hin) hd kk
theorem q_ast (C : CX p m c cc nL s args own D tys Wf A) (hP : va_P D vwCl (Wf σ) H) (hS : va_S A s.heap H locs) {o n : Nat} {cA : ClassId} {f : Nat → Int32} (he : (Wf σ)[o]? = some (a, .inl (cA, n, .inl f))) (ht : tys[0]? = some (cA, .int)) {i x : Int32} (hin : vin i n = true) {σ' : Sg} (hset : (Wf σ).set o (a, .inl (cA, n, .inl (upd f i.toNatClampNeg x))) = Wf σ') (hd : decode cc pc = .ok (.iastore, 1))
    (kk : ∀ (H1 : Heap) (locs1 : List Loc), va_P D vwCl (Wf σ') H1 → va_S A s.heap H1 locs1 → W p l e R s m args below meth c H1 locs1 0 0 Q (F0 m (pc + 1) ls rest)) : W p l e R s m args below meth c H locs 0 0 Q (F0 m pc ls (.int x :: .int i :: .ref a :: rest)) :=
  va_iast C.1.1 C.1.2.1 C.2.1 hP (C.2.2.1 σ) hS o 0 he ht (vin_in hin) hd (fun H1 locs1 h1 _ h3 => kk H1 locs1 (hset ▸ h1) h3)
theorem q_aldq (C : CX p m c cc nL s args own D tys Wf A) (hP : va_P D vwCl (Wf σ) H) {o n t0 : Nat} {cA : ClassId} {Cn : String} {f : Nat → Option Nat} (he : (Wf σ)[o]? = some (a, .inl (cA, n, .inr (.inr (.inr (.inr f)))))) (ht : tys[t0]? = some (cA, .object Cn)) {i : Int32} (hin : vin i n = true) {v : Value} (hv : va_rf (f i.toNatClampNeg) = v) (hd : decode cc pc = .ok (.aaload, 1))
    (kk : W p l e R s m args below meth c H locs 0 0 Q (F0 m (pc + 1) ls (v :: rest))) : W p l e R s m args below meth c H locs 0 0 Q (F0 m pc ls (.int i :: .ref a :: rest)) := by
  subst hv
  exact va_aldq C.1.1 C.1.2.1 C.2.1 hP o t0 he ht (vin_in hin) hd kk
theorem q_alen (C : CX p m c cc nL s args own D tys Wf A) (hP : va_P D vwCl (Wf σ) H) {o n : Nat} {cA : ClassId} {f : Nat → Int32} (he : (Wf σ)[o]? = some (a, .inl (cA, n, .inl f))) (ht : tys[0]? = some (cA, .int)) (hd : decode cc pc = .ok (.arraylength, 1))
    (kk : W p l e R s m args below meth c H locs 0 0 Q (F0 m (pc + 1) ls (.int (nI n) :: rest))) : W p l e R s m args below meth c H locs 0 0 Q (F0 m pc ls (.ref a :: rest)) :=
  va_alen C.1.1 C.1.2.1 C.2.1 hP o 0 he ht rfl hd kk
-- references that may be null
theorem q_aloadq_n (C : CX p m c cc nL s args own D tys Wf A) {k : Fin 4} {i : Nat} {r : Option Nat} (hd : decode cc pc = .ok (.aload_n k, 1)) (hi : (k : Nat) = i) (hl : ls[i]? = some (.val (va_rf r))) (kk : W p l e R s m args below meth c H locs 0 0 Q (F0 m (pc + 1) ls (va_rf r :: rest))) : W p l e R s m args below meth c H locs 0 0 Q (F0 m pc ls rest) := by
  cases r with
  | none => exact lv_aload_nN C.1.1 C.1.2.1 hd hi hl kk
  | some t => exact lv_aload_n C.1.1 C.1.2.1 hd hi hl kk
theorem q_aloadq (C : CX p m c cc nL s args own D tys Wf A) {i : Nat} {r : Option Nat} (hd : decode cc pc = .ok (.aload i, 2)) (hl : ls[i]? = some (.val (va_rf r))) (kk : W p l e R s m args below meth c H locs 0 0 Q (F0 m (pc + 2) ls (va_rf r :: rest))) : W p l e R s m args below meth c H locs 0 0 Q (F0 m pc ls rest) := by
  cases r with
  | none => exact lv_aloadN C.1.1 C.1.2.1 hd hl kk
  | some t => exact lv_aload C.1.1 C.1.2.1 hd hl kk
theorem q_astoreq_n (C : CX p m c cc nL s args own D tys Wf A) {k : Fin 4} {i n : Nat} {r : Option Nat} {lv lv' : List (Nat × Value)} (hd : decode cc pc = .ok (.astore_n k, 1)) (hi : (k : Nat) = i) (h : lv_has ls n lv) (hn : i < n) (hl : (i, va_rf r) :: lv.filter (fun q => !(q.1 == i) && !(q.1 + 1 == i && q.2.category == 2)) = lv') (kk : ∀ ls' : Array Slot, lv_has ls' n lv' → W p l e R s m args below meth c H locs 0 0 Q (F0 m (pc + 1) ls' rest)) : W p l e R s m args below meth c H locs 0 0 Q (F0 m pc ls (va_rf r :: rest)) := by
  cases r with
  | none => exact lv_astore_nN C.1.1 C.1.2.1 hd hi h hn hl kk
  | some t => exact lv_astore_n C.1.1 C.1.2.1 hd hi h hn hl kk
theorem q_astoreq (C : CX p m c cc nL s args own D tys Wf A) {i n : Nat} {r : Option Nat} {lv lv' : List (Nat × Value)} (hd : decode cc pc = .ok (.astore i, 2)) (h : lv_has ls n lv) (hn : i < n) (hl : (i, va_rf r) :: lv.filter (fun q => !(q.1 == i) && !(q.1 + 1 == i && q.2.category == 2)) = lv') (kk : ∀ ls' : Array Slot, lv_has ls' n lv' → W p l e R s m args below meth c H locs 0 0 Q (F0 m (pc + 2) ls' rest)) : W p l e R s m args below meth c H locs 0 0 Q (F0 m pc ls (va_rf r :: rest)) := by
  cases r with
  | none => exact lv_astoreN C.1.1 C.1.2.1 hd h hn hl kk
  | some t => exact lv_astore C.1.1 C.1.2.1 hd h hn hl kk
theorem q_ifnull (C : CX p m c cc nL s args own D tys Wf A) {r : Option Nat} {off : Int} {tgt : Nat} (hd : decode cc pc = .ok (.ifnull off, 3)) (ht : (pc : Int) + off = (tgt : Int)) (kn : r = none → W p l e R s m args below meth c H locs 0 0 Q (F0 m tgt ls rest)) (ks : ∀ t, r = some t → W p l e R s m args below meth c H locs 0 0 Q (F0 m (pc + 3) ls rest)) : W p l e R s m args below meth c H locs 0 0 Q (F0 m pc ls (va_rf r :: rest)) := by
  cases r with
  | none => exact lv_ifnullN C.1.1 C.1.2.1 hd ht (kn rfl)
  | some t => exact lv_ifnull C.1.1 C.1.2.1 hd (ks t rfl)
theorem q_ifnonnull (C : CX p m c cc nL s args own D tys Wf A) {r : Option Nat} {off : Int} {tgt : Nat} (hd : decode cc pc = .ok (.ifnonnull off, 3)) (ht : (pc : Int) + off = (tgt : Int)) (kn : r = none → W p l e R s m args below meth c H locs 0 0 Q (F0 m (pc + 3) ls rest)) (ks : ∀ t, r = some t → W p l e R s m args below meth c H locs 0 0 Q (F0 m tgt ls rest)) : W p l e R s m args below meth c H locs 0 0 Q (F0 m pc ls (va_rf r :: rest)) := by
  cases r with
  | none => exact lv_ifnonnullN C.1.1 C.1.2.1 hd (kn rfl)
  | some t => exact lv_ifnonnull C.1.1 C.1.2.1 hd ht (ks t rfl)
-- calls: the callee's words and room in one bundle
def KV (R : Room) (own Cn : String) (idx : Nat) (y : MethodName) (bytes : ByteArray) (maxL : Nat) (ret : Option FieldType) (rm : Room) (n : Nat) : Prop := GoodIn lw_tg (wsV own idx Cn y (wm y bytes maxL ret)) ∧ (rm.cells = 0 ∧ rm.slots = 0) ∧ (y.cls = Cn ∧ y.cls ≠ "java/lang/invoke/MethodHandle" ∧ y.cls ≠ "java/lang/invoke/VarHandle" ∧ (parseMethodDescriptor y.desc).map (fun d => d.parameters.length) = some n) ∧ (rm.frames + 1 ≤ R.frames ∧ 8 + (maxL + 11) + rm.locals ≤ R.locals)
theorem q_runV (C : CX p m c cc nL s args own D tys Wf A) (hP : va_P D vwCl (Wf σ) H) {o ci idx n maxL : Nat} {fs : List Value} {Cn : String} {q : vw_C} {y : MethodName} {bytes : ByteArray} {ret : Option FieldType} {rm : Room} {As st0 : List Value} {Qc : Array Value → State → Outcome → State → Prop} {free : Addr → Prop}
    (hM : Met l y (wm y bytes maxL ret) rm (va_Pc (.ref a :: As) (BW D tys Wf σ)) Qc 0 0 free) (K : KV R own Cn idx y bytes maxL ret rm n) (he : (Wf σ)[o]? = some (a, .inr (ci, fs))) (hc : vwCl[ci]? = some q) (hq : q.1 = Cn) (hn : As.length = n) (hst : st0 = As.reverse ++ .ref a :: rest) (hcat : (rest.map fun v => v.category).sum ≤ 8) (hls : ls.size = nL) (hd : decode cc pc = .ok (.invokevirtual idx, 3)) :
    va_Run p l e R s m args below meth c H locs 0 0 0 0 (F0 m pc ls st0) rest (Qc (Value.ref a :: As).toArray) free := by
  subst hq
  exact va_runV (As := As) (rest := rest) C.1 hM (cwV n C.1.2.2.2.2 K.1 rfl K.2.1.1 K.2.1.2 K.2.2.1 K.2.2.2) ⟨fb_BW, va_recv C.2.1 hP hc he, fun U hU hW => ⟨rfl, by rw [hU]; exact hP, va_K.moved hW.alike C.2.1, NW.warm hW C.2.2.2⟩⟩ rfl hn hls hst (lv_room hcat) hd ⟨Nat.zero_le _, Nat.zero_le _⟩
def KS (R : Room) (own : String) (idx : Nat) (y : MethodName) (bytes : ByteArray) (maxL : Nat) (ret : Option FieldType) (rm : Room) (n : Nat) : Prop := GoodIn lw_tg (va_wsS own idx y (wm y bytes maxL ret)) ∧ (rm.cells = 0 ∧ rm.slots = 0) ∧ (y.cls ≠ "java/lang/invoke/MethodHandle" ∧ y.cls ≠ "java/lang/invoke/VarHandle" ∧ (parseMethodDescriptor y.desc).map (fun d => d.parameters.length) = some n) ∧ (rm.frames + 1 ≤ R.frames ∧ 8 + (maxL + 11) + rm.locals ≤ R.locals)
theorem q_runS (C : CX p m c cc nL s args own D tys Wf A) (hP : va_P D vwCl (Wf σ) H) {idx n maxL : Nat} {y : MethodName} {bytes : ByteArray} {ret : Option FieldType} {rm : Room} {As st0 : List Value} {Qc : Array Value → State → Outcome → State → Prop} {free : Addr → Prop}
    (hM : Met l y (wm y bytes maxL ret) rm (va_Pc As (BW D tys Wf σ)) Qc 0 0 free) (K : KS R own idx y bytes maxL ret rm n) (hn : As.length = n) (hst : st0 = As.reverse ++ rest) (hcat : (rest.map fun v => v.category).sum ≤ 8) (hls : ls.size = nL) (hd : decode cc pc = .ok (.invokestatic idx, 3)) :
    va_Run p l e R s m args below meth c H locs 0 0 0 0 (F0 m pc ls st0) rest (Qc As.toArray) free :=
  va_runS (As := As) (rest := rest) C.1 hM (va_cwS n C.1.2.2.2.2 K.1 rfl K.2.1.1 K.2.1.2 K.2.2.1 K.2.2.2) ⟨fb_BW, fun U hU hW => ⟨rfl, by rw [hU]; exact hP, va_K.moved hW.alike C.2.1, NW.warm hW C.2.2.2⟩⟩ rfl hn hls hst (lv_room hcat) hd ⟨Nat.zero_le _, Nat.zero_le _⟩
theorem q_calli (C : CX p m c cc nL s args own D tys Wf A) (hS : va_S A s.heap H locs) {st0 : List Value} {r0 : Int32} {σ' : Sg} {ar : Array Value} (hr : va_Run p l e R s m args below meth c H locs 0 0 0 0 (F0 m pc ls st0) rest (QI D tys Wf A r0 σ' ar) A)
    (kk : ∀ (H1 : Heap) (locs1 : List Loc), va_P D vwCl (Wf σ') H1 → va_S A s.heap H1 locs1 → W p l e R s m args below meth c H1 locs1 0 0 Q (F0 m (pc + 3) ls (.int r0 :: rest))) : W p l e R s m args below meth c H locs 0 0 Q (F0 m pc ls st0) :=
  va_calli hr hS (fun _ _ h => h) (fun _ h => h) (fun r u t H1 locs1 ht hvm hw hB hz hk hS => by
    subst hw; subst ht
    exact kk _ _ hB.1 hS)
theorem q_calll (C : CX p m c cc nL s args own D tys Wf A) (hS : va_S A s.heap H locs) {st0 : List Value} {r0 : Int64} {σ' : Sg} {ar : Array Value} (hr : va_Run p l e R s m args below meth c H locs 0 0 0 0 (F0 m pc ls st0) rest (QL D tys Wf A r0 σ' ar) A)
    (kk : ∀ (H1 : Heap) (locs1 : List Loc), va_P D vwCl (Wf σ') H1 → va_S A s.heap H1 locs1 → W p l e R s m args below meth c H1 locs1 0 0 Q (F0 m (pc + 3) ls (.long r0 :: rest))) : W p l e R s m args below meth c H locs 0 0 Q (F0 m pc ls st0) :=
  va_calll hr hS (fun _ _ h => h) (fun _ h => h) (fun r u t H1 locs1 ht hvm hw hB hz hk hS => by
    subst hw; subst ht
    exact kk _ _ hB.1 hS)
theorem q_callr (C : CX p m c cc nL s args own D tys Wf A) (hS : va_S A s.heap H locs) {st0 : List Value} {r0 : Option Nat} {σ' : Sg} {ar : Array Value} (hr : va_Run p l e R s m args below meth c H locs 0 0 0 0 (F0 m pc ls st0) rest (QR D tys Wf A r0 σ' ar) A)
    (kk : ∀ (H1 : Heap) (locs1 : List Loc), va_P D vwCl (Wf σ') H1 → va_S A s.heap H1 locs1 → W p l e R s m args below meth c H1 locs1 0 0 Q (F0 m (pc + 3) ls (va_rf r0 :: rest))) : W p l e R s m args below meth c H locs 0 0 Q (F0 m pc ls st0) :=
  va_callq hr hS (fun _ _ h => h) (fun _ h => h) (fun r u t H1 locs1 ht hvm hw hB hz hk hS => by
    subst hw; subst ht
    exact kk _ _ hB.1 hS)
theorem q_callv (C : CX p m c cc nL s args own D tys Wf A) (hS : va_S A s.heap H locs) {st0 : List Value} {σ' : Sg} {ar : Array Value} (hr : va_Run p l e R s m args below meth c H locs 0 0 0 0 (F0 m pc ls st0) rest (QV D tys Wf A σ' ar) A)
    (kk : ∀ (H1 : Heap) (locs1 : List Loc), va_P D vwCl (Wf σ') H1 → va_S A s.heap H1 locs1 → W p l e R s m args below meth c H1 locs1 0 0 Q (F0 m (pc + 3) ls rest)) : W p l e R s m args below meth c H locs 0 0 Q (F0 m pc ls st0) :=
  va_callv hr hS (fun _ _ h => h) (fun _ h => h) (fun u t H1 locs1 ht hvm hw hB hz hk hS => by
    subst ht
    exact kk _ _ hB.1 hS)
end

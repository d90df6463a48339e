/-! rows over growing worlds: constructors -/
def Cn (p : Program) (s : State) (m : MethodId) (args : Array Value) (meth : Method) (c : Code) (D : va_G) (A : Nat → Prop) (tys : List (ClassId × FieldType)) (cc : ByteArray) (nL : Nat) (own : String) (ret : Option FieldType) : Prop :=
  p.tables.exec = Jvm.exec ∧ c.code = cc ∧ c.maxLocals = nL ∧ s.vm.findClass own = some m.cls ∧ (∀ w ∈ WB, w.before args s = true) ∧ va_K D vwCl tys s ∧ (∀ q : Nat, s.heap.size ≤ q → A q) ∧ meth.locks = false ∧ meth.sig.returnType = ret
def WN (p : Program) (l : Launch) (e : Env) (R : Room) (s : State) (m : MethodId) (args : Array Value) (below : List Frame) (meth : Method) (c : Code) (Q : State → Prop) (D : va_G) (A : Nat → Prop) (nL cells slots : Nat) (ws : va_W) (lv : List (Nat × Value)) (pc : Nat) (st : List Value) : Prop :=
  ∀ (H : Heap) (locs : List Loc) (ls : Array Slot), va_P D vwCl ws H → va_D A ws → va_S A s.heap H locs → lv_has ls nL lv → W p l e R s m args below meth c H locs cells slots Q (F0 m pc ls st)
/-- a constructor's contract: of the one cell (h0, class ci, fields fs0) it makes the cells 'fin h0 qs', all others of which are new -/
def nP (D : va_G) (tys : List (ClassId × FieldType)) (NEx : State → Prop) (ci : Nat) (fs0 : List Value) (h0 sz : Nat) : Array Value → State → Prop := fun v U => v = [Value.ref h0].toArray ∧ U.heap.size = sz ∧ va_P D vwCl [(h0, .inr (ci, fs0))] U.heap ∧ va_K D vwCl tys U ∧ NEx U
def nQ (D : va_G) (ci : Nat) (fs0 : List Value) (fin : Nat → (Nat → Nat) → va_W) (h0 sz : Nat) : Array Value → State → Outcome → State → Prop := fun _ st oc t => oc = .returned none ∧ (∃ qs : Nat → Nat, va_P D vwCl (fin h0 qs) t.heap ∧ va_D (va_A [(h0, .inr (ci, fs0))] sz) (fin h0 qs)) ∧ va_F (va_A [(h0, .inr (ci, fs0))] sz) st t
def NCon (l : Launch) (y : MethodName) (bytes : ByteArray) (rm : Room) (D : va_G) (tys : List (ClassId × FieldType)) (NEx : State → Prop) (ci : Nat) (fs0 : List Value) (fin : Nat → (Nat → Nat) → va_W) (mc ms : Nat) : Prop :=
  ∀ h0 sz : Nat, Met l y (Cond.code y bytes 1 none :: WB) rm (nP D tys NEx ci fs0 h0 sz) (nQ D ci fs0 fin h0 sz) mc ms (va_A [(h0, .inr (ci, fs0))] sz)
def NExOk (NEx : State → Prop) : Prop := (∀ s U : State, s.vm = U.vm → NEx s → NEx U) ∧ ∀ s U : State, s.WarmedH U.vm → NEx s → NEx U
section NK
variable {p : Program} {l : Launch} {e : Env} {R : Room} {s : State} {m : MethodId} {args : Array Value} {below : List Frame} {meth : Method} {c : Code} {Q : State → Prop}
variable {D : va_G} {A : Nat → Prop} {tys : List (ClassId × FieldType)} {cc : ByteArray} {nL cells slots : Nat} {own : String} {ret : Option FieldType}
variable {ws : va_W} {lv : List (Nat × Value)} {pc : Nat} {rest : List Value}
theorem Cn.hx (C : Cn p s m args meth c D A tys cc nL own ret) : p.tables.exec = Jvm.exec := C.1
theorem Cn.hb (C : Cn p s m args meth c D A tys cc nL own ret) : c.code = cc := C.2.1
theorem Cn.hml (C : Cn p s m args meth c D A tys cc nL own ret) : c.maxLocals = nL := C.2.2.1
theorem Cn.hown (C : Cn p s m args meth c D A tys cc nL own ret) : s.vm.findClass own = some m.cls := C.2.2.2.1
theorem Cn.ts (C : Cn p s m args meth c D A tys cc nL own ret) : ∀ w ∈ WB, w.before args s = true := C.2.2.2.2.1
theorem Cn.hK (C : Cn p s m args meth c D A tys cc nL own ret) : va_K D vwCl tys s := C.2.2.2.2.2.1
theorem Cn.hA (C : Cn p s m args meth c D A tys cc nL own ret) : ∀ q : Nat, s.heap.size ≤ q → A q := C.2.2.2.2.2.2.1
theorem Cn.hlocks (C : Cn p s m args meth c D A tys cc nL own ret) : meth.locks = false := C.2.2.2.2.2.2.2.1
theorem Cn.hr (C : Cn p s m args meth c D A tys cc nL own ret) : meth.sig.returnType = ret := C.2.2.2.2.2.2.2.2
theorem n_iconst (C : Cn p s m args meth c D A tys cc nL own ret) {n : Int} {v : Int32} (hd : decode cc pc = .ok (.iconst n, 1)) (hv : Int32.ofInt n = v) (kk : WN p l e R s m args below meth c Q D A nL cells slots ws lv (pc + 1) (.int v :: rest)) : WN p l e R s m args below meth c Q D A nL cells slots ws lv pc rest := fun H locs ls hP hD hS hl => lv_iconst C.hx C.hb hd hv (kk H locs ls hP hD hS hl)
theorem n_bipush (C : Cn p s m args meth c D A tys cc nL own ret) {n : Int} {v : Int32} (hd : decode cc pc = .ok (.bipush n, 2)) (hv : (Int8.ofInt n).toInt32 = v) (kk : WN p l e R s m args below meth c Q D A nL cells slots ws lv (pc + 2) (.int v :: rest)) : WN p l e R s m args below meth c Q D A nL cells slots ws lv pc rest := fun H locs ls hP hD hS hl => lv_bipush C.hx C.hb hd hv (kk H locs ls hP hD hS hl)
theorem n_lconst (C : Cn p s m args meth c D A tys cc nL own ret) {n : Fin 2} {v : Int64} (hd : decode cc pc = .ok (.lconst n, 1)) (hv : Int64.ofNat (n : Nat) = v) (kk : WN p l e R s m args below meth c Q D A nL cells slots ws lv (pc + 1) (.long v :: rest)) : WN p l e R s m args below meth c Q D A nL cells slots ws lv pc rest := fun H locs ls hP hD hS hl => lv_lconst C.hx C.hb hd hv (kk H locs ls hP hD hS hl)
theorem n_aload_n (C : Cn p s m args meth c D A tys cc nL own ret) {k : Fin 4} {i x : Nat} (hd : decode cc pc = .ok (.aload_n k, 1)) (hi : (k : Nat) = i) (j : Nat) (hj : lv[j]? = some (i, .ref x)) (kk : WN p l e R s m args below meth c Q D A nL cells slots ws lv (pc + 1) (.ref x :: rest)) : WN p l e R s m args below meth c Q D A nL cells slots ws lv pc rest := fun H locs ls hP hD hS hl => lv_aload_n C.hx C.hb hd hi (lv_at hl j hj) (kk H locs ls hP hD hS hl)
theorem n_dup (C : Cn p s m args meth c D A tys cc nL own ret) {va : Value} (hd : decode cc pc = .ok (.dup, 1)) (h1 : va.category = 1) (kk : WN p l e R s m args below meth c Q D A nL cells slots ws lv (pc + 1) (va :: va :: rest)) : WN p l e R s m args below meth c Q D A nL cells slots ws lv pc (va :: rest) := fun H locs ls hP hD hS hl => lv_dup C.hx C.hb hd h1 (kk H locs ls hP hD hS hl)
theorem n_astore_n (C : Cn p s m args meth c D A tys cc nL own ret) {k : Fin 4} {i x : Nat} {lv' : List (Nat × Value)} (hd : decode cc pc = .ok (.astore_n k, 1)) (hi : (k : Nat) = i) (hn : i < nL) (hl : (i, Value.ref x) :: lv.filter (fun q => !(q.1 == i) && !(q.1 + 1 == i && q.2.category == 2)) = lv') (kk : WN p l e R s m args below meth c Q D A nL cells slots ws lv' (pc + 1) rest) : WN p l e R s m args below meth c Q D A nL cells slots ws lv pc (.ref x :: rest) := fun H locs ls hP hD hS h => lv_astore_n C.hx C.hb hd hi h hn hl (fun ls' h' => kk H locs ls' hP hD hS h')
theorem n_istore_n (C : Cn p s m args meth c D A tys cc nL own ret) {k : Fin 4} {i : Nat} {x : Int32} {lv' : List (Nat × Value)} (hd : decode cc pc = .ok (.istore_n k, 1)) (hi : (k : Nat) = i) (hn : i < nL) (hl : (i, Value.int x) :: lv.filter (fun q => !(q.1 == i) && !(q.1 + 1 == i && q.2.category == 2)) = lv') (kk : WN p l e R s m args below meth c Q D A nL cells slots ws lv' (pc + 1) rest) : WN p l e R s m args below meth c Q D A nL cells slots ws lv pc (.int x :: rest) := fun H locs ls hP hD hS h => lv_istore_n C.hx C.hb hd hi h hn hl (fun ls' h' => kk H locs ls' hP hD hS h')
theorem n_obj (C : Cn p s m args meth c D A tys cc nL own ret) {idx a : Nat} (h1 : Cond.methodLink own idx objectInit ∈ WB) (h2 : Cond.instanceMethod objectInit ∈ WB) (h3 : Cond.code objectInit ⟨#[0xb1]⟩ 1 none ∈ WB) (hd : decode cc pc = .ok (.invokespecial idx, 3)) (hf : 1 ≤ R.frames) (hlo : 2 * 0 + (rest.map fun v => v.category).sum + 12 ≤ R.locals) (kk : WN p l e R s m args below meth c Q D A nL cells slots ws lv (pc + 3) rest) : WN p l e R s m args below meth c Q D A nL cells slots ws lv pc (.ref a :: rest) := fun H locs ls hP hD hS hl =>
  W.objInit C.hx C.hb C.hown (C.ts _ h1) (C.ts _ h2) (C.ts _ h3) rfl (by rw [C.hml]; exact hl.1) rfl hd hf hlo (W.eq (g2 := F0 m (pc + 3) ls rest) rfl (kk H locs ls hP hD hS hl))
theorem n_newa (C : Cn p s m args meth c D A tys cc nL own ret) {atype : ArrayType} {ty : FieldType} (harr : Cond.arrayClass (newarray.typeOf atype) ∈ WB) (hty : newarray.typeOf atype = ty) (hsm : ty = .int ∨ ty = .boolean) (t0 : Nat) {cA : ClassId} (ht : tys[t0]? = some (cA, ty)) {n : Int32} (N' : Nat) (hn : ¬ n < 0) (hN : n.toNatClampNeg = N') (hby : N' * componentBytes ty ≤ 536870912) (hc : cells + 1 ≤ R.cells) (hs : slots + N' ≤ R.slots) (hd : decode cc pc = .ok (.newarray atype, 2)) (kk : ∀ q : Nat, WN p l e R s m args below meth c Q D A nL (cells + 1) (slots + N') (ws ++ [(q, .inl (cA, N', .inl (fun _ => 0)))]) lv (pc + 2) (.ref q :: rest)) : WN p l e R s m args below meth c Q D A nL cells slots ws lv pc (.int n :: rest) := fun H locs ls hP hD hS hl => by
  refine va_newa C.hx C.hb (C.ts _ harr) hty C.hK hP hD hS C.hA (a0 := (N', .inl (fun _ => 0))) (fun cA => by rcases hsm with rfl | rfl <;> rfl) hn hN hby hc hs hd (fun q cA' H1 hK' hP' hD' hS' => ?_)
  have e1 := (hK'.2 tys.length (cA', ty) (by simp)).2
  have e2 := (C.hK.2 t0 _ ht).2
  have e3 : cA' = cA := by
    rcases hsm with rfl | rfl
    · exact Option.some.inj ((show s.vm.findClass ("[" ++ FieldType.int.toString) = some cA' from e1).symm.trans e2)
    · exact Option.some.inj ((show s.vm.findClass ("[" ++ FieldType.boolean.toString) = some cA' from e1).symm.trans e2)
  subst e3
  exact kk q H1 locs ls hP' hD' hS' hl
theorem n_new (C : Cn p s m args meth c D A tys cc nL own ret) {Cn' : String} {T : u_T} {N ci index : Nat} (hin : ∀ w ∈ u_ws Cn' T N, w ∈ WB) (ty : Nat → FieldType) (hty : ∀ k, k < N → parseFieldDescriptor (T k).2.2.1 = some (ty k)) (hcl : Cond.classLink own index Cn' ∈ WB) (hinst : Cond.instantiable Cn' N ∈ WB) (hini : Cond.initialized Cn' ∈ WB) (hc : vwCl[ci]? = some (Cn', T, N)) (fs : List Value) (hfs : ∀ j, j < N → defaultValue (ty j) = vp_V fs j) (hce : cells + 1 ≤ R.cells) (hsl : slots + N ≤ R.slots) (hd : decode cc pc = .ok (.new index, 3)) (kk : ∀ q : Nat, WN p l e R s m args below meth c Q D A nL (cells + 1) (slots + N) (ws ++ [(q, .inr (ci, fs))]) lv (pc + 3) (.ref q :: rest)) : WN p l e R s m args below meth c Q D A nL cells slots ws lv pc rest := fun H locs ls hP hD hS hl =>
  va_new C.hx C.hb C.ts hin ty hty C.hown (C.ts _ hcl) (C.ts _ hinst) (C.ts _ hini) C.hK hP hD hS C.hA hc hfs hce hsl hd (fun q H1 hP1 hD1 hS1 => kk q H1 locs ls hP1 hD1 hS1 hl)
theorem n_get (C : Cn p s m args meth c D A tys cc nL own ret) {Cn' : String} {T : u_T} {N ci index : Nat} {ref : String} (hin : ∀ w ∈ u_ws Cn' T N, w ∈ WB) (hc : vwCl[ci]? = some (Cn', T, N)) (q0 k : Nat) {a : Nat} {fs : List Value} {v : Value} (he : ws[q0]? = some (a, .inr (ci, fs))) (hk : k < N) (hlink : Cond.fieldLink own index ref (T k).2.1 (T k).2.2.1 ∈ WB) (href : (T k).1 = ref) (hv : fs[k]? = some v) (hd : decode cc pc = .ok (.getfield index, 3)) (kk : WN p l e R s m args below meth c Q D A nL cells slots ws lv (pc + 3) (v :: rest)) : WN p l e R s m args below meth c Q D A nL cells slots ws lv pc (.ref a :: rest) := fun H locs ls hP hD hS hl =>
  va_get C.hx C.hb C.ts hin C.hown C.hK hP q0 he hc k hk (C.ts _ hlink) (fun x h => by rw [href] at h; exact h) hv hd (kk H locs ls hP hD hS hl)
theorem n_put (C : Cn p s m args meth c D A tys cc nL own ret) {Cn' : String} {T : u_T} {N ci index : Nat} {ref : String} (hin : ∀ w ∈ u_ws Cn' T N, w ∈ WB) (ty0 : Nat → FieldType) (hty : ∀ k, k < N → parseFieldDescriptor (T k).2.2.1 = some (ty0 k)) (hnm : ∀ a, a < N → ∀ b, b < N → a ≠ b → (T a).2.1 ≠ (T b).2.1) (hc : vwCl[ci]? = some (Cn', T, N)) (q0 k : Nat) {a : Nat} {fs : List Value} {v : Value} {ws' : va_W} (he : ws[q0]? = some (a, .inr (ci, fs))) (hk : k < N) (hlink : Cond.fieldLink own index ref (T k).2.1 (T k).2.2.1 ∈ WB) (href : (T k).1 = ref) (hfin : (T k).2.2.2 = false) {ty : FieldType} (hdsc : parseFieldDescriptor (T k).2.2.1 = some ty) (hn : narrow ty v = v) (hfit : fits ty v = true) (hlen : k < fs.length) (hw : ws.set q0 (a, .inr (ci, fs.set k v)) = ws') (hd : decode cc pc = .ok (.putfield index, 3)) (kk : WN p l e R s m args below meth c Q D A nL cells slots ws' lv (pc + 3) rest) : WN p l e R s m args below meth c Q D A nL cells slots ws lv pc (v :: .ref a :: rest) := fun H locs ls hP hD hS hl => by
  subst hw
  exact va_put C.hx C.hb C.ts hin ty0 hty hnm C.hown C.hK hP hD hS q0 he hc k hk (C.ts _ hlink) (fun x h => by rw [href] at h; exact h) hfin hdsc hn hfit hlen hd (fun H1 locs1 hP1 hD1 hS1 => kk H1 locs1 ls hP1 hD1 hS1 hl)
theorem n_putF (C : Cn p s m args meth c D A tys cc nL own ret) {Cn' : String} {T : u_T} {N ci index : Nat} {ref : String} (hinit : meth.name = "<init>") (hin : ∀ w ∈ u_ws Cn' T N, w ∈ WB) (ty0 : Nat → FieldType) (hty : ∀ k, k < N → parseFieldDescriptor (T k).2.2.1 = some (ty0 k)) (hnm : ∀ a, a < N → ∀ b, b < N → a ≠ b → (T a).2.1 ≠ (T b).2.1) (hc : vwCl[ci]? = some (Cn', T, N)) (q0 k : Nat) {a : Nat} {fs : List Value} {v : Value} {ws' : va_W} (he : ws[q0]? = some (a, .inr (ci, fs))) (hk : k < N) (hlink : Cond.fieldLink own index ref (T k).2.1 (T k).2.2.1 ∈ WB) (href : (T k).1 = ref) (hfin : (T k).2.2.2 = true) (hdecl : (T k).1 = own) {ty : FieldType} (hdsc : parseFieldDescriptor (T k).2.2.1 = some ty) (hn : narrow ty v = v) (hfit : fits ty v = true) (hlen : k < fs.length) (hw : ws.set q0 (a, .inr (ci, fs.set k v)) = ws') (hd : decode cc pc = .ok (.putfield index, 3)) (kk : WN p l e R s m args below meth c Q D A nL cells slots ws' lv (pc + 3) rest) : WN p l e R s m args below meth c Q D A nL cells slots ws lv pc (v :: .ref a :: rest) := fun H locs ls hP hD hS hl => by
  subst hw
  exact va_putF C.hx C.hb C.ts hin ty0 hty hnm C.hown C.hK hP hD hS q0 he hc k hk (C.ts _ hlink) (fun x h => by rw [href] at h; exact h) hfin hinit hdecl hdsc hn hfit hlen hd (fun H1 locs1 hP1 hD1 hS1 => kk H1 locs1 ls hP1 hD1 hS1 hl)
theorem n_iast (C : Cn p s m args meth c D A tys cc nL own ret) (q0 t0 : Nat) {a : Nat} {cA : ClassId} {n : Nat} {f : Nat → Int32} {i x : Int32} {ws' : va_W} (ha : ws[q0]? = some (a, .inl (cA, n, .inl f))) (ht : tys[t0]? = some (cA, .int)) (hi : e_in i n) (j : Nat) (hj : i.toNatClampNeg = j) (hw : ws.set q0 (a, .inl (cA, n, .inl (upd f j x))) = ws') (hd : decode cc pc = .ok (.iastore, 1)) (kk : WN p l e R s m args below meth c Q D A nL cells slots ws' lv (pc + 1) rest) : WN p l e R s m args below meth c Q D A nL cells slots ws lv pc (.int x :: .int i :: .ref a :: rest) := fun H locs ls hP hD hS hl => by
  subst hw
  subst hj
  exact va_iast C.hx C.hb C.hK hP hD hS q0 t0 ha ht hi hd (fun H1 locs1 hP1 hD1 hS1 => kk H1 locs1 ls hP1 hD1 hS1 hl)
theorem gw_N {maxL : Nat} {y : MethodName} {bytes : ByteArray} {ret : Option FieldType} (h5 : Cond.code y bytes maxL ret ∈ WB) : GoodIn WB (Cond.code y bytes maxL ret :: WB) := by
  intro w hw
  rcases List.mem_cons.mp hw with rfl | hw
  · exact ⟨h5, WB_good _ h5⟩
  · exact ⟨hw, WB_good _ hw⟩
theorem nP_blind {NEx : State → Prop} {ci : Nat} {fs0 : List Value} {h0 sz : Nat} (hOk : NExOk NEx) : FrameBlind (nP D tys NEx ci fs0 h0 sz) := fun a U g mk q => ⟨q.1, q.2.1, q.2.2.1, va_K.moved (u := U) (U := U.calling g mk a) (Vm.Alike.refl U.vm) q.2.2.2.1, hOk.1 U (U.calling g mk a) rfl q.2.2.2.2⟩
theorem n_run {i q : Nat} {isR : List Nat} {wr : va_W} {ci : Nat} {fs0 : List Value} {fin : Nat → (Nat → Nat) → va_W} {mc ms : Nat} {a : Array Value} {st0 : List Value} (C : Cn p s m args meth c D A tys cc nL own ret) (hi : [i].map (fun i => ws[i]?) = ([(q, .inr (ci, fs0))] : va_W).map some) (hR : isR.map (fun i => ws[i]?) = wr.map some) (hnd : va_nd isR = true) (hdis : ∀ j ∈ isR, j ∉ [i])
    (hrun : ∀ (H : Heap) (locs : List Loc) (ls : Array Slot), va_P D vwCl [(q, .inr (ci, fs0))] H → lv_has ls nL lv → va_Run p l e R s m args below meth c H locs cells slots mc ms (F0 m pc ls st0) rest (nQ D ci fs0 fin q H.size a) (va_A [(q, .inr (ci, fs0))] H.size))
    (kk : ∀ qs : Nat → Nat, WN p l e R s m args below meth c Q D A nL (cells + mc) (slots + ms) (wr ++ fin q qs) lv (pc + 3) rest) : WN p l e R s m args below meth c Q D A nL cells slots ws lv pc st0 := by
  intro H locs ls hP hD hS hl T hT X
  have hPc : va_P D vwCl [(q, .inr (ci, fs0))] H := by
    intro k x hx
    have h1 : k = 0 := by
      have := (List.getElem?_eq_some_iff.mp hx).1
      simp at this; exact this
    subst h1
    cases hx
    have h2 : ws[i]? = some (q, .inr (ci, fs0)) := by simpa using hi
    exact hP i _ h2
  have hF := va_free (wc := [(q, .inr (ci, fs0))]) hD hS C.hA [i] hi
  obtain ⟨v, st₀, t, T', L, h0, X', hL, e1, e2, ⟨hv, ⟨qs, hp, hd⟩, hz, hk⟩, st⟩ := hrun H locs ls hPc hl T hT X
  cases hv
  rw [h0] at hz hk
  obtain ⟨hP2, hD2⟩ := va_join (H1 := T'.heap) hP hD [i] isR hi hR hnd hdis (fun x h1 h2 => by rw [e1]; exact hk x h1 h2) hF (by rw [e1]; exact hp) hd
  obtain ⟨t2, a1, b1⟩ := kk qs T'.heap (locs ++ L) ls hP2 hD2
    ⟨Nat.le_trans hS.1 (by rw [e1]; exact hz), fun x h1 h2 => by rw [e1, hk x (Nat.lt_of_lt_of_le h1 hS.1) (fun z => h2 (hF x z))]; exact hS.2.1 x h1 h2, fun x hx => by
      rcases List.mem_append.mp hx with h | h
      · exact hS.2.2 x h
      · exact hF _ (hL x h)⟩ hl T' rfl X'
  exact ⟨t2, st t2 a1, b1⟩
theorem n_initN (C : Cn p s m args meth c D A tys cc nL own ret) {i q : Nat} {isR : List Nat} {wr : va_W} {ci : Nat} {fs0 : List Value} {fin : Nat → (Nat → Nat) → va_W} {mc ms idx : Nat} {y : MethodName} {bytes : ByteArray} {rm : Room} {host : String} {NEx : State → Prop} (hM : NCon l y bytes rm D tys NEx ci fs0 fin mc ms) (hOk : NExOk NEx) (hEx : NEx s) (hi : [i].map (fun i => ws[i]?) = ([(q, .inr (ci, fs0))] : va_W).map some) (hR : isR.map (fun i => ws[i]?) = wr.map some) (hnd : va_nd isR = true) (hdis : ∀ j ∈ isR, j ∉ [i])
    (h1 : va_Nw (.methodLinkNest own idx y host) s) (h2 : Cond.instanceMethod y ∈ WB) (h4 : Cond.initialized y.cls ∈ WB) (h5 : Cond.code y bytes 1 none ∈ WB) (hy : y.name = "<init>" ∧ y.cls ≠ "java/lang/invoke/MethodHandle" ∧ y.cls ≠ "java/lang/invoke/VarHandle" ∧ (parseMethodDescriptor y.desc).map (fun d => d.parameters.length) = some 0) (hrm : rm.cells = mc ∧ rm.slots = ms) (hRm : rm.frames + 1 ≤ R.frames ∧ 8 + (1 + 11) + rm.locals ≤ R.locals) (hce : cells + mc ≤ R.cells ∧ slots + ms ≤ R.slots) (hW : (rest.map fun v => v.category).sum ≤ 8) (hd : decode cc pc = .ok (.invokespecial idx, 3))
    (kk : ∀ qs : Nat → Nat, WN p l e R s m args below meth c Q D A nL (cells + mc) (slots + ms) (wr ++ fin q qs) lv (pc + 3) rest) : WN p l e R s m args below meth c Q D A nL cells slots ws lv pc (.ref q :: rest) := by
  refine n_run C (a := [Value.ref q].toArray) hi hR hnd hdis (fun H locs ls hPc hl => ?_) kk
  exact va_runIN (b := q) (As := []) (rest := rest) ⟨C.hx, C.hb, C.hml, C.hown, C.ts⟩ (hM q H.size) ⟨va_cnB 0 C.ts (gw_N h5) rfl hrm.1 hrm.2 h1 (C.ts _ h4) hy.2 hRm, hy.1, C.ts _ h2⟩ ⟨nP_blind hOk, fun U hU hW => ⟨rfl, by rw [hU], by rw [hU]; exact hPc, va_K.moved hW.alike C.hK, hOk.2 s U hW hEx⟩⟩ rfl rfl hl.1 rfl (lv_room (m := m) (pc := pc) (ls := ls) (rest := .ref q :: rest) hW) hd hce
theorem n_init (C : Cn p s m args meth c D A tys cc nL own ret) {i q : Nat} {isR : List Nat} {wr : va_W} {ci : Nat} {fs0 : List Value} {fin : Nat → (Nat → Nat) → va_W} {mc ms idx : Nat} {y : MethodName} {bytes : ByteArray} {rm : Room} {NEx : State → Prop} (hM : NCon l y bytes rm D tys NEx ci fs0 fin mc ms) (hOk : NExOk NEx) (hEx : NEx s) (hi : [i].map (fun i => ws[i]?) = ([(q, .inr (ci, fs0))] : va_W).map some) (hR : isR.map (fun i => ws[i]?) = wr.map some) (hnd : va_nd isR = true) (hdis : ∀ j ∈ isR, j ∉ [i])
    (h1 : Cond.methodLink own idx y ∈ WB) (h2 : Cond.instanceMethod y ∈ WB) (h4 : Cond.initialized y.cls ∈ WB) (h5 : Cond.code y bytes 1 none ∈ WB) (hy : y.name = "<init>" ∧ y.cls ≠ "java/lang/invoke/MethodHandle" ∧ y.cls ≠ "java/lang/invoke/VarHandle" ∧ (parseMethodDescriptor y.desc).map (fun d => d.parameters.length) = some 0) (hrm : rm.cells = mc ∧ rm.slots = ms) (hRm : rm.frames + 1 ≤ R.frames ∧ 8 + (1 + 11) + rm.locals ≤ R.locals) (hce : cells + mc ≤ R.cells ∧ slots + ms ≤ R.slots) (hW : (rest.map fun v => v.category).sum ≤ 8) (hd : decode cc pc = .ok (.invokespecial idx, 3))
    (kk : ∀ qs : Nat → Nat, WN p l e R s m args below meth c Q D A nL (cells + mc) (slots + ms) (wr ++ fin q qs) lv (pc + 3) rest) : WN p l e R s m args below meth c Q D A nL cells slots ws lv pc (.ref q :: rest) := by
  refine n_run C (a := [Value.ref q].toArray) hi hR hnd hdis (fun H locs ls hPc hl => ?_) kk
  exact va_runI (b := q) (As := []) (rest := rest) ⟨C.hx, C.hb, C.hml, C.hown, C.ts⟩ (hM q H.size) (cwI 0 C.ts (gw_N h5) rfl hrm.1 hrm.2 (C.ts _ h4) (C.ts _ h1) (C.ts _ h2) hy.1 hy.2 hRm) ⟨nP_blind hOk, fun U hU hW => ⟨rfl, by rw [hU], by rw [hU]; exact hPc, va_K.moved hW.alike C.hK, hOk.2 s U hW hEx⟩⟩ rfl rfl hl.1 rfl (lv_room (m := m) (pc := pc) (ls := ls) (rest := .ref q :: rest) hW) hd hce
theorem n_ret {h0 ci : Nat} {fs0 : List Value} (C : Cn p s m args meth c D (va_A [(h0, .inr (ci, fs0))] s.heap.size) tys cc nL own none) {fin : Nat → (Nat → Nat) → va_W} (qs : Nat → Nat) (is : List Nat) (his : is.map (fun i => ws[i]?) = (fin h0 qs).map some) (hnd : va_nd is = true) (hd : decode cc pc = .ok (.return_, 1)) : WN p l e R s m args below meth c (MQ below (nQ D ci fs0 fin h0 s.heap.size) args s cells slots (va_A [(h0, .inr (ci, fs0))] s.heap.size)) D (va_A [(h0, .inr (ci, fs0))] s.heap.size) nL cells slots ws lv pc [] := fun H locs ls hP hD hS hl => by
  have hP9 : va_P D vwCl (fin h0 qs) H := by
    intro k x hx
    have h1 : (is.map (fun i => ws[i]?))[k]? = some (some x) := by rw [his, List.getElem?_map, hx]; rfl
    rw [List.getElem?_map] at h1
    cases hk : is[k]? with
    | none => rw [hk] at h1; cases h1
    | some i => rw [hk] at h1; exact hP i x (Option.some.inj h1)
  exact W.vret C.hx C.hb C.hr (fun t ht hW => ⟨rfl, ⟨qs, by rw [ht]; exact hP9, hD.sub is hnd his⟩, hS.F ht⟩) hS.2.2 hd C.hlocks
theorem n_con {l : Launch} {y : MethodName} {bytes : ByteArray} {rm : Room} {NEx : State → Prop} {ci : Nat} {fs0 : List Value} {fin : Nat → (Nat → Nat) → va_W} {mc ms : Nat} (hp : plainName y.cls = true)
    (body : ∀ (h0 : Nat) (p : Program) (e : Env) (s : State) (m : MethodId) (args : Array Value) (below : List Frame) (meth : Method) (c : Code), Cn p s m args meth c D (va_A [(h0, .inr (ci, fs0))] s.heap.size) tys bytes 1 y.cls none → NEx s → meth.name = y.name → WN p l e rm s m args below meth c (MQ below (nQ D ci fs0 fin h0 s.heap.size) args s mc ms (va_A [(h0, .inr (ci, fs0))] s.heap.size)) D (va_A [(h0, .inr (ci, fs0))] s.heap.size) 1 0 0 [(h0, .inr (ci, fs0))] [(0, .ref h0)] 0 []) : NCon l y bytes rm D tys NEx ci fs0 fin mc ms := by
  intro h0 sz
  refine Met.ofW (cc := bytes) (maxL := 1) (ret := none) hp rfl ?_
  intro p e s m args below meth c s₁ B hml hv
  obtain ⟨rfl, hsz, hP, hK, hEx⟩ := hv
  subst hsz
  have hts := atoms_spec (ws := (Cond.code y bytes 1 none :: WB)) B.pre
  have hown : s.vm.findClass y.cls = some m.cls := findClass_of_methodNamed B.named
  have hin : meth.name = y.name := (name_of_methodNamed B.named B.method).1
  rw [lg_entry_eq]
  refine body h0 p e s m _ below meth c ⟨B.exec, B.bytes, hml, hown, fun w h => hts w (List.mem_cons_of_mem _ h), hK, fun q h => Or.inr h, B.notSynchronized, B.returns⟩ hEx hin s.heap [] _ hP ?_ va_S.rf (lv_entry [.ref h0] (Nat.le_of_ble_eq_true rfl))
  refine ⟨fun i j x y' hi hj _ => ?_, fun k x hk => va_A.in hk⟩
  have h1 := (List.getElem?_eq_some_iff.mp hi).1
  have h2 := (List.getElem?_eq_some_iff.mp hj).1
  simp at h1 h2
  omega
end NK
theorem bi_112 : (Int8.ofInt 112).toInt32 = 112 := by decide +kernel
def xS0 : eSt := fun k => if k = 9 then (fun j => [0, 0, 0, 10, 10, 0, 1].getD j 0) else if k = 16 then upd (upd (fun _ => 0) 0 (-1)) 1 (-1) else fun _ => 0
def yS0 : eSt := fun k => if k = 4 then upd (upd (upd (fun _ => 0) 4 (-9)) 5 (-9)) 7 1 else fun _ => 0
def finX3 (cI cZ : ClassId) (h0 : Nat) (qs : Nat → Nat) : va_W := [(h0, .inr (3, [.ref (qs 0), .int 0])), (qs 0, .inl (cI, 40, .inl (fun _ => 0)))]
def finX2 (cI cZ : ClassId) (h0 : Nat) (qs : Nat → Nat) : va_W := [(h0, .inr (2, [.ref (qs 0), .ref (qs 1), .ref (qs 2), .ref (qs 3), .ref (qs 4), .int 0])), (qs 0, .inl (cI, 6, .inl (fun _ => 0))), (qs 1, .inl (cI, 6, .inl (fun _ => 0))), (qs 2, .inl (cI, 6, .inl (fun _ => 0))), (qs 3, .inl (cI, 6, .inl (fun _ => 0))), (qs 4, .inl (cI, 6, .inl (fun _ => 0)))]
def finX0 (cI cZ : ClassId) (h0 : Nat) (qs : Nat → Nat) : va_W := [(h0, .inr (0, [.int 0, .int 0, .int 0, .int 10, .int 10, .int 0, .int 1]))]
def finX1 (cI cZ : ClassId) (h0 : Nat) (qs : Nat → Nat) : va_W := [(h0, .inr (1, [.ref (qs 0), .ref (qs 1), .ref (qs 2), .ref (qs 3), .int 0])), (qs 0, .inl (cI, 6, .inl (fun _ => 0))), (qs 1, .inl (cI, 6, .inl (fun _ => 0))), (qs 2, .inl (cI, 6, .inl (fun _ => 0))), (qs 3, .inl (cZ, 6, .inl (fun _ => 0)))]
def finX4 (cI cZ : ClassId) (h0 : Nat) (qs : Nat → Nat) : va_W := xW cI cZ (fun k => if k = 0 then h0 else qs k) xS0 0
def finX5 (cI cZ : ClassId) (h0 : Nat) (qs : Nat → Nat) : va_W := yW cI cZ (fun k => if k = 0 then h0 else qs k) yS0 0
def NTrue (_ : State) : Prop := True
theorem NTrue_ok : NExOk NTrue := ⟨fun _ _ _ _ => trivial, fun _ _ _ _ => trivial⟩
def NX (U : State) : Prop := va_Nw (.methodLinkNest RX4 9 yX3_init RX4) U ∧ va_Nw (.methodLinkNest RX4 18 yX2_init RX4) U ∧ va_Nw (.methodLinkNest RX4 25 yX0_init RX4) U ∧ va_Nw (.methodLinkNest RX4 32 yX1_init RX4) U
theorem NX_ok : NExOk NX := ⟨fun s U h q => ⟨va_Nw.same rfl h q.1, va_Nw.same rfl h q.2.1, va_Nw.same rfl h q.2.2.1, va_Nw.same rfl h q.2.2.2⟩, fun s U h q => ⟨va_Nw.warmM h q.1, va_Nw.warmM h q.2.1, va_Nw.warmM h q.2.2.1, va_Nw.warmM h q.2.2.2⟩⟩
theorem WN_eq {p : Program} {l : Launch} {e : Env} {R : Room} {s : State} {m : MethodId} {args : Array Value} {below : List Frame} {meth : Method} {c : Code} {Q : State → Prop} {D : va_G} {A : Nat → Prop} {nL cells slots : Nat} {ws ws' : va_W} {lv : List (Nat × Value)} {pc : Nat} {st : List Value} (h : ws = ws') (kk : WN p l e R s m args below meth c Q D A nL cells slots ws' lv pc st) : WN p l e R s m args below meth c Q D A nL cells slots ws lv pc st := h ▸ kk
theorem hiX3 : yX3_init.name = "<init>" ∧ yX3_init.cls ≠ "java/lang/invoke/MethodHandle" ∧ yX3_init.cls ≠ "java/lang/invoke/VarHandle" ∧ (parseMethodDescriptor yX3_init.desc).map (fun d => d.parameters.length) = some 0 := by decide +kernel
abbrev rmX3_init : Room := { frames := 1, cells := 1, slots := 40, locals := 20 }
set_option maxRecDepth 100000 in
set_option maxHeartbeats 4000000 in
theorem tX3_init {l : Launch} {dC : Nat → ClassId} {dI : Nat → Nat → Nat} {cI cZ : ClassId} : NCon l yX3_init cX3_init rmX3_init (dC, dI) [(cI, .int), (cZ, .boolean)] NTrue 3 [.null, .int 0] (finX3 cI cZ) 1 40 := by
  refine n_con (by decide) ?_
  intro h0 p e s m args below meth c C hN hin
  refine n_aload_n C dX3_init_0 rfl 0 rfl ?_
  refine n_obj C k_1_22 k_1_15 k_1_16 dX3_init_1 (by decide) (by decide) ?_
  refine n_aload_n C dX3_init_4 rfl 0 rfl ?_
  refine n_bipush (v := 40) C dX3_init_5 bi_40 ?_
  refine n_newa (atype := .int) C (ty := .int) k_1_32 rfl (by decide) 0 rfl 40 (by decide) (by decide) (by decide) (by decide) (by decide) dX3_init_7 ?_
  intro q1
  refine n_putF (ws' := [(h0, .inr (3, [.ref q1, .int 0])), (q1, .inl (cI, 40, .inl (fun _ => 0)))]) C hin inW3 tyX3 tyX3_ok nmX3 (ci := 3) rfl 0 0 rfl (by decide) k_1_23 rfl rfl rfl (ty := .array .int) (by decide +kernel) rfl rfl (Nat.le_of_ble_eq_true rfl) rfl dX3_init_9 ?_
  refine n_aload_n C dX3_init_12 rfl 0 rfl ?_
  refine n_iconst (v := 0) C dX3_init_13 ic_0 ?_
  refine n_put (ws' := [(h0, .inr (3, [.ref q1, .int 0])), (q1, .inl (cI, 40, .inl (fun _ => 0)))]) C inW3 tyX3 tyX3_ok nmX3 (ci := 3) rfl 0 1 rfl (by decide) k_1_24 rfl rfl (ty := .int) (by decide +kernel) rfl rfl (Nat.le_of_ble_eq_true rfl) rfl dX3_init_14 ?_
  exact n_ret (fin := finX3 cI cZ) C (fun i => [q1].getD i 0) [0, 1] rfl (by decide) dX3_init_17
theorem hiX2 : yX2_init.name = "<init>" ∧ yX2_init.cls ≠ "java/lang/invoke/MethodHandle" ∧ yX2_init.cls ≠ "java/lang/invoke/VarHandle" ∧ (parseMethodDescriptor yX2_init.desc).map (fun d => d.parameters.length) = some 0 := by decide +kernel
abbrev rmX2_init : Room := { frames := 1, cells := 5, slots := 30, locals := 20 }
set_option maxRecDepth 100000 in
set_option maxHeartbeats 4000000 in
theorem tX2_init {l : Launch} {dC : Nat → ClassId} {dI : Nat → Nat → Nat} {cI cZ : ClassId} : NCon l yX2_init cX2_init rmX2_init (dC, dI) [(cI, .int), (cZ, .boolean)] NTrue 2 [.null, .null, .null, .null, .null, .int 0] (finX2 cI cZ) 5 30 := by
  refine n_con (by decide) ?_
  intro h0 p e s m args below meth c C hN hin
  refine n_aload_n C dX2_init_0 rfl 0 rfl ?_
  refine n_obj C k_1_38 k_1_15 k_1_16 dX2_init_1 (by decide) (by decide) ?_
  refine n_aload_n C dX2_init_4 rfl 0 rfl ?_
  refine n_bipush (v := 6) C dX2_init_5 bi_6 ?_
  refine n_newa (atype := .int) C (ty := .int) k_1_32 rfl (by decide) 0 rfl 6 (by decide) (by decide) (by decide) (by decide) (by decide) dX2_init_7 ?_
  intro q1
  refine n_putF (ws' := [(h0, .inr (2, [.ref q1, .null, .null, .null, .null, .int 0])), (q1, .inl (cI, 6, .inl (fun _ => 0)))]) C hin inW2 tyX2 tyX2_ok nmX2 (ci := 2) rfl 0 0 rfl (by decide) k_1_39 rfl rfl rfl (ty := .array .int) (by decide +kernel) rfl rfl (Nat.le_of_ble_eq_true rfl) rfl dX2_init_9 ?_
  refine n_aload_n C dX2_init_12 rfl 0 rfl ?_
  refine n_bipush (v := 6) C dX2_init_13 bi_6 ?_
  refine n_newa (atype := .int) C (ty := .int) k_1_32 rfl (by decide) 0 rfl 6 (by decide) (by decide) (by decide) (by decide) (by decide) dX2_init_15 ?_
  intro q2
  refine n_putF (ws' := [(h0, .inr (2, [.ref q1, .ref q2, .null, .null, .null, .int 0])), (q1, .inl (cI, 6, .inl (fun _ => 0))), (q2, .inl (cI, 6, .inl (fun _ => 0)))]) C hin inW2 tyX2 tyX2_ok nmX2 (ci := 2) rfl 0 1 rfl (by decide) k_1_41 rfl rfl rfl (ty := .array .int) (by decide +kernel) rfl rfl (Nat.le_of_ble_eq_true rfl) rfl dX2_init_17 ?_
  refine n_aload_n C dX2_init_20 rfl 0 rfl ?_
  refine n_bipush (v := 6) C dX2_init_21 bi_6 ?_
  refine n_newa (atype := .int) C (ty := .int) k_1_32 rfl (by decide) 0 rfl 6 (by decide) (by decide) (by decide) (by decide) (by decide) dX2_init_23 ?_
  intro q3
  refine n_putF (ws' := [(h0, .inr (2, [.ref q1, .ref q2, .ref q3, .null, .null, .int 0])), (q1, .inl (cI, 6, .inl (fun _ => 0))), (q2, .inl (cI, 6, .inl (fun _ => 0))), (q3, .inl (cI, 6, .inl (fun _ => 0)))]) C hin inW2 tyX2 tyX2_ok nmX2 (ci := 2) rfl 0 2 rfl (by decide) k_1_43 rfl rfl rfl (ty := .array .int) (by decide +kernel) rfl rfl (Nat.le_of_ble_eq_true rfl) rfl dX2_init_25 ?_
  refine n_aload_n C dX2_init_28 rfl 0 rfl ?_
  refine n_bipush (v := 6) C dX2_init_29 bi_6 ?_
  refine n_newa (atype := .int) C (ty := .int) k_1_32 rfl (by decide) 0 rfl 6 (by decide) (by decide) (by decide) (by decide) (by decide) dX2_init_31 ?_
  intro q4
  refine n_putF (ws' := [(h0, .inr (2, [.ref q1, .ref q2, .ref q3, .ref q4, .null, .int 0])), (q1, .inl (cI, 6, .inl (fun _ => 0))), (q2, .inl (cI, 6, .inl (fun _ => 0))), (q3, .inl (cI, 6, .inl (fun _ => 0))), (q4, .inl (cI, 6, .inl (fun _ => 0)))]) C hin inW2 tyX2 tyX2_ok nmX2 (ci := 2) rfl 0 3 rfl (by decide) k_1_45 rfl rfl rfl (ty := .array .int) (by decide +kernel) rfl rfl (Nat.le_of_ble_eq_true rfl) rfl dX2_init_33 ?_
  refine n_aload_n C dX2_init_36 rfl 0 rfl ?_
  refine n_bipush (v := 6) C dX2_init_37 bi_6 ?_
  refine n_newa (atype := .int) C (ty := .int) k_1_32 rfl (by decide) 0 rfl 6 (by decide) (by decide) (by decide) (by decide) (by decide) dX2_init_39 ?_
  intro q5
  refine n_putF (ws' := [(h0, .inr (2, [.ref q1, .ref q2, .ref q3, .ref q4, .ref q5, .int 0])), (q1, .inl (cI, 6, .inl (fun _ => 0))), (q2, .inl (cI, 6, .inl (fun _ => 0))), (q3, .inl (cI, 6, .inl (fun _ => 0))), (q4, .inl (cI, 6, .inl (fun _ => 0))), (q5, .inl (cI, 6, .inl (fun _ => 0)))]) C hin inW2 tyX2 tyX2_ok nmX2 (ci := 2) rfl 0 4 rfl (by decide) k_1_47 rfl rfl rfl (ty := .array .int) (by decide +kernel) rfl rfl (Nat.le_of_ble_eq_true rfl) rfl dX2_init_41 ?_
  refine n_aload_n C dX2_init_44 rfl 0 rfl ?_
  refine n_iconst (v := 0) C dX2_init_45 ic_0 ?_
  refine n_put (ws' := [(h0, .inr (2, [.ref q1, .ref q2, .ref q3, .ref q4, .ref q5, .int 0])), (q1, .inl (cI, 6, .inl (fun _ => 0))), (q2, .inl (cI, 6, .inl (fun _ => 0))), (q3, .inl (cI, 6, .inl (fun _ => 0))), (q4, .inl (cI, 6, .inl (fun _ => 0))), (q5, .inl (cI, 6, .inl (fun _ => 0)))]) C inW2 tyX2 tyX2_ok nmX2 (ci := 2) rfl 0 5 rfl (by decide) k_1_49 rfl rfl (ty := .int) (by decide +kernel) rfl rfl (Nat.le_of_ble_eq_true rfl) rfl dX2_init_46 ?_
  exact n_ret (fin := finX2 cI cZ) C (fun i => [q1, q2, q3, q4, q5].getD i 0) [0, 1, 2, 3, 4, 5] rfl (by decide) dX2_init_49
theorem hiX0 : yX0_init.name = "<init>" ∧ yX0_init.cls ≠ "java/lang/invoke/MethodHandle" ∧ yX0_init.cls ≠ "java/lang/invoke/VarHandle" ∧ (parseMethodDescriptor yX0_init.desc).map (fun d => d.parameters.length) = some 0 := by decide +kernel
abbrev rmX0_init : Room := { frames := 1, cells := 0, slots := 0, locals := 20 }
set_option maxRecDepth 100000 in
set_option maxHeartbeats 4000000 in
theorem tX0_init {l : Launch} {dC : Nat → ClassId} {dI : Nat → Nat → Nat} {cI cZ : ClassId} : NCon l yX0_init cX0_init rmX0_init (dC, dI) [(cI, .int), (cZ, .boolean)] NTrue 0 [.int 0, .int 0, .int 0, .int 0, .int 0, .int 0, .int 0] (finX0 cI cZ) 0 0 := by
  refine n_con (by decide) ?_
  intro h0 p e s m args below meth c C hN hin
  refine n_aload_n C dX0_init_0 rfl 0 rfl ?_
  refine n_obj C k_1_69 k_1_15 k_1_16 dX0_init_1 (by decide) (by decide) ?_
  refine n_aload_n C dX0_init_4 rfl 0 rfl ?_
  refine n_iconst (v := 0) C dX0_init_5 ic_0 ?_
  refine n_put (ws' := [(h0, .inr (0, [.int 0, .int 0, .int 0, .int 0, .int 0, .int 0, .int 0]))]) C inW0 tyX0 tyX0_ok nmX0 (ci := 0) rfl 0 0 rfl (by decide) k_1_70 rfl rfl (ty := .int) (by decide +kernel) rfl rfl (Nat.le_of_ble_eq_true rfl) rfl dX0_init_6 ?_
  refine n_aload_n C dX0_init_9 rfl 0 rfl ?_
  refine n_iconst (v := 0) C dX0_init_10 ic_0 ?_
  refine n_put (ws' := [(h0, .inr (0, [.int 0, .int 0, .int 0, .int 0, .int 0, .int 0, .int 0]))]) C inW0 tyX0 tyX0_ok nmX0 (ci := 0) rfl 0 1 rfl (by decide) k_1_72 rfl rfl (ty := .int) (by decide +kernel) rfl rfl (Nat.le_of_ble_eq_true rfl) rfl dX0_init_11 ?_
  refine n_aload_n C dX0_init_14 rfl 0 rfl ?_
  refine n_iconst (v := 0) C dX0_init_15 ic_0 ?_
  refine n_put (ws' := [(h0, .inr (0, [.int 0, .int 0, .int 0, .int 0, .int 0, .int 0, .int 0]))]) C inW0 tyX0 tyX0_ok nmX0 (ci := 0) rfl 0 2 rfl (by decide) k_1_74 rfl rfl (ty := .int) (by decide +kernel) rfl rfl (Nat.le_of_ble_eq_true rfl) rfl dX0_init_16 ?_
  refine n_aload_n C dX0_init_19 rfl 0 rfl ?_
  refine n_bipush (v := 10) C dX0_init_20 bi_10 ?_
  refine n_put (ws' := [(h0, .inr (0, [.int 0, .int 0, .int 0, .int 10, .int 0, .int 0, .int 0]))]) C inW0 tyX0 tyX0_ok nmX0 (ci := 0) rfl 0 3 rfl (by decide) k_1_76 rfl rfl (ty := .int) (by decide +kernel) rfl rfl (Nat.le_of_ble_eq_true rfl) rfl dX0_init_22 ?_
  refine n_aload_n C dX0_init_25 rfl 0 rfl ?_
  refine n_bipush (v := 10) C dX0_init_26 bi_10 ?_
  refine n_put (ws' := [(h0, .inr (0, [.int 0, .int 0, .int 0, .int 10, .int 10, .int 0, .int 0]))]) C inW0 tyX0 tyX0_ok nmX0 (ci := 0) rfl 0 4 rfl (by decide) k_1_78 rfl rfl (ty := .int) (by decide +kernel) rfl rfl (Nat.le_of_ble_eq_true rfl) rfl dX0_init_28 ?_
  refine n_aload_n C dX0_init_31 rfl 0 rfl ?_
  refine n_iconst (v := 0) C dX0_init_32 ic_0 ?_
  refine n_put (ws' := [(h0, .inr (0, [.int 0, .int 0, .int 0, .int 10, .int 10, .int 0, .int 0]))]) C inW0 tyX0 tyX0_ok nmX0 (ci := 0) rfl 0 5 rfl (by decide) k_1_80 rfl rfl (ty := .int) (by decide +kernel) rfl rfl (Nat.le_of_ble_eq_true rfl) rfl dX0_init_33 ?_
  refine n_aload_n C dX0_init_36 rfl 0 rfl ?_
  refine n_iconst (v := 1) C dX0_init_37 ic_1 ?_
  refine n_put (ws' := [(h0, .inr (0, [.int 0, .int 0, .int 0, .int 10, .int 10, .int 0, .int 1]))]) C inW0 tyX0 tyX0_ok nmX0 (ci := 0) rfl 0 6 rfl (by decide) k_1_82 rfl rfl (ty := .int) (by decide +kernel) rfl rfl (Nat.le_of_ble_eq_true rfl) rfl dX0_init_38 ?_
  exact n_ret (fin := finX0 cI cZ) C (fun _ => 0) [0] rfl (by decide) dX0_init_41
theorem hiX1 : yX1_init.name = "<init>" ∧ yX1_init.cls ≠ "java/lang/invoke/MethodHandle" ∧ yX1_init.cls ≠ "java/lang/invoke/VarHandle" ∧ (parseMethodDescriptor yX1_init.desc).map (fun d => d.parameters.length) = some 0 := by decide +kernel
abbrev rmX1_init : Room := { frames := 1, cells := 4, slots := 24, locals := 20 }
set_option maxRecDepth 100000 in
set_option maxHeartbeats 4000000 in
theorem tX1_init {l : Launch} {dC : Nat → ClassId} {dI : Nat → Nat → Nat} {cI cZ : ClassId} : NCon l yX1_init cX1_init rmX1_init (dC, dI) [(cI, .int), (cZ, .boolean)] NTrue 1 [.null, .null, .null, .null, .int 0] (finX1 cI cZ) 4 24 := by
  refine n_con (by decide) ?_
  intro h0 p e s m args below meth c C hN hin
  refine n_aload_n C dX1_init_0 rfl 0 rfl ?_
  refine n_obj C k_1_104 k_1_15 k_1_16 dX1_init_1 (by decide) (by decide) ?_
  refine n_aload_n C dX1_init_4 rfl 0 rfl ?_
  refine n_bipush (v := 6) C dX1_init_5 bi_6 ?_
  refine n_newa (atype := .int) C (ty := .int) k_1_32 rfl (by decide) 0 rfl 6 (by decide) (by decide) (by decide) (by decide) (by decide) dX1_init_7 ?_
  intro q1
  refine n_putF (ws' := [(h0, .inr (1, [.ref q1, .null, .null, .null, .int 0])), (q1, .inl (cI, 6, .inl (fun _ => 0)))]) C hin inW1 tyX1 tyX1_ok nmX1 (ci := 1) rfl 0 0 rfl (by decide) k_1_105 rfl rfl rfl (ty := .array .int) (by decide +kernel) rfl rfl (Nat.le_of_ble_eq_true rfl) rfl dX1_init_9 ?_
  refine n_aload_n C dX1_init_12 rfl 0 rfl ?_
  refine n_bipush (v := 6) C dX1_init_13 bi_6 ?_
  refine n_newa (atype := .int) C (ty := .int) k_1_32 rfl (by decide) 0 rfl 6 (by decide) (by decide) (by decide) (by decide) (by decide) dX1_init_15 ?_
  intro q2
  refine n_putF (ws' := [(h0, .inr (1, [.ref q1, .ref q2, .null, .null, .int 0])), (q1, .inl (cI, 6, .inl (fun _ => 0))), (q2, .inl (cI, 6, .inl (fun _ => 0)))]) C hin inW1 tyX1 tyX1_ok nmX1 (ci := 1) rfl 0 1 rfl (by decide) k_1_107 rfl rfl rfl (ty := .array .int) (by decide +kernel) rfl rfl (Nat.le_of_ble_eq_true rfl) rfl dX1_init_17 ?_
  refine n_aload_n C dX1_init_20 rfl 0 rfl ?_
  refine n_bipush (v := 6) C dX1_init_21 bi_6 ?_
  refine n_newa (atype := .int) C (ty := .int) k_1_32 rfl (by decide) 0 rfl 6 (by decide) (by decide) (by decide) (by decide) (by decide) dX1_init_23 ?_
  intro q3
  refine n_putF (ws' := [(h0, .inr (1, [.ref q1, .ref q2, .ref q3, .null, .int 0])), (q1, .inl (cI, 6, .inl (fun _ => 0))), (q2, .inl (cI, 6, .inl (fun _ => 0))), (q3, .inl (cI, 6, .inl (fun _ => 0)))]) C hin inW1 tyX1 tyX1_ok nmX1 (ci := 1) rfl 0 2 rfl (by decide) k_1_109 rfl rfl rfl (ty := .array .int) (by decide +kernel) rfl rfl (Nat.le_of_ble_eq_true rfl) rfl dX1_init_25 ?_
  refine n_aload_n C dX1_init_28 rfl 0 rfl ?_
  refine n_bipush (v := 6) C dX1_init_29 bi_6 ?_
  refine n_newa (atype := .boolean) C (ty := .boolean) k_1_126 rfl (by decide) 1 rfl 6 (by decide) (by decide) (by decide) (by decide) (by decide) dX1_init_31 ?_
  intro q4
  refine n_putF (ws' := [(h0, .inr (1, [.ref q1, .ref q2, .ref q3, .ref q4, .int 0])), (q1, .inl (cI, 6, .inl (fun _ => 0))), (q2, .inl (cI, 6, .inl (fun _ => 0))), (q3, .inl (cI, 6, .inl (fun _ => 0))), (q4, .inl (cZ, 6, .inl (fun _ => 0)))]) C hin inW1 tyX1 tyX1_ok nmX1 (ci := 1) rfl 0 3 rfl (by decide) k_1_111 rfl rfl rfl (ty := .array .boolean) (by decide +kernel) rfl rfl (Nat.le_of_ble_eq_true rfl) rfl dX1_init_33 ?_
  refine n_aload_n C dX1_init_36 rfl 0 rfl ?_
  refine n_iconst (v := 0) C dX1_init_37 ic_0 ?_
  refine n_put (ws' := [(h0, .inr (1, [.ref q1, .ref q2, .ref q3, .ref q4, .int 0])), (q1, .inl (cI, 6, .inl (fun _ => 0))), (q2, .inl (cI, 6, .inl (fun _ => 0))), (q3, .inl (cI, 6, .inl (fun _ => 0))), (q4, .inl (cZ, 6, .inl (fun _ => 0)))]) C inW1 tyX1 tyX1_ok nmX1 (ci := 1) rfl 0 4 rfl (by decide) k_1_113 rfl rfl (ty := .int) (by decide +kernel) rfl rfl (Nat.le_of_ble_eq_true rfl) rfl dX1_init_38 ?_
  exact n_ret (fin := finX1 cI cZ) C (fun i => [q1, q2, q3, q4].getD i 0) [0, 1, 2, 3, 4] rfl (by decide) dX1_init_41
theorem hiX4 : yX4_init.name = "<init>" ∧ yX4_init.cls ≠ "java/lang/invoke/MethodHandle" ∧ yX4_init.cls ≠ "java/lang/invoke/VarHandle" ∧ (parseMethodDescriptor yX4_init.desc).map (fun d => d.parameters.length) = some 0 := by decide +kernel
abbrev rmX4_init : Room := { frames := 2, cells := 20, slots := 281, locals := 40 }
set_option maxRecDepth 100000 in
set_option maxHeartbeats 4000000 in
theorem tX4_init {l : Launch} {dC : Nat → ClassId} {dI : Nat → Nat → Nat} {cI cZ : ClassId} : NCon l yX4_init cX4_init rmX4_init (dC, dI) [(cI, .int), (cZ, .boolean)] NX 4 [.null, .null, .null, .null, .null, .int 0, .null, .long 0, .null, .null, .null, .null] (finX4 cI cZ) 20 281 := by
  refine n_con (by decide) ?_
  intro h0 p e s m args below meth c C hN hin
  refine n_aload_n C dX4_init_0 rfl 0 rfl ?_
  refine n_obj C k_1_14 k_1_15 k_1_16 dX4_init_1 (by decide) (by decide) ?_
  refine n_aload_n C dX4_init_4 rfl 0 rfl ?_
  refine n_new C inW3 tyX3 tyX3_ok k_1_17 k_1_18 k_1_2 (ci := 3) rfl [.null, .int 0] (fun j hj => by rcases (show j = 0 ∨ j = 1 by omega) with rfl | rfl <;> rfl) (by decide) (by decide) dX4_init_5 ?_
  intro q1
  refine n_dup C dX4_init_8 rfl ?_
  refine n_initN C (i := 1) (isR := [0]) (wr := [(h0, .inr (4, [.null, .null, .null, .null, .null, .int 0, .null, .long 0, .null, .null, .null, .null]))]) (tX3_init (l := l) (dC := dC) (dI := dI) (cI := cI) (cZ := cZ)) NTrue_ok trivial rfl rfl (by decide) (by decide) hN.1 k_1_20 k_1_2 k_1_21 hiX3 ⟨rfl, rfl⟩ (by decide) (by decide) (Nat.le_of_ble_eq_true rfl) dX4_init_9 ?_
  intro qs2
  refine WN_eq (ws' := [(h0, .inr (4, [.null, .null, .null, .null, .null, .int 0, .null, .long 0, .null, .null, .null, .null])), (q1, .inr (3, [.ref (qs2 0), .int 0])), (qs2 0, .inl (cI, 40, .inl (fun _ => 0)))]) rfl ?_
  refine n_putF (ws' := [(h0, .inr (4, [.ref q1, .null, .null, .null, .null, .int 0, .null, .long 0, .null, .null, .null, .null])), (q1, .inr (3, [.ref (qs2 0), .int 0])), (qs2 0, .inl (cI, 40, .inl (fun _ => 0)))]) C hin inW4 tyX4 tyX4_ok nmX4 (ci := 4) rfl 0 0 rfl (by decide) k_1_127 rfl rfl rfl (ty := .object "EarFerry$Text") (by decide +kernel) rfl rfl (Nat.le_of_ble_eq_true rfl) rfl dX4_init_12 ?_
  refine n_aload_n C dX4_init_15 rfl 0 rfl ?_
  refine n_new C inW2 tyX2 tyX2_ok k_1_33 k_1_34 k_1_3 (ci := 2) rfl [.null, .null, .null, .null, .null, .int 0] (fun j hj => by rcases (show j = 0 ∨ j = 1 ∨ j = 2 ∨ j = 3 ∨ j = 4 ∨ j = 5 by omega) with rfl | rfl | rfl | rfl | rfl | rfl <;> rfl) (by decide) (by decide) dX4_init_16 ?_
  intro q3
  refine n_dup C dX4_init_19 rfl ?_
  refine n_initN C (i := 3) (isR := [0, 1, 2]) (wr := [(h0, .inr (4, [.ref q1, .null, .null, .null, .null, .int 0, .null, .long 0, .null, .null, .null, .null])), (q1, .inr (3, [.ref (qs2 0), .int 0])), (qs2 0, .inl (cI, 40, .inl (fun _ => 0)))]) (tX2_init (l := l) (dC := dC) (dI := dI) (cI := cI) (cZ := cZ)) NTrue_ok trivial rfl rfl (by decide) (by decide) hN.2.1 k_1_36 k_1_3 k_1_37 hiX2 ⟨rfl, rfl⟩ (by decide) (by decide) (Nat.le_of_ble_eq_true rfl) dX4_init_20 ?_
  intro qs4
  refine WN_eq (ws' := [(h0, .inr (4, [.ref q1, .null, .null, .null, .null, .int 0, .null, .long 0, .null, .null, .null, .null])), (q1, .inr (3, [.ref (qs2 0), .int 0])), (qs2 0, .inl (cI, 40, .inl (fun _ => 0))), (q3, .inr (2, [.ref (qs4 0), .ref (qs4 1), .ref (qs4 2), .ref (qs4 3), .ref (qs4 4), .int 0])), (qs4 0, .inl (cI, 6, .inl (fun _ => 0))), (qs4 1, .inl (cI, 6, .inl (fun _ => 0))), (qs4 2, .inl (cI, 6, .inl (fun _ => 0))), (qs4 3, .inl (cI, 6, .inl (fun _ => 0))), (qs4 4, .inl (cI, 6, .inl (fun _ => 0)))]) rfl ?_
  refine n_putF (ws' := [(h0, .inr (4, [.ref q1, .ref q3, .null, .null, .null, .int 0, .null, .long 0, .null, .null, .null, .null])), (q1, .inr (3, [.ref (qs2 0), .int 0])), (qs2 0, .inl (cI, 40, .inl (fun _ => 0))), (q3, .inr (2, [.ref (qs4 0), .ref (qs4 1), .ref (qs4 2), .ref (qs4 3), .ref (qs4 4), .int 0])), (qs4 0, .inl (cI, 6, .inl (fun _ => 0))), (qs4 1, .inl (cI, 6, .inl (fun _ => 0))), (qs4 2, .inl (cI, 6, .inl (fun _ => 0))), (qs4 3, .inl (cI, 6, .inl (fun _ => 0))), (qs4 4, .inl (cI, 6, .inl (fun _ => 0)))]) C hin inW4 tyX4 tyX4_ok nmX4 (ci := 4) rfl 0 1 rfl (by decide) k_1_128 rfl rfl rfl (ty := .object "EarFerry$Sounds") (by decide +kernel) rfl rfl (Nat.le_of_ble_eq_true rfl) rfl dX4_init_23 ?_
  refine n_aload_n C dX4_init_26 rfl 0 rfl ?_
  refine n_new C inW0 tyX0 tyX0_ok k_1_64 k_1_65 k_1_4 (ci := 0) rfl [.int 0, .int 0, .int 0, .int 0, .int 0, .int 0, .int 0] (fun j hj => by rcases (show j = 0 ∨ j = 1 ∨ j = 2 ∨ j = 3 ∨ j = 4 ∨ j = 5 ∨ j = 6 by omega) with rfl | rfl | rfl | rfl | rfl | rfl | rfl <;> rfl) (by decide) (by decide) dX4_init_27 ?_
  intro q5
  refine n_dup C dX4_init_30 rfl ?_
  refine n_initN C (i := 9) (isR := [0, 1, 2, 3, 4, 5, 6, 7, 8]) (wr := [(h0, .inr (4, [.ref q1, .ref q3, .null, .null, .null, .int 0, .null, .long 0, .null, .null, .null, .null])), (q1, .inr (3, [.ref (qs2 0), .int 0])), (qs2 0, .inl (cI, 40, .inl (fun _ => 0))), (q3, .inr (2, [.ref (qs4 0), .ref (qs4 1), .ref (qs4 2), .ref (qs4 3), .ref (qs4 4), .int 0])), (qs4 0, .inl (cI, 6, .inl (fun _ => 0))), (qs4 1, .inl (cI, 6, .inl (fun _ => 0))), (qs4 2, .inl (cI, 6, .inl (fun _ => 0))), (qs4 3, .inl (cI, 6, .inl (fun _ => 0))), (qs4 4, .inl (cI, 6, .inl (fun _ => 0)))]) (tX0_init (l := l) (dC := dC) (dI := dI) (cI := cI) (cZ := cZ)) NTrue_ok trivial rfl rfl (by decide) (by decide) hN.2.2.1 k_1_67 k_1_4 k_1_68 hiX0 ⟨rfl, rfl⟩ (by decide) (by decide) (Nat.le_of_ble_eq_true rfl) dX4_init_31 ?_
  intro qs6
  refine WN_eq (ws' := [(h0, .inr (4, [.ref q1, .ref q3, .null, .null, .null, .int 0, .null, .long 0, .null, .null, .null, .null])), (q1, .inr (3, [.ref (qs2 0), .int 0])), (qs2 0, .inl (cI, 40, .inl (fun _ => 0))), (q3, .inr (2, [.ref (qs4 0), .ref (qs4 1), .ref (qs4 2), .ref (qs4 3), .ref (qs4 4), .int 0])), (qs4 0, .inl (cI, 6, .inl (fun _ => 0))), (qs4 1, .inl (cI, 6, .inl (fun _ => 0))), (qs4 2, .inl (cI, 6, .inl (fun _ => 0))), (qs4 3, .inl (cI, 6, .inl (fun _ => 0))), (qs4 4, .inl (cI, 6, .inl (fun _ => 0))), (q5, .inr (0, [.int 0, .int 0, .int 0, .int 10, .int 10, .int 0, .int 1]))]) rfl ?_
  refine n_putF (ws' := [(h0, .inr (4, [.ref q1, .ref q3, .ref q5, .null, .null, .int 0, .null, .long 0, .null, .null, .null, .null])), (q1, .inr (3, [.ref (qs2 0), .int 0])), (qs2 0, .inl (cI, 40, .inl (fun _ => 0))), (q3, .inr (2, [.ref (qs4 0), .ref (qs4 1), .ref (qs4 2), .ref (qs4 3), .ref (qs4 4), .int 0])), (qs4 0, .inl (cI, 6, .inl (fun _ => 0))), (qs4 1, .inl (cI, 6, .inl (fun _ => 0))), (qs4 2, .inl (cI, 6, .inl (fun _ => 0))), (qs4 3, .inl (cI, 6, .inl (fun _ => 0))), (qs4 4, .inl (cI, 6, .inl (fun _ => 0))), (q5, .inr (0, [.int 0, .int 0, .int 0, .int 10, .int 10, .int 0, .int 1]))]) C hin inW4 tyX4 tyX4_ok nmX4 (ci := 4) rfl 0 2 rfl (by decide) k_1_129 rfl rfl rfl (ty := .object "EarFerry$Scene") (by decide +kernel) rfl rfl (Nat.le_of_ble_eq_true rfl) rfl dX4_init_34 ?_
  refine n_aload_n C dX4_init_37 rfl 0 rfl ?_
  refine n_new C inW1 tyX1 tyX1_ok k_1_99 k_1_100 k_1_5 (ci := 1) rfl [.null, .null, .null, .null, .int 0] (fun j hj => by rcases (show j = 0 ∨ j = 1 ∨ j = 2 ∨ j = 3 ∨ j = 4 by omega) with rfl | rfl | rfl | rfl | rfl <;> rfl) (by decide) (by decide) dX4_init_38 ?_
  intro q7
  refine n_dup C dX4_init_41 rfl ?_
  refine n_initN C (i := 10) (isR := [0, 1, 2, 3, 4, 5, 6, 7, 8, 9]) (wr := [(h0, .inr (4, [.ref q1, .ref q3, .ref q5, .null, .null, .int 0, .null, .long 0, .null, .null, .null, .null])), (q1, .inr (3, [.ref (qs2 0), .int 0])), (qs2 0, .inl (cI, 40, .inl (fun _ => 0))), (q3, .inr (2, [.ref (qs4 0), .ref (qs4 1), .ref (qs4 2), .ref (qs4 3), .ref (qs4 4), .int 0])), (qs4 0, .inl (cI, 6, .inl (fun _ => 0))), (qs4 1, .inl (cI, 6, .inl (fun _ => 0))), (qs4 2, .inl (cI, 6, .inl (fun _ => 0))), (qs4 3, .inl (cI, 6, .inl (fun _ => 0))), (qs4 4, .inl (cI, 6, .inl (fun _ => 0))), (q5, .inr (0, [.int 0, .int 0, .int 0, .int 10, .int 10, .int 0, .int 1]))]) (tX1_init (l := l) (dC := dC) (dI := dI) (cI := cI) (cZ := cZ)) NTrue_ok trivial rfl rfl (by decide) (by decide) hN.2.2.2 k_1_102 k_1_5 k_1_103 hiX1 ⟨rfl, rfl⟩ (by decide) (by decide) (Nat.le_of_ble_eq_true rfl) dX4_init_42 ?_
  intro qs8
  refine WN_eq (ws' := [(h0, .inr (4, [.ref q1, .ref q3, .ref q5, .null, .null, .int 0, .null, .long 0, .null, .null, .null, .null])), (q1, .inr (3, [.ref (qs2 0), .int 0])), (qs2 0, .inl (cI, 40, .inl (fun _ => 0))), (q3, .inr (2, [.ref (qs4 0), .ref (qs4 1), .ref (qs4 2), .ref (qs4 3), .ref (qs4 4), .int 0])), (qs4 0, .inl (cI, 6, .inl (fun _ => 0))), (qs4 1, .inl (cI, 6, .inl (fun _ => 0))), (qs4 2, .inl (cI, 6, .inl (fun _ => 0))), (qs4 3, .inl (cI, 6, .inl (fun _ => 0))), (qs4 4, .inl (cI, 6, .inl (fun _ => 0))), (q5, .inr (0, [.int 0, .int 0, .int 0, .int 10, .int 10, .int 0, .int 1])), (q7, .inr (1, [.ref (qs8 0), .ref (qs8 1), .ref (qs8 2), .ref (qs8 3), .int 0])), (qs8 0, .inl (cI, 6, .inl (fun _ => 0))), (qs8 1, .inl (cI, 6, .inl (fun _ => 0))), (qs8 2, .inl (cI, 6, .inl (fun _ => 0))), (qs8 3, .inl (cZ, 6, .inl (fun _ => 0)))]) rfl ?_
  refine n_putF (ws' := [(h0, .inr (4, [.ref q1, .ref q3, .ref q5, .ref q7, .null, .int 0, .null, .long 0, .null, .null, .null, .null])), (q1, .inr (3, [.ref (qs2 0), .int 0])), (qs2 0, .inl (cI, 40, .inl (fun _ => 0))), (q3, .inr (2, [.ref (qs4 0), .ref (qs4 1), .ref (qs4 2), .ref (qs4 3), .ref (qs4 4), .int 0])), (qs4 0, .inl (cI, 6, .inl (fun _ => 0))), (qs4 1, .inl (cI, 6, .inl (fun _ => 0))), (qs4 2, .inl (cI, 6, .inl (fun _ => 0))), (qs4 3, .inl (cI, 6, .inl (fun _ => 0))), (qs4 4, .inl (cI, 6, .inl (fun _ => 0))), (q5, .inr (0, [.int 0, .int 0, .int 0, .int 10, .int 10, .int 0, .int 1])), (q7, .inr (1, [.ref (qs8 0), .ref (qs8 1), .ref (qs8 2), .ref (qs8 3), .int 0])), (qs8 0, .inl (cI, 6, .inl (fun _ => 0))), (qs8 1, .inl (cI, 6, .inl (fun _ => 0))), (qs8 2, .inl (cI, 6, .inl (fun _ => 0))), (qs8 3, .inl (cZ, 6, .inl (fun _ => 0)))]) C hin inW4 tyX4 tyX4_ok nmX4 (ci := 4) rfl 0 3 rfl (by decide) k_1_130 rfl rfl rfl (ty := .object "EarFerry$Sightings") (by decide +kernel) rfl rfl (Nat.le_of_ble_eq_true rfl) rfl dX4_init_45 ?_
  refine n_aload_n C dX4_init_48 rfl 0 rfl ?_
  refine n_bipush (v := 14) C dX4_init_49 bi_14 ?_
  refine n_newa (atype := .int) C (ty := .int) k_1_32 rfl (by decide) 0 rfl 14 (by decide) (by decide) (by decide) (by decide) (by decide) dX4_init_51 ?_
  intro q9
  refine n_putF (ws' := [(h0, .inr (4, [.ref q1, .ref q3, .ref q5, .ref q7, .ref q9, .int 0, .null, .long 0, .null, .null, .null, .null])), (q1, .inr (3, [.ref (qs2 0), .int 0])), (qs2 0, .inl (cI, 40, .inl (fun _ => 0))), (q3, .inr (2, [.ref (qs4 0), .ref (qs4 1), .ref (qs4 2), .ref (qs4 3), .ref (qs4 4), .int 0])), (qs4 0, .inl (cI, 6, .inl (fun _ => 0))), (qs4 1, .inl (cI, 6, .inl (fun _ => 0))), (qs4 2, .inl (cI, 6, .inl (fun _ => 0))), (qs4 3, .inl (cI, 6, .inl (fun _ => 0))), (qs4 4, .inl (cI, 6, .inl (fun _ => 0))), (q5, .inr (0, [.int 0, .int 0, .int 0, .int 10, .int 10, .int 0, .int 1])), (q7, .inr (1, [.ref (qs8 0), .ref (qs8 1), .ref (qs8 2), .ref (qs8 3), .int 0])), (qs8 0, .inl (cI, 6, .inl (fun _ => 0))), (qs8 1, .inl (cI, 6, .inl (fun _ => 0))), (qs8 2, .inl (cI, 6, .inl (fun _ => 0))), (qs8 3, .inl (cZ, 6, .inl (fun _ => 0))), (q9, .inl (cI, 14, .inl (fun _ => 0)))]) C hin inW4 tyX4 tyX4_ok nmX4 (ci := 4) rfl 0 4 rfl (by decide) k_1_131 rfl rfl rfl (ty := .array .int) (by decide +kernel) rfl rfl (Nat.le_of_ble_eq_true rfl) rfl dX4_init_53 ?_
  refine n_aload_n C dX4_init_56 rfl 0 rfl ?_
  refine n_iconst (v := 0) C dX4_init_57 ic_0 ?_
  refine n_put (ws' := [(h0, .inr (4, [.ref q1, .ref q3, .ref q5, .ref q7, .ref q9, .int 0, .null, .long 0, .null, .null, .null, .null])), (q1, .inr (3, [.ref (qs2 0), .int 0])), (qs2 0, .inl (cI, 40, .inl (fun _ => 0))), (q3, .inr (2, [.ref (qs4 0), .ref (qs4 1), .ref (qs4 2), .ref (qs4 3), .ref (qs4 4), .int 0])), (qs4 0, .inl (cI, 6, .inl (fun _ => 0))), (qs4 1, .inl (cI, 6, .inl (fun _ => 0))), (qs4 2, .inl (cI, 6, .inl (fun _ => 0))), (qs4 3, .inl (cI, 6, .inl (fun _ => 0))), (qs4 4, .inl (cI, 6, .inl (fun _ => 0))), (q5, .inr (0, [.int 0, .int 0, .int 0, .int 10, .int 10, .int 0, .int 1])), (q7, .inr (1, [.ref (qs8 0), .ref (qs8 1), .ref (qs8 2), .ref (qs8 3), .int 0])), (qs8 0, .inl (cI, 6, .inl (fun _ => 0))), (qs8 1, .inl (cI, 6, .inl (fun _ => 0))), (qs8 2, .inl (cI, 6, .inl (fun _ => 0))), (qs8 3, .inl (cZ, 6, .inl (fun _ => 0))), (q9, .inl (cI, 14, .inl (fun _ => 0)))]) C inW4 tyX4 tyX4_ok nmX4 (ci := 4) rfl 0 5 rfl (by decide) k_1_132 rfl rfl (ty := .int) (by decide +kernel) rfl rfl (Nat.le_of_ble_eq_true rfl) rfl dX4_init_58 ?_
  refine n_aload_n C dX4_init_61 rfl 0 rfl ?_
  refine n_iconst (v := 2) C dX4_init_62 ic_2 ?_
  refine n_newa (atype := .int) C (ty := .int) k_1_32 rfl (by decide) 0 rfl 2 (by decide) (by decide) (by decide) (by decide) (by decide) dX4_init_63 ?_
  intro q10
  refine n_putF (ws' := [(h0, .inr (4, [.ref q1, .ref q3, .ref q5, .ref q7, .ref q9, .int 0, .ref q10, .long 0, .null, .null, .null, .null])), (q1, .inr (3, [.ref (qs2 0), .int 0])), (qs2 0, .inl (cI, 40, .inl (fun _ => 0))), (q3, .inr (2, [.ref (qs4 0), .ref (qs4 1), .ref (qs4 2), .ref (qs4 3), .ref (qs4 4), .int 0])), (qs4 0, .inl (cI, 6, .inl (fun _ => 0))), (qs4 1, .inl (cI, 6, .inl (fun _ => 0))), (qs4 2, .inl (cI, 6, .inl (fun _ => 0))), (qs4 3, .inl (cI, 6, .inl (fun _ => 0))), (qs4 4, .inl (cI, 6, .inl (fun _ => 0))), (q5, .inr (0, [.int 0, .int 0, .int 0, .int 10, .int 10, .int 0, .int 1])), (q7, .inr (1, [.ref (qs8 0), .ref (qs8 1), .ref (qs8 2), .ref (qs8 3), .int 0])), (qs8 0, .inl (cI, 6, .inl (fun _ => 0))), (qs8 1, .inl (cI, 6, .inl (fun _ => 0))), (qs8 2, .inl (cI, 6, .inl (fun _ => 0))), (qs8 3, .inl (cZ, 6, .inl (fun _ => 0))), (q9, .inl (cI, 14, .inl (fun _ => 0))), (q10, .inl (cI, 2, .inl (fun _ => 0)))]) C hin inW4 tyX4 tyX4_ok nmX4 (ci := 4) rfl 0 6 rfl (by decide) k_1_133 rfl rfl rfl (ty := .array .int) (by decide +kernel) rfl rfl (Nat.le_of_ble_eq_true rfl) rfl dX4_init_65 ?_
  refine n_aload_n C dX4_init_68 rfl 0 rfl ?_
  refine n_lconst (v := 0) C dX4_init_69 rfl ?_
  refine n_put (ws' := [(h0, .inr (4, [.ref q1, .ref q3, .ref q5, .ref q7, .ref q9, .int 0, .ref q10, .long 0, .null, .null, .null, .null])), (q1, .inr (3, [.ref (qs2 0), .int 0])), (qs2 0, .inl (cI, 40, .inl (fun _ => 0))), (q3, .inr (2, [.ref (qs4 0), .ref (qs4 1), .ref (qs4 2), .ref (qs4 3), .ref (qs4 4), .int 0])), (qs4 0, .inl (cI, 6, .inl (fun _ => 0))), (qs4 1, .inl (cI, 6, .inl (fun _ => 0))), (qs4 2, .inl (cI, 6, .inl (fun _ => 0))), (qs4 3, .inl (cI, 6, .inl (fun _ => 0))), (qs4 4, .inl (cI, 6, .inl (fun _ => 0))), (q5, .inr (0, [.int 0, .int 0, .int 0, .int 10, .int 10, .int 0, .int 1])), (q7, .inr (1, [.ref (qs8 0), .ref (qs8 1), .ref (qs8 2), .ref (qs8 3), .int 0])), (qs8 0, .inl (cI, 6, .inl (fun _ => 0))), (qs8 1, .inl (cI, 6, .inl (fun _ => 0))), (qs8 2, .inl (cI, 6, .inl (fun _ => 0))), (qs8 3, .inl (cZ, 6, .inl (fun _ => 0))), (q9, .inl (cI, 14, .inl (fun _ => 0))), (q10, .inl (cI, 2, .inl (fun _ => 0)))]) C inW4 tyX4 tyX4_ok nmX4 (ci := 4) rfl 0 7 rfl (by decide) k_1_134 rfl rfl (ty := .long) (by decide +kernel) rfl rfl (Nat.le_of_ble_eq_true rfl) rfl dX4_init_70 ?_
  refine n_aload_n C dX4_init_73 rfl 0 rfl ?_
  refine n_bipush (v := 10) C dX4_init_74 bi_10 ?_
  refine n_newa (atype := .int) C (ty := .int) k_1_32 rfl (by decide) 0 rfl 10 (by decide) (by decide) (by decide) (by decide) (by decide) dX4_init_76 ?_
  intro q11
  refine n_putF (ws' := [(h0, .inr (4, [.ref q1, .ref q3, .ref q5, .ref q7, .ref q9, .int 0, .ref q10, .long 0, .ref q11, .null, .null, .null])), (q1, .inr (3, [.ref (qs2 0), .int 0])), (qs2 0, .inl (cI, 40, .inl (fun _ => 0))), (q3, .inr (2, [.ref (qs4 0), .ref (qs4 1), .ref (qs4 2), .ref (qs4 3), .ref (qs4 4), .int 0])), (qs4 0, .inl (cI, 6, .inl (fun _ => 0))), (qs4 1, .inl (cI, 6, .inl (fun _ => 0))), (qs4 2, .inl (cI, 6, .inl (fun _ => 0))), (qs4 3, .inl (cI, 6, .inl (fun _ => 0))), (qs4 4, .inl (cI, 6, .inl (fun _ => 0))), (q5, .inr (0, [.int 0, .int 0, .int 0, .int 10, .int 10, .int 0, .int 1])), (q7, .inr (1, [.ref (qs8 0), .ref (qs8 1), .ref (qs8 2), .ref (qs8 3), .int 0])), (qs8 0, .inl (cI, 6, .inl (fun _ => 0))), (qs8 1, .inl (cI, 6, .inl (fun _ => 0))), (qs8 2, .inl (cI, 6, .inl (fun _ => 0))), (qs8 3, .inl (cZ, 6, .inl (fun _ => 0))), (q9, .inl (cI, 14, .inl (fun _ => 0))), (q10, .inl (cI, 2, .inl (fun _ => 0))), (q11, .inl (cI, 10, .inl (fun _ => 0)))]) C hin inW4 tyX4 tyX4_ok nmX4 (ci := 4) rfl 0 8 rfl (by decide) k_1_135 rfl rfl rfl (ty := .array .int) (by decide +kernel) rfl rfl (Nat.le_of_ble_eq_true rfl) rfl dX4_init_78 ?_
  refine n_aload_n C dX4_init_81 rfl 0 rfl ?_
  refine n_bipush (v := 10) C dX4_init_82 bi_10 ?_
  refine n_newa (atype := .int) C (ty := .int) k_1_32 rfl (by decide) 0 rfl 10 (by decide) (by decide) (by decide) (by decide) (by decide) dX4_init_84 ?_
  intro q12
  refine n_putF (ws' := [(h0, .inr (4, [.ref q1, .ref q3, .ref q5, .ref q7, .ref q9, .int 0, .ref q10, .long 0, .ref q11, .ref q12, .null, .null])), (q1, .inr (3, [.ref (qs2 0), .int 0])), (qs2 0, .inl (cI, 40, .inl (fun _ => 0))), (q3, .inr (2, [.ref (qs4 0), .ref (qs4 1), .ref (qs4 2), .ref (qs4 3), .ref (qs4 4), .int 0])), (qs4 0, .inl (cI, 6, .inl (fun _ => 0))), (qs4 1, .inl (cI, 6, .inl (fun _ => 0))), (qs4 2, .inl (cI, 6, .inl (fun _ => 0))), (qs4 3, .inl (cI, 6, .inl (fun _ => 0))), (qs4 4, .inl (cI, 6, .inl (fun _ => 0))), (q5, .inr (0, [.int 0, .int 0, .int 0, .int 10, .int 10, .int 0, .int 1])), (q7, .inr (1, [.ref (qs8 0), .ref (qs8 1), .ref (qs8 2), .ref (qs8 3), .int 0])), (qs8 0, .inl (cI, 6, .inl (fun _ => 0))), (qs8 1, .inl (cI, 6, .inl (fun _ => 0))), (qs8 2, .inl (cI, 6, .inl (fun _ => 0))), (qs8 3, .inl (cZ, 6, .inl (fun _ => 0))), (q9, .inl (cI, 14, .inl (fun _ => 0))), (q10, .inl (cI, 2, .inl (fun _ => 0))), (q11, .inl (cI, 10, .inl (fun _ => 0))), (q12, .inl (cI, 10, .inl (fun _ => 0)))]) C hin inW4 tyX4 tyX4_ok nmX4 (ci := 4) rfl 0 9 rfl (by decide) k_1_136 rfl rfl rfl (ty := .array .int) (by decide +kernel) rfl rfl (Nat.le_of_ble_eq_true rfl) rfl dX4_init_86 ?_
  refine n_aload_n C dX4_init_89 rfl 0 rfl ?_
  refine n_bipush (v := 10) C dX4_init_90 bi_10 ?_
  refine n_newa (atype := .int) C (ty := .int) k_1_32 rfl (by decide) 0 rfl 10 (by decide) (by decide) (by decide) (by decide) (by decide) dX4_init_92 ?_
  intro q13
  refine n_putF (ws' := [(h0, .inr (4, [.ref q1, .ref q3, .ref q5, .ref q7, .ref q9, .int 0, .ref q10, .long 0, .ref q11, .ref q12, .ref q13, .null])), (q1, .inr (3, [.ref (qs2 0), .int 0])), (qs2 0, .inl (cI, 40, .inl (fun _ => 0))), (q3, .inr (2, [.ref (qs4 0), .ref (qs4 1), .ref (qs4 2), .ref (qs4 3), .ref (qs4 4), .int 0])), (qs4 0, .inl (cI, 6, .inl (fun _ => 0))), (qs4 1, .inl (cI, 6, .inl (fun _ => 0))), (qs4 2, .inl (cI, 6, .inl (fun _ => 0))), (qs4 3, .inl (cI, 6, .inl (fun _ => 0))), (qs4 4, .inl (cI, 6, .inl (fun _ => 0))), (q5, .inr (0, [.int 0, .int 0, .int 0, .int 10, .int 10, .int 0, .int 1])), (q7, .inr (1, [.ref (qs8 0), .ref (qs8 1), .ref (qs8 2), .ref (qs8 3), .int 0])), (qs8 0, .inl (cI, 6, .inl (fun _ => 0))), (qs8 1, .inl (cI, 6, .inl (fun _ => 0))), (qs8 2, .inl (cI, 6, .inl (fun _ => 0))), (qs8 3, .inl (cZ, 6, .inl (fun _ => 0))), (q9, .inl (cI, 14, .inl (fun _ => 0))), (q10, .inl (cI, 2, .inl (fun _ => 0))), (q11, .inl (cI, 10, .inl (fun _ => 0))), (q12, .inl (cI, 10, .inl (fun _ => 0))), (q13, .inl (cI, 10, .inl (fun _ => 0)))]) C hin inW4 tyX4 tyX4_ok nmX4 (ci := 4) rfl 0 10 rfl (by decide) k_1_137 rfl rfl rfl (ty := .array .int) (by decide +kernel) rfl rfl (Nat.le_of_ble_eq_true rfl) rfl dX4_init_94 ?_
  refine n_aload_n C dX4_init_97 rfl 0 rfl ?_
  refine n_bipush (v := 121) C dX4_init_98 bi_121 ?_
  refine n_newa (atype := .int) C (ty := .int) k_1_32 rfl (by decide) 0 rfl 121 (by decide) (by decide) (by decide) (by decide) (by decide) dX4_init_100 ?_
  intro q14
  refine n_putF (ws' := [(h0, .inr (4, [.ref q1, .ref q3, .ref q5, .ref q7, .ref q9, .int 0, .ref q10, .long 0, .ref q11, .ref q12, .ref q13, .ref q14])), (q1, .inr (3, [.ref (qs2 0), .int 0])), (qs2 0, .inl (cI, 40, .inl (fun _ => 0))), (q3, .inr (2, [.ref (qs4 0), .ref (qs4 1), .ref (qs4 2), .ref (qs4 3), .ref (qs4 4), .int 0])), (qs4 0, .inl (cI, 6, .inl (fun _ => 0))), (qs4 1, .inl (cI, 6, .inl (fun _ => 0))), (qs4 2, .inl (cI, 6, .inl (fun _ => 0))), (qs4 3, .inl (cI, 6, .inl (fun _ => 0))), (qs4 4, .inl (cI, 6, .inl (fun _ => 0))), (q5, .inr (0, [.int 0, .int 0, .int 0, .int 10, .int 10, .int 0, .int 1])), (q7, .inr (1, [.ref (qs8 0), .ref (qs8 1), .ref (qs8 2), .ref (qs8 3), .int 0])), (qs8 0, .inl (cI, 6, .inl (fun _ => 0))), (qs8 1, .inl (cI, 6, .inl (fun _ => 0))), (qs8 2, .inl (cI, 6, .inl (fun _ => 0))), (qs8 3, .inl (cZ, 6, .inl (fun _ => 0))), (q9, .inl (cI, 14, .inl (fun _ => 0))), (q10, .inl (cI, 2, .inl (fun _ => 0))), (q11, .inl (cI, 10, .inl (fun _ => 0))), (q12, .inl (cI, 10, .inl (fun _ => 0))), (q13, .inl (cI, 10, .inl (fun _ => 0))), (q14, .inl (cI, 121, .inl (fun _ => 0)))]) C hin inW4 tyX4 tyX4_ok nmX4 (ci := 4) rfl 0 11 rfl (by decide) k_1_138 rfl rfl rfl (ty := .array .int) (by decide +kernel) rfl rfl (Nat.le_of_ble_eq_true rfl) rfl dX4_init_102 ?_
  refine n_aload_n C dX4_init_105 rfl 0 rfl ?_
  refine n_get C inW4 (ci := 4) rfl 0 6 rfl (by decide) k_1_133 rfl rfl dX4_init_106 ?_
  refine n_iconst (v := 0) C dX4_init_109 ic_0 ?_
  refine n_iconst (v := (-1)) C dX4_init_110 ic_m1 ?_
  refine n_iast (ws' := [(h0, .inr (4, [.ref q1, .ref q3, .ref q5, .ref q7, .ref q9, .int 0, .ref q10, .long 0, .ref q11, .ref q12, .ref q13, .ref q14])), (q1, .inr (3, [.ref (qs2 0), .int 0])), (qs2 0, .inl (cI, 40, .inl (fun _ => 0))), (q3, .inr (2, [.ref (qs4 0), .ref (qs4 1), .ref (qs4 2), .ref (qs4 3), .ref (qs4 4), .int 0])), (qs4 0, .inl (cI, 6, .inl (fun _ => 0))), (qs4 1, .inl (cI, 6, .inl (fun _ => 0))), (qs4 2, .inl (cI, 6, .inl (fun _ => 0))), (qs4 3, .inl (cI, 6, .inl (fun _ => 0))), (qs4 4, .inl (cI, 6, .inl (fun _ => 0))), (q5, .inr (0, [.int 0, .int 0, .int 0, .int 10, .int 10, .int 0, .int 1])), (q7, .inr (1, [.ref (qs8 0), .ref (qs8 1), .ref (qs8 2), .ref (qs8 3), .int 0])), (qs8 0, .inl (cI, 6, .inl (fun _ => 0))), (qs8 1, .inl (cI, 6, .inl (fun _ => 0))), (qs8 2, .inl (cI, 6, .inl (fun _ => 0))), (qs8 3, .inl (cZ, 6, .inl (fun _ => 0))), (q9, .inl (cI, 14, .inl (fun _ => 0))), (q10, .inl (cI, 2, .inl (upd (fun _ => 0) 0 (-1)))), (q11, .inl (cI, 10, .inl (fun _ => 0))), (q12, .inl (cI, 10, .inl (fun _ => 0))), (q13, .inl (cI, 10, .inl (fun _ => 0))), (q14, .inl (cI, 121, .inl (fun _ => 0)))]) C 16 0 rfl rfl (by decide) 0 (by decide) rfl dX4_init_111 ?_
  refine n_aload_n C dX4_init_112 rfl 0 rfl ?_
  refine n_get C inW4 (ci := 4) rfl 0 6 rfl (by decide) k_1_133 rfl rfl dX4_init_113 ?_
  refine n_iconst (v := 1) C dX4_init_116 ic_1 ?_
  refine n_iconst (v := (-1)) C dX4_init_117 ic_m1 ?_
  refine n_iast (ws' := [(h0, .inr (4, [.ref q1, .ref q3, .ref q5, .ref q7, .ref q9, .int 0, .ref q10, .long 0, .ref q11, .ref q12, .ref q13, .ref q14])), (q1, .inr (3, [.ref (qs2 0), .int 0])), (qs2 0, .inl (cI, 40, .inl (fun _ => 0))), (q3, .inr (2, [.ref (qs4 0), .ref (qs4 1), .ref (qs4 2), .ref (qs4 3), .ref (qs4 4), .int 0])), (qs4 0, .inl (cI, 6, .inl (fun _ => 0))), (qs4 1, .inl (cI, 6, .inl (fun _ => 0))), (qs4 2, .inl (cI, 6, .inl (fun _ => 0))), (qs4 3, .inl (cI, 6, .inl (fun _ => 0))), (qs4 4, .inl (cI, 6, .inl (fun _ => 0))), (q5, .inr (0, [.int 0, .int 0, .int 0, .int 10, .int 10, .int 0, .int 1])), (q7, .inr (1, [.ref (qs8 0), .ref (qs8 1), .ref (qs8 2), .ref (qs8 3), .int 0])), (qs8 0, .inl (cI, 6, .inl (fun _ => 0))), (qs8 1, .inl (cI, 6, .inl (fun _ => 0))), (qs8 2, .inl (cI, 6, .inl (fun _ => 0))), (qs8 3, .inl (cZ, 6, .inl (fun _ => 0))), (q9, .inl (cI, 14, .inl (fun _ => 0))), (q10, .inl (cI, 2, .inl (upd (upd (fun _ => 0) 0 (-1)) 1 (-1)))), (q11, .inl (cI, 10, .inl (fun _ => 0))), (q12, .inl (cI, 10, .inl (fun _ => 0))), (q13, .inl (cI, 10, .inl (fun _ => 0))), (q14, .inl (cI, 121, .inl (fun _ => 0)))]) C 16 0 rfl rfl (by decide) 1 (by decide) rfl dX4_init_118 ?_
  exact n_ret (fin := finX4 cI cZ) C (fun i => [h0, q1, qs2 0, q3, qs4 0, qs4 1, qs4 2, qs4 3, qs4 4, q5, q7, qs8 0, qs8 1, qs8 2, qs8 3, q9, q10, q11, q12, q13, q14].getD i 0) [0, 1, 2, 3, 4, 5, 6, 7, 8, 9, 10, 11, 12, 13, 14, 15, 16, 17, 18, 19, 20] rfl (by decide) dX4_init_119
theorem hiX5 : yX5_init.name = "<init>" ∧ yX5_init.cls ≠ "java/lang/invoke/MethodHandle" ∧ yX5_init.cls ≠ "java/lang/invoke/VarHandle" ∧ (parseMethodDescriptor yX5_init.desc).map (fun d => d.parameters.length) = some 0 := by decide +kernel
abbrev rmX5_init : Room := { frames := 1, cells := 15, slots := 465, locals := 20 }
set_option maxRecDepth 100000 in
set_option maxHeartbeats 4000000 in
theorem tX5_init {l : Launch} {dC : Nat → ClassId} {dI : Nat → Nat → Nat} {cI cZ : ClassId} : NCon l yX5_init cX5_init rmX5_init (dC, dI) [(cI, .int), (cZ, .boolean)] NTrue 5 [.int 0, .null, .int 0, .int 0, .int 0, .null, .int 0, .int 0, .int 0, .int 0, .null, .null, .null, .null, .int 0, .null, .null, .int 0, .null, .null, .null, .null, .long 0, .null, .null, .null, .int 0, .int 0, .int 0, .int 0, .int 0, .int 0] (finX5 cI cZ) 15 465 := by
  refine n_con (by decide) ?_
  intro h0 p e s m args below meth c C hN hin
  refine n_aload_n C dX5_init_0 rfl 0 rfl ?_
  refine n_obj C k_3_8 k_1_15 k_1_16 dX5_init_1 (by decide) (by decide) ?_
  refine n_aload_n C dX5_init_4 rfl 0 rfl ?_
  refine n_bipush (v := 40) C dX5_init_5 bi_40 ?_
  refine n_newa (atype := .int) C (ty := .int) k_1_32 rfl (by decide) 0 rfl 40 (by decide) (by decide) (by decide) (by decide) (by decide) dX5_init_7 ?_
  intro q1
  refine n_putF (ws' := [(h0, .inr (5, [.int 0, .ref q1, .int 0, .int 0, .int 0, .null, .int 0, .int 0, .int 0, .int 0, .null, .null, .null, .null, .int 0, .null, .null, .int 0, .null, .null, .null, .null, .long 0, .null, .null, .null, .int 0, .int 0, .int 0, .int 0, .int 0, .int 0])), (q1, .inl (cI, 40, .inl (fun _ => 0)))]) C hin inW5 tyX5 tyX5_ok nmX5 (ci := 5) rfl 0 1 rfl (by decide) k_3_10 rfl rfl rfl (ty := .array .int) (by decide +kernel) rfl rfl (Nat.le_of_ble_eq_true rfl) rfl dX5_init_9 ?_
  refine n_aload_n C dX5_init_12 rfl 0 rfl ?_
  refine n_bipush (v := 30) C dX5_init_13 bi_30 ?_
  refine n_newa (atype := .int) C (ty := .int) k_1_32 rfl (by decide) 0 rfl 30 (by decide) (by decide) (by decide) (by decide) (by decide) dX5_init_15 ?_
  intro q2
  refine n_putF (ws' := [(h0, .inr (5, [.int 0, .ref q1, .int 0, .int 0, .int 0, .ref q2, .int 0, .int 0, .int 0, .int 0, .null, .null, .null, .null, .int 0, .null, .null, .int 0, .null, .null, .null, .null, .long 0, .null, .null, .null, .int 0, .int 0, .int 0, .int 0, .int 0, .int 0])), (q1, .inl (cI, 40, .inl (fun _ => 0))), (q2, .inl (cI, 30, .inl (fun _ => 0)))]) C hin inW5 tyX5 tyX5_ok nmX5 (ci := 5) rfl 0 5 rfl (by decide) k_3_14 rfl rfl rfl (ty := .array .int) (by decide +kernel) rfl rfl (Nat.le_of_ble_eq_true rfl) rfl dX5_init_17 ?_
  refine n_aload_n C dX5_init_20 rfl 0 rfl ?_
  refine n_bipush (v := 30) C dX5_init_21 bi_30 ?_
  refine n_newa (atype := .int) C (ty := .int) k_1_32 rfl (by decide) 0 rfl 30 (by decide) (by decide) (by decide) (by decide) (by decide) dX5_init_23 ?_
  intro q3
  refine n_putF (ws' := [(h0, .inr (5, [.int 0, .ref q1, .int 0, .int 0, .int 0, .ref q2, .int 0, .int 0, .int 0, .int 0, .ref q3, .null, .null, .null, .int 0, .null, .null, .int 0, .null, .null, .null, .null, .long 0, .null, .null, .null, .int 0, .int 0, .int 0, .int 0, .int 0, .int 0])), (q1, .inl (cI, 40, .inl (fun _ => 0))), (q2, .inl (cI, 30, .inl (fun _ => 0))), (q3, .inl (cI, 30, .inl (fun _ => 0)))]) C hin inW5 tyX5 tyX5_ok nmX5 (ci := 5) rfl 0 10 rfl (by decide) k_3_19 rfl rfl rfl (ty := .array .int) (by decide +kernel) rfl rfl (Nat.le_of_ble_eq_true rfl) rfl dX5_init_25 ?_
  refine n_aload_n C dX5_init_28 rfl 0 rfl ?_
  refine n_bipush (v := 8) C dX5_init_29 bi_8 ?_
  refine n_newa (atype := .int) C (ty := .int) k_1_32 rfl (by decide) 0 rfl 8 (by decide) (by decide) (by decide) (by decide) (by decide) dX5_init_31 ?_
  intro q4
  refine n_putF (ws' := [(h0, .inr (5, [.int 0, .ref q1, .int 0, .int 0, .int 0, .ref q2, .int 0, .int 0, .int 0, .int 0, .ref q3, .ref q4, .null, .null, .int 0, .null, .null, .int 0, .null, .null, .null, .null, .long 0, .null, .null, .null, .int 0, .int 0, .int 0, .int 0, .int 0, .int 0])), (q1, .inl (cI, 40, .inl (fun _ => 0))), (q2, .inl (cI, 30, .inl (fun _ => 0))), (q3, .inl (cI, 30, .inl (fun _ => 0))), (q4, .inl (cI, 8, .inl (fun _ => 0)))]) C hin inW5 tyX5 tyX5_ok nmX5 (ci := 5) rfl 0 11 rfl (by decide) k_3_20 rfl rfl rfl (ty := .array .int) (by decide +kernel) rfl rfl (Nat.le_of_ble_eq_true rfl) rfl dX5_init_33 ?_
  refine n_aload_n C dX5_init_36 rfl 0 rfl ?_
  refine n_bipush (v := 8) C dX5_init_37 bi_8 ?_
  refine n_newa (atype := .int) C (ty := .int) k_1_32 rfl (by decide) 0 rfl 8 (by decide) (by decide) (by decide) (by decide) (by decide) dX5_init_39 ?_
  intro q5
  refine n_putF (ws' := [(h0, .inr (5, [.int 0, .ref q1, .int 0, .int 0, .int 0, .ref q2, .int 0, .int 0, .int 0, .int 0, .ref q3, .ref q4, .ref q5, .null, .int 0, .null, .null, .int 0, .null, .null, .null, .null, .long 0, .null, .null, .null, .int 0, .int 0, .int 0, .int 0, .int 0, .int 0])), (q1, .inl (cI, 40, .inl (fun _ => 0))), (q2, .inl (cI, 30, .inl (fun _ => 0))), (q3, .inl (cI, 30, .inl (fun _ => 0))), (q4, .inl (cI, 8, .inl (fun _ => 0))), (q5, .inl (cI, 8, .inl (fun _ => 0)))]) C hin inW5 tyX5 tyX5_ok nmX5 (ci := 5) rfl 0 12 rfl (by decide) k_3_21 rfl rfl rfl (ty := .array .int) (by decide +kernel) rfl rfl (Nat.le_of_ble_eq_true rfl) rfl dX5_init_41 ?_
  refine n_aload_n C dX5_init_44 rfl 0 rfl ?_
  refine n_bipush (v := 112) C dX5_init_45 bi_112 ?_
  refine n_newa (atype := .int) C (ty := .int) k_1_32 rfl (by decide) 0 rfl 112 (by decide) (by decide) (by decide) (by decide) (by decide) dX5_init_47 ?_
  intro q6
  refine n_putF (ws' := [(h0, .inr (5, [.int 0, .ref q1, .int 0, .int 0, .int 0, .ref q2, .int 0, .int 0, .int 0, .int 0, .ref q3, .ref q4, .ref q5, .ref q6, .int 0, .null, .null, .int 0, .null, .null, .null, .null, .long 0, .null, .null, .null, .int 0, .int 0, .int 0, .int 0, .int 0, .int 0])), (q1, .inl (cI, 40, .inl (fun _ => 0))), (q2, .inl (cI, 30, .inl (fun _ => 0))), (q3, .inl (cI, 30, .inl (fun _ => 0))), (q4, .inl (cI, 8, .inl (fun _ => 0))), (q5, .inl (cI, 8, .inl (fun _ => 0))), (q6, .inl (cI, 112, .inl (fun _ => 0)))]) C hin inW5 tyX5 tyX5_ok nmX5 (ci := 5) rfl 0 13 rfl (by decide) k_3_22 rfl rfl rfl (ty := .array .int) (by decide +kernel) rfl rfl (Nat.le_of_ble_eq_true rfl) rfl dX5_init_49 ?_
  refine n_aload_n C dX5_init_52 rfl 0 rfl ?_
  refine n_bipush (v := 16) C dX5_init_53 bi_16 ?_
  refine n_newa (atype := .int) C (ty := .int) k_1_32 rfl (by decide) 0 rfl 16 (by decide) (by decide) (by decide) (by decide) (by decide) dX5_init_55 ?_
  intro q7
  refine n_putF (ws' := [(h0, .inr (5, [.int 0, .ref q1, .int 0, .int 0, .int 0, .ref q2, .int 0, .int 0, .int 0, .int 0, .ref q3, .ref q4, .ref q5, .ref q6, .int 0, .ref q7, .null, .int 0, .null, .null, .null, .null, .long 0, .null, .null, .null, .int 0, .int 0, .int 0, .int 0, .int 0, .int 0])), (q1, .inl (cI, 40, .inl (fun _ => 0))), (q2, .inl (cI, 30, .inl (fun _ => 0))), (q3, .inl (cI, 30, .inl (fun _ => 0))), (q4, .inl (cI, 8, .inl (fun _ => 0))), (q5, .inl (cI, 8, .inl (fun _ => 0))), (q6, .inl (cI, 112, .inl (fun _ => 0))), (q7, .inl (cI, 16, .inl (fun _ => 0)))]) C hin inW5 tyX5 tyX5_ok nmX5 (ci := 5) rfl 0 15 rfl (by decide) k_3_24 rfl rfl rfl (ty := .array .int) (by decide +kernel) rfl rfl (Nat.le_of_ble_eq_true rfl) rfl dX5_init_57 ?_
  refine n_aload_n C dX5_init_60 rfl 0 rfl ?_
  refine n_iconst (v := 2) C dX5_init_61 ic_2 ?_
  refine n_newa (atype := .boolean) C (ty := .boolean) k_1_126 rfl (by decide) 1 rfl 2 (by decide) (by decide) (by decide) (by decide) (by decide) dX5_init_62 ?_
  intro q8
  refine n_putF (ws' := [(h0, .inr (5, [.int 0, .ref q1, .int 0, .int 0, .int 0, .ref q2, .int 0, .int 0, .int 0, .int 0, .ref q3, .ref q4, .ref q5, .ref q6, .int 0, .ref q7, .ref q8, .int 0, .null, .null, .null, .null, .long 0, .null, .null, .null, .int 0, .int 0, .int 0, .int 0, .int 0, .int 0])), (q1, .inl (cI, 40, .inl (fun _ => 0))), (q2, .inl (cI, 30, .inl (fun _ => 0))), (q3, .inl (cI, 30, .inl (fun _ => 0))), (q4, .inl (cI, 8, .inl (fun _ => 0))), (q5, .inl (cI, 8, .inl (fun _ => 0))), (q6, .inl (cI, 112, .inl (fun _ => 0))), (q7, .inl (cI, 16, .inl (fun _ => 0))), (q8, .inl (cZ, 2, .inl (fun _ => 0)))]) C hin inW5 tyX5 tyX5_ok nmX5 (ci := 5) rfl 0 16 rfl (by decide) k_3_25 rfl rfl rfl (ty := .array .boolean) (by decide +kernel) rfl rfl (Nat.le_of_ble_eq_true rfl) rfl dX5_init_64 ?_
  refine n_aload_n C dX5_init_67 rfl 0 rfl ?_
  refine n_bipush (v := 6) C dX5_init_68 bi_6 ?_
  refine n_newa (atype := .int) C (ty := .int) k_1_32 rfl (by decide) 0 rfl 6 (by decide) (by decide) (by decide) (by decide) (by decide) dX5_init_70 ?_
  intro q9
  refine n_putF (ws' := [(h0, .inr (5, [.int 0, .ref q1, .int 0, .int 0, .int 0, .ref q2, .int 0, .int 0, .int 0, .int 0, .ref q3, .ref q4, .ref q5, .ref q6, .int 0, .ref q7, .ref q8, .int 0, .ref q9, .null, .null, .null, .long 0, .null, .null, .null, .int 0, .int 0, .int 0, .int 0, .int 0, .int 0])), (q1, .inl (cI, 40, .inl (fun _ => 0))), (q2, .inl (cI, 30, .inl (fun _ => 0))), (q3, .inl (cI, 30, .inl (fun _ => 0))), (q4, .inl (cI, 8, .inl (fun _ => 0))), (q5, .inl (cI, 8, .inl (fun _ => 0))), (q6, .inl (cI, 112, .inl (fun _ => 0))), (q7, .inl (cI, 16, .inl (fun _ => 0))), (q8, .inl (cZ, 2, .inl (fun _ => 0))), (q9, .inl (cI, 6, .inl (fun _ => 0)))]) C hin inW5 tyX5 tyX5_ok nmX5 (ci := 5) rfl 0 18 rfl (by decide) k_3_27 rfl rfl rfl (ty := .array .int) (by decide +kernel) rfl rfl (Nat.le_of_ble_eq_true rfl) rfl dX5_init_72 ?_
  refine n_aload_n C dX5_init_75 rfl 0 rfl ?_
  refine n_bipush (v := 6) C dX5_init_76 bi_6 ?_
  refine n_newa (atype := .int) C (ty := .int) k_1_32 rfl (by decide) 0 rfl 6 (by decide) (by decide) (by decide) (by decide) (by decide) dX5_init_78 ?_
  intro q10
  refine n_putF (ws' := [(h0, .inr (5, [.int 0, .ref q1, .int 0, .int 0, .int 0, .ref q2, .int 0, .int 0, .int 0, .int 0, .ref q3, .ref q4, .ref q5, .ref q6, .int 0, .ref q7, .ref q8, .int 0, .ref q9, .ref q10, .null, .null, .long 0, .null, .null, .null, .int 0, .int 0, .int 0, .int 0, .int 0, .int 0])), (q1, .inl (cI, 40, .inl (fun _ => 0))), (q2, .inl (cI, 30, .inl (fun _ => 0))), (q3, .inl (cI, 30, .inl (fun _ => 0))), (q4, .inl (cI, 8, .inl (fun _ => 0))), (q5, .inl (cI, 8, .inl (fun _ => 0))), (q6, .inl (cI, 112, .inl (fun _ => 0))), (q7, .inl (cI, 16, .inl (fun _ => 0))), (q8, .inl (cZ, 2, .inl (fun _ => 0))), (q9, .inl (cI, 6, .inl (fun _ => 0))), (q10, .inl (cI, 6, .inl (fun _ => 0)))]) C hin inW5 tyX5 tyX5_ok nmX5 (ci := 5) rfl 0 19 rfl (by decide) k_3_28 rfl rfl rfl (ty := .array .int) (by decide +kernel) rfl rfl (Nat.le_of_ble_eq_true rfl) rfl dX5_init_80 ?_
  refine n_aload_n C dX5_init_83 rfl 0 rfl ?_
  refine n_bipush (v := 6) C dX5_init_84 bi_6 ?_
  refine n_newa (atype := .int) C (ty := .int) k_1_32 rfl (by decide) 0 rfl 6 (by decide) (by decide) (by decide) (by decide) (by decide) dX5_init_86 ?_
  intro q11
  refine n_putF (ws' := [(h0, .inr (5, [.int 0, .ref q1, .int 0, .int 0, .int 0, .ref q2, .int 0, .int 0, .int 0, .int 0, .ref q3, .ref q4, .ref q5, .ref q6, .int 0, .ref q7, .ref q8, .int 0, .ref q9, .ref q10, .ref q11, .null, .long 0, .null, .null, .null, .int 0, .int 0, .int 0, .int 0, .int 0, .int 0])), (q1, .inl (cI, 40, .inl (fun _ => 0))), (q2, .inl (cI, 30, .inl (fun _ => 0))), (q3, .inl (cI, 30, .inl (fun _ => 0))), (q4, .inl (cI, 8, .inl (fun _ => 0))), (q5, .inl (cI, 8, .inl (fun _ => 0))), (q6, .inl (cI, 112, .inl (fun _ => 0))), (q7, .inl (cI, 16, .inl (fun _ => 0))), (q8, .inl (cZ, 2, .inl (fun _ => 0))), (q9, .inl (cI, 6, .inl (fun _ => 0))), (q10, .inl (cI, 6, .inl (fun _ => 0))), (q11, .inl (cI, 6, .inl (fun _ => 0)))]) C hin inW5 tyX5 tyX5_ok nmX5 (ci := 5) rfl 0 20 rfl (by decide) k_3_29 rfl rfl rfl (ty := .array .int) (by decide +kernel) rfl rfl (Nat.le_of_ble_eq_true rfl) rfl dX5_init_88 ?_
  refine n_aload_n C dX5_init_91 rfl 0 rfl ?_
  refine n_bipush (v := 6) C dX5_init_92 bi_6 ?_
  refine n_newa (atype := .boolean) C (ty := .boolean) k_1_126 rfl (by decide) 1 rfl 6 (by decide) (by decide) (by decide) (by decide) (by decide) dX5_init_94 ?_
  intro q12
  refine n_putF (ws' := [(h0, .inr (5, [.int 0, .ref q1, .int 0, .int 0, .int 0, .ref q2, .int 0, .int 0, .int 0, .int 0, .ref q3, .ref q4, .ref q5, .ref q6, .int 0, .ref q7, .ref q8, .int 0, .ref q9, .ref q10, .ref q11, .ref q12, .long 0, .null, .null, .null, .int 0, .int 0, .int 0, .int 0, .int 0, .int 0])), (q1, .inl (cI, 40, .inl (fun _ => 0))), (q2, .inl (cI, 30, .inl (fun _ => 0))), (q3, .inl (cI, 30, .inl (fun _ => 0))), (q4, .inl (cI, 8, .inl (fun _ => 0))), (q5, .inl (cI, 8, .inl (fun _ => 0))), (q6, .inl (cI, 112, .inl (fun _ => 0))), (q7, .inl (cI, 16, .inl (fun _ => 0))), (q8, .inl (cZ, 2, .inl (fun _ => 0))), (q9, .inl (cI, 6, .inl (fun _ => 0))), (q10, .inl (cI, 6, .inl (fun _ => 0))), (q11, .inl (cI, 6, .inl (fun _ => 0))), (q12, .inl (cZ, 6, .inl (fun _ => 0)))]) C hin inW5 tyX5 tyX5_ok nmX5 (ci := 5) rfl 0 21 rfl (by decide) k_3_30 rfl rfl rfl (ty := .array .boolean) (by decide +kernel) rfl rfl (Nat.le_of_ble_eq_true rfl) rfl dX5_init_96 ?_
  refine n_aload_n C dX5_init_99 rfl 0 rfl ?_
  refine n_bipush (v := 10) C dX5_init_100 bi_10 ?_
  refine n_newa (atype := .int) C (ty := .int) k_1_32 rfl (by decide) 0 rfl 10 (by decide) (by decide) (by decide) (by decide) (by decide) dX5_init_102 ?_
  intro q13
  refine n_putF (ws' := [(h0, .inr (5, [.int 0, .ref q1, .int 0, .int 0, .int 0, .ref q2, .int 0, .int 0, .int 0, .int 0, .ref q3, .ref q4, .ref q5, .ref q6, .int 0, .ref q7, .ref q8, .int 0, .ref q9, .ref q10, .ref q11, .ref q12, .long 0, .ref q13, .null, .null, .int 0, .int 0, .int 0, .int 0, .int 0, .int 0])), (q1, .inl (cI, 40, .inl (fun _ => 0))), (q2, .inl (cI, 30, .inl (fun _ => 0))), (q3, .inl (cI, 30, .inl (fun _ => 0))), (q4, .inl (cI, 8, .inl (fun _ => 0))), (q5, .inl (cI, 8, .inl (fun _ => 0))), (q6, .inl (cI, 112, .inl (fun _ => 0))), (q7, .inl (cI, 16, .inl (fun _ => 0))), (q8, .inl (cZ, 2, .inl (fun _ => 0))), (q9, .inl (cI, 6, .inl (fun _ => 0))), (q10, .inl (cI, 6, .inl (fun _ => 0))), (q11, .inl (cI, 6, .inl (fun _ => 0))), (q12, .inl (cZ, 6, .inl (fun _ => 0))), (q13, .inl (cI, 10, .inl (fun _ => 0)))]) C hin inW5 tyX5 tyX5_ok nmX5 (ci := 5) rfl 0 23 rfl (by decide) k_3_32 rfl rfl rfl (ty := .array .int) (by decide +kernel) rfl rfl (Nat.le_of_ble_eq_true rfl) rfl dX5_init_104 ?_
  refine n_aload_n C dX5_init_107 rfl 0 rfl ?_
  refine n_bipush (v := 64) C dX5_init_108 bi_64 ?_
  refine n_newa (atype := .int) C (ty := .int) k_1_32 rfl (by decide) 0 rfl 64 (by decide) (by decide) (by decide) (by decide) (by decide) dX5_init_110 ?_
  intro q14
  refine n_putF (ws' := [(h0, .inr (5, [.int 0, .ref q1, .int 0, .int 0, .int 0, .ref q2, .int 0, .int 0, .int 0, .int 0, .ref q3, .ref q4, .ref q5, .ref q6, .int 0, .ref q7, .ref q8, .int 0, .ref q9, .ref q10, .ref q11, .ref q12, .long 0, .ref q13, .ref q14, .null, .int 0, .int 0, .int 0, .int 0, .int 0, .int 0])), (q1, .inl (cI, 40, .inl (fun _ => 0))), (q2, .inl (cI, 30, .inl (fun _ => 0))), (q3, .inl (cI, 30, .inl (fun _ => 0))), (q4, .inl (cI, 8, .inl (fun _ => 0))), (q5, .inl (cI, 8, .inl (fun _ => 0))), (q6, .inl (cI, 112, .inl (fun _ => 0))), (q7, .inl (cI, 16, .inl (fun _ => 0))), (q8, .inl (cZ, 2, .inl (fun _ => 0))), (q9, .inl (cI, 6, .inl (fun _ => 0))), (q10, .inl (cI, 6, .inl (fun _ => 0))), (q11, .inl (cI, 6, .inl (fun _ => 0))), (q12, .inl (cZ, 6, .inl (fun _ => 0))), (q13, .inl (cI, 10, .inl (fun _ => 0))), (q14, .inl (cI, 64, .inl (fun _ => 0)))]) C hin inW5 tyX5 tyX5_ok nmX5 (ci := 5) rfl 0 24 rfl (by decide) k_3_33 rfl rfl rfl (ty := .array .int) (by decide +kernel) rfl rfl (Nat.le_of_ble_eq_true rfl) rfl dX5_init_112 ?_
  refine n_aload_n C dX5_init_115 rfl 0 rfl ?_
  refine n_bipush (v := 121) C dX5_init_116 bi_121 ?_
  refine n_newa (atype := .int) C (ty := .int) k_1_32 rfl (by decide) 0 rfl 121 (by decide) (by decide) (by decide) (by decide) (by decide) dX5_init_118 ?_
  intro q15
  refine n_putF (ws' := [(h0, .inr (5, [.int 0, .ref q1, .int 0, .int 0, .int 0, .ref q2, .int 0, .int 0, .int 0, .int 0, .ref q3, .ref q4, .ref q5, .ref q6, .int 0, .ref q7, .ref q8, .int 0, .ref q9, .ref q10, .ref q11, .ref q12, .long 0, .ref q13, .ref q14, .ref q15, .int 0, .int 0, .int 0, .int 0, .int 0, .int 0])), (q1, .inl (cI, 40, .inl (fun _ => 0))), (q2, .inl (cI, 30, .inl (fun _ => 0))), (q3, .inl (cI, 30, .inl (fun _ => 0))), (q4, .inl (cI, 8, .inl (fun _ => 0))), (q5, .inl (cI, 8, .inl (fun _ => 0))), (q6, .inl (cI, 112, .inl (fun _ => 0))), (q7, .inl (cI, 16, .inl (fun _ => 0))), (q8, .inl (cZ, 2, .inl (fun _ => 0))), (q9, .inl (cI, 6, .inl (fun _ => 0))), (q10, .inl (cI, 6, .inl (fun _ => 0))), (q11, .inl (cI, 6, .inl (fun _ => 0))), (q12, .inl (cZ, 6, .inl (fun _ => 0))), (q13, .inl (cI, 10, .inl (fun _ => 0))), (q14, .inl (cI, 64, .inl (fun _ => 0))), (q15, .inl (cI, 121, .inl (fun _ => 0)))]) C hin inW5 tyX5 tyX5_ok nmX5 (ci := 5) rfl 0 25 rfl (by decide) k_3_34 rfl rfl rfl (ty := .array .int) (by decide +kernel) rfl rfl (Nat.le_of_ble_eq_true rfl) rfl dX5_init_120 ?_
  refine n_aload_n C dX5_init_123 rfl 0 rfl ?_
  refine n_get C inW5 (ci := 5) rfl 0 11 rfl (by decide) k_3_20 rfl rfl dX5_init_124 ?_
  refine n_iconst (v := 4) C dX5_init_127 ic_4 ?_
  refine n_bipush (v := (-9)) C dX5_init_128 bi_m9 ?_
  refine n_iast (ws' := [(h0, .inr (5, [.int 0, .ref q1, .int 0, .int 0, .int 0, .ref q2, .int 0, .int 0, .int 0, .int 0, .ref q3, .ref q4, .ref q5, .ref q6, .int 0, .ref q7, .ref q8, .int 0, .ref q9, .ref q10, .ref q11, .ref q12, .long 0, .ref q13, .ref q14, .ref q15, .int 0, .int 0, .int 0, .int 0, .int 0, .int 0])), (q1, .inl (cI, 40, .inl (fun _ => 0))), (q2, .inl (cI, 30, .inl (fun _ => 0))), (q3, .inl (cI, 30, .inl (fun _ => 0))), (q4, .inl (cI, 8, .inl (upd (fun _ => 0) 4 (-9)))), (q5, .inl (cI, 8, .inl (fun _ => 0))), (q6, .inl (cI, 112, .inl (fun _ => 0))), (q7, .inl (cI, 16, .inl (fun _ => 0))), (q8, .inl (cZ, 2, .inl (fun _ => 0))), (q9, .inl (cI, 6, .inl (fun _ => 0))), (q10, .inl (cI, 6, .inl (fun _ => 0))), (q11, .inl (cI, 6, .inl (fun _ => 0))), (q12, .inl (cZ, 6, .inl (fun _ => 0))), (q13, .inl (cI, 10, .inl (fun _ => 0))), (q14, .inl (cI, 64, .inl (fun _ => 0))), (q15, .inl (cI, 121, .inl (fun _ => 0)))]) C 4 0 rfl rfl (by decide) 4 (by decide) rfl dX5_init_130 ?_
  refine n_aload_n C dX5_init_131 rfl 0 rfl ?_
  refine n_get C inW5 (ci := 5) rfl 0 11 rfl (by decide) k_3_20 rfl rfl dX5_init_132 ?_
  refine n_iconst (v := 5) C dX5_init_135 ic_5 ?_
  refine n_bipush (v := (-9)) C dX5_init_136 bi_m9 ?_
  refine n_iast (ws' := [(h0, .inr (5, [.int 0, .ref q1, .int 0, .int 0, .int 0, .ref q2, .int 0, .int 0, .int 0, .int 0, .ref q3, .ref q4, .ref q5, .ref q6, .int 0, .ref q7, .ref q8, .int 0, .ref q9, .ref q10, .ref q11, .ref q12, .long 0, .ref q13, .ref q14, .ref q15, .int 0, .int 0, .int 0, .int 0, .int 0, .int 0])), (q1, .inl (cI, 40, .inl (fun _ => 0))), (q2, .inl (cI, 30, .inl (fun _ => 0))), (q3, .inl (cI, 30, .inl (fun _ => 0))), (q4, .inl (cI, 8, .inl (upd (upd (fun _ => 0) 4 (-9)) 5 (-9)))), (q5, .inl (cI, 8, .inl (fun _ => 0))), (q6, .inl (cI, 112, .inl (fun _ => 0))), (q7, .inl (cI, 16, .inl (fun _ => 0))), (q8, .inl (cZ, 2, .inl (fun _ => 0))), (q9, .inl (cI, 6, .inl (fun _ => 0))), (q10, .inl (cI, 6, .inl (fun _ => 0))), (q11, .inl (cI, 6, .inl (fun _ => 0))), (q12, .inl (cZ, 6, .inl (fun _ => 0))), (q13, .inl (cI, 10, .inl (fun _ => 0))), (q14, .inl (cI, 64, .inl (fun _ => 0))), (q15, .inl (cI, 121, .inl (fun _ => 0)))]) C 4 0 rfl rfl (by decide) 5 (by decide) rfl dX5_init_138 ?_
  refine n_aload_n C dX5_init_139 rfl 0 rfl ?_
  refine n_get C inW5 (ci := 5) rfl 0 11 rfl (by decide) k_3_20 rfl rfl dX5_init_140 ?_
  refine n_bipush (v := 7) C dX5_init_143 bi_7 ?_
  refine n_iconst (v := 1) C dX5_init_145 ic_1 ?_
  refine n_iast (ws' := [(h0, .inr (5, [.int 0, .ref q1, .int 0, .int 0, .int 0, .ref q2, .int 0, .int 0, .int 0, .int 0, .ref q3, .ref q4, .ref q5, .ref q6, .int 0, .ref q7, .ref q8, .int 0, .ref q9, .ref q10, .ref q11, .ref q12, .long 0, .ref q13, .ref q14, .ref q15, .int 0, .int 0, .int 0, .int 0, .int 0, .int 0])), (q1, .inl (cI, 40, .inl (fun _ => 0))), (q2, .inl (cI, 30, .inl (fun _ => 0))), (q3, .inl (cI, 30, .inl (fun _ => 0))), (q4, .inl (cI, 8, .inl (upd (upd (upd (fun _ => 0) 4 (-9)) 5 (-9)) 7 1))), (q5, .inl (cI, 8, .inl (fun _ => 0))), (q6, .inl (cI, 112, .inl (fun _ => 0))), (q7, .inl (cI, 16, .inl (fun _ => 0))), (q8, .inl (cZ, 2, .inl (fun _ => 0))), (q9, .inl (cI, 6, .inl (fun _ => 0))), (q10, .inl (cI, 6, .inl (fun _ => 0))), (q11, .inl (cI, 6, .inl (fun _ => 0))), (q12, .inl (cZ, 6, .inl (fun _ => 0))), (q13, .inl (cI, 10, .inl (fun _ => 0))), (q14, .inl (cI, 64, .inl (fun _ => 0))), (q15, .inl (cI, 121, .inl (fun _ => 0)))]) C 4 0 rfl rfl (by decide) 7 (by decide) rfl dX5_init_146 ?_
  exact n_ret (fin := finX5 cI cZ) C (fun i => [h0, q1, q2, q3, q4, q5, q6, q7, q8, q9, q10, q11, q12, q13, q14, q15].getD i 0) [0, 1, 2, 3, 4, 5, 6, 7, 8, 9, 10, 11, 12, 13, 14, 15] rfl (by decide) dX5_init_147

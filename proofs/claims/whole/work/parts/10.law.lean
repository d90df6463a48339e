theorem bi_31 : (Int8.ofInt 31).toInt32 = 31 := by decide +kernel
theorem bi_32 : (Int8.ofInt 32).toInt32 = 32 := by decide +kernel
/-! THE CLAIM OUT OF ONE WALK OF THE LAW'S BODY. Your part is whole_start (and what it stands on); all else here is the same for every law, but numbers. -/
def R_law : String := "EarFerryLaw"
def lw_P (b : Addr) (xs : List Int32) (args : Array Value) (s : State) : Prop := args = #[.ref b] ∧ s.IntsAt b xs ∧ xs.length ≤ 3072 ∧ (Jvm.Cond.and given_1 narrow_1).before args s = true
def lw_Q (_ : Array Value) (s : State) (o : Outcome) (t : State) : Prop := o = .returned (some (.int 1)) ∧ Framed s o t [] 37 790
def lw_Z (below : List Frame) (a : Array Value) (s : State) : State → Prop := fun t => ∃ o, t.status = .running ∧ Ended t below o ∧ lw_Q a s o t
/-- the law's own end, with 1 on the stack, nothing written that was there before, its room as the claim has it -/
theorem lw_ret {p : Program} {l : Launch} {e : Env} {s : State} {m : MethodId} {below : List Frame} {meth : Method} {c : Code} {b : Nat} (hx : p.tables.exec = Jvm.exec) (hb : c.code = code) (hr : meth.sig.returnType = ret) (hlocks : meth.locks = false) {pc : Nat} {H : Heap} {ls : Array Slot} (hdg : decode code pc = .ok (.ireturn, 1)) : W p l e room_1 s m #[Value.ref b] below meth c H [] 37 790 (lw_Z below #[Value.ref b] s) (F0 m pc ls [.int 1]) := by
  intro T hT X
  obtain ⟨fs, hret, hrun, hended, hW, hframe⟩ := X.leave (v := some (.int 1)) (hlocks := hlocks) (fun h => by rw [hr] at h; cases h)
  have hmeth' : T.vm.method? m = some meth := X.method'
  refine ⟨T.setFrames fs, ?_, .returned (some (.int 1)), hrun, hended, rfl, ⟨_, rfl⟩, hW, hframe⟩
  jvm_step X.here [X.here.top, hx, hb, hdg, hmeth', hr, ret, narrow_b1]
  (try refine ⟨rfl, ?_⟩); (try refine ⟨rfl, ?_⟩)
  first | (intro acts; rw [hret _ acts rfl rfl rfl]) | rw [hret _ _ rfl rfl rfl]
  exact Steps.refl _
/-- what holds at the law's entry: the machine, the code, the tables' words (any of lw_tbl by 'hts w (by decide +kernel)'), the script of L ints xs at the cell b, what the Statement gives of the start (any of its parts by flat_of_before) -/
def lw_At (p : Program) (s : State) (m : MethodId) (meth : Method) (c : Code) (b L : Nat) (xs : Nat → Int32) : Prop :=
  p.tables.exec = Jvm.exec ∧ c.code = code ∧ meth.sig.returnType = ret ∧ c.maxLocals = 4 ∧ s.vm.findClass R_law = some m.cls ∧ (∀ w ∈ lw_tbl, w.before #[Value.ref b] s = true) ∧ va_X b L xs s s.heap ∧ b < s.heap.size ∧ meth.locks = false ∧ (Jvm.Cond.and given_1 narrow_1).before #[Value.ref b] s = true
def eA0 (s : State) : Nat → Prop := fun q => s.heap.size ≤ q
def CL (p : Program) (s : State) (m : MethodId) (meth : Method) (c : Code) (D : va_G) (cI cZ : ClassId) (ad ad' : Nat → Nat) (b L : Nat) (xs : Nat → Int32) : Prop :=
  p.tables.exec = Jvm.exec ∧ c.code = cL_law ∧ c.maxLocals = 4 ∧ s.vm.findClass RL = some m.cls ∧ (∀ w ∈ WB, w.before #[Value.ref b] s = true) ∧ va_K D vwCl [(cI, .int), (cZ, .boolean)] s ∧ ExX ad s ∧ eInj 21 ad ∧ eInj 16 ad' ∧ (∀ i, i < 21 → s.heap.size ≤ ad i) ∧ (∀ j, j < 16 → s.heap.size ≤ ad' j) ∧ (∀ i j, i < 21 → j < 16 → ad i ≠ ad' j) ∧ va_X b L xs s s.heap ∧ b < s.heap.size ∧ meth.locks = false ∧ meth.sig.returnType = Jvm.Pilot.@@N@@.ret ∧ L ≤ 3072
def WL (p : Program) (l : Launch) (e : Env) (s : State) (m : MethodId) (below : List Frame) (meth : Method) (c : Code) (D : va_G) (cI cZ : ClassId) (ad ad' : Nat → Nat) (b : Nat) (σ : eSt) (z : Int64) (τ : eSt) (y : Int64) (lv : List (Nat × Value)) (pc : Nat) (st : List Value) : Prop :=
  ∀ (H : Heap) (locs : List Loc) (ls : Array Slot), va_P D vwCl (xW cI cZ ad σ z) H → va_P D vwCl (yW cI cZ ad' τ y) H → va_S (eA0 s) s.heap H locs → lv_has ls 4 lv → W p l e room_1 s m #[Value.ref b] below meth c H locs 37 790 (lw_Z below #[Value.ref b] s) (F0 m pc ls st)
section LK
variable {p : Program} {l : Launch} {e : Env} {s : State} {m : MethodId} {below : List Frame} {meth : Method} {c : Code} {D : va_G} {cI cZ : ClassId} {ad ad' : Nat → Nat} {b L : Nat} {xs : Nat → Int32}
variable {σ σ' τ τ' : eSt} {z z' y y' : Int64} {lv : List (Nat × Value)} {pc : Nat} {rest : List Value}
theorem CL.hx (C : CL p s m meth c D cI cZ ad ad' b L xs) : p.tables.exec = Jvm.exec := C.1
theorem CL.hb (C : CL p s m meth c D cI cZ ad ad' b L xs) : c.code = cL_law := C.2.1
theorem CL.hml (C : CL p s m meth c D cI cZ ad ad' b L xs) : c.maxLocals = 4 := C.2.2.1
theorem CL.hown (C : CL p s m meth c D cI cZ ad ad' b L xs) : s.vm.findClass RL = some m.cls := C.2.2.2.1
theorem CL.ts (C : CL p s m meth c D cI cZ ad ad' b L xs) : ∀ w ∈ WB, w.before #[Value.ref b] s = true := C.2.2.2.2.1
theorem CL.hK (C : CL p s m meth c D cI cZ ad ad' b L xs) : va_K D vwCl [(cI, .int), (cZ, .boolean)] s := C.2.2.2.2.2.1
theorem CL.hEx (C : CL p s m meth c D cI cZ ad ad' b L xs) : ExX ad s := C.2.2.2.2.2.2.1
theorem CL.hJ (C : CL p s m meth c D cI cZ ad ad' b L xs) : eInj 21 ad := C.2.2.2.2.2.2.2.1
theorem CL.hJ' (C : CL p s m meth c D cI cZ ad ad' b L xs) : eInj 16 ad' := C.2.2.2.2.2.2.2.2.1
theorem CL.hlo (C : CL p s m meth c D cI cZ ad ad' b L xs) : ∀ i, i < 21 → s.heap.size ≤ ad i := C.2.2.2.2.2.2.2.2.2.1
theorem CL.hlo' (C : CL p s m meth c D cI cZ ad ad' b L xs) : ∀ j, j < 16 → s.heap.size ≤ ad' j := C.2.2.2.2.2.2.2.2.2.2.1
theorem CL.hap (C : CL p s m meth c D cI cZ ad ad' b L xs) : ∀ i j, i < 21 → j < 16 → ad i ≠ ad' j := C.2.2.2.2.2.2.2.2.2.2.2.1
theorem CL.hX (C : CL p s m meth c D cI cZ ad ad' b L xs) : va_X b L xs s s.heap := C.2.2.2.2.2.2.2.2.2.2.2.2.1
theorem CL.hbl (C : CL p s m meth c D cI cZ ad ad' b L xs) : b < s.heap.size := C.2.2.2.2.2.2.2.2.2.2.2.2.2.1
theorem CL.hlocks (C : CL p s m meth c D cI cZ ad ad' b L xs) : meth.locks = false := C.2.2.2.2.2.2.2.2.2.2.2.2.2.2.1
theorem CL.hr (C : CL p s m meth c D cI cZ ad ad' b L xs) : meth.sig.returnType = Jvm.Pilot.@@N@@.ret := C.2.2.2.2.2.2.2.2.2.2.2.2.2.2.2.1
theorem CL.hL (C : CL p s m meth c D cI cZ ad ad' b L xs) : L ≤ 3072 := C.2.2.2.2.2.2.2.2.2.2.2.2.2.2.2.2
theorem l_iconst (C : CL p s m meth c D cI cZ ad ad' b L xs) {n : Int} {v : Int32} (hd : decode cL_law pc = .ok (.iconst n, 1)) (hv : Int32.ofInt n = v) (kk : WL p l e s m below meth c D cI cZ ad ad' b σ z τ y lv (pc + 1) (.int v :: rest)) : WL p l e s m below meth c D cI cZ ad ad' b σ z τ y lv pc rest := fun H locs ls hP hP2 hS hl => lv_iconst C.hx C.hb hd hv (kk H locs ls hP hP2 hS hl)
theorem l_bipush (C : CL p s m meth c D cI cZ ad ad' b L xs) {n : Int} {v : Int32} (hd : decode cL_law pc = .ok (.bipush n, 2)) (hv : (Int8.ofInt n).toInt32 = v) (kk : WL p l e s m below meth c D cI cZ ad ad' b σ z τ y lv (pc + 2) (.int v :: rest)) : WL p l e s m below meth c D cI cZ ad ad' b σ z τ y lv pc rest := fun H locs ls hP hP2 hS hl => lv_bipush C.hx C.hb hd hv (kk H locs ls hP hP2 hS hl)
theorem l_ldc2 (C : CL p s m meth c D cI cZ ad ad' b L xs) {index : Nat} {v : Int64} (hd : decode cL_law pc = .ok (.ldc2_w index, 3)) (hc : Cond.constantLong RL index v ∈ WB) (kk : WL p l e s m below meth c D cI cZ ad ad' b σ z τ y lv (pc + 3) (.long v :: rest)) : WL p l e s m below meth c D cI cZ ad ad' b σ z τ y lv pc rest := fun H locs ls hP hP2 hS hl => lv_ldc2 C.hx C.hb C.hown (C.ts _ hc) hd (kk H locs ls hP hP2 hS hl)
theorem l_iload_n (C : CL p s m meth c D cI cZ ad ad' b L xs) {k : Fin 4} {i : Nat} {x : Int32} (hd : decode cL_law pc = .ok (.iload_n k, 1)) (hi : (k : Nat) = i) (j : Nat) (hj : lv[j]? = some (i, .int x)) (kk : WL p l e s m below meth c D cI cZ ad ad' b σ z τ y lv (pc + 1) (.int x :: rest)) : WL p l e s m below meth c D cI cZ ad ad' b σ z τ y lv pc rest := fun H locs ls hP hP2 hS hl => lv_iload_n C.hx C.hb hd hi (lv_at hl j hj) (kk H locs ls hP hP2 hS hl)
theorem l_aload_n (C : CL p s m meth c D cI cZ ad ad' b L xs) {k : Fin 4} {i : Nat} {x : Nat} (hd : decode cL_law pc = .ok (.aload_n k, 1)) (hi : (k : Nat) = i) (j : Nat) (hj : lv[j]? = some (i, .ref x)) (kk : WL p l e s m below meth c D cI cZ ad ad' b σ z τ y lv (pc + 1) (.ref x :: rest)) : WL p l e s m below meth c D cI cZ ad ad' b σ z τ y lv pc rest := fun H locs ls hP hP2 hS hl => lv_aload_n C.hx C.hb hd hi (lv_at hl j hj) (kk H locs ls hP hP2 hS hl)
theorem l_iadd (C : CL p s m meth c D cI cZ ad ad' b L xs) {x y2 : Int32} (hd : decode cL_law pc = .ok (.iadd, 1)) (kk : WL p l e s m below meth c D cI cZ ad ad' b σ z τ y lv (pc + 1) (.int (x + y2) :: rest)) : WL p l e s m below meth c D cI cZ ad ad' b σ z τ y lv pc (.int y2 :: .int x :: rest) := fun H locs ls hP hP2 hS hl => lv_iadd C.hx C.hb hd (kk H locs ls hP hP2 hS hl)
theorem l_isub (C : CL p s m meth c D cI cZ ad ad' b L xs) {x y2 : Int32} (hd : decode cL_law pc = .ok (.isub, 1)) (kk : WL p l e s m below meth c D cI cZ ad ad' b σ z τ y lv (pc + 1) (.int (x - y2) :: rest)) : WL p l e s m below meth c D cI cZ ad ad' b σ z τ y lv pc (.int y2 :: .int x :: rest) := fun H locs ls hP hP2 hS hl => lv_isub C.hx C.hb hd (kk H locs ls hP hP2 hS hl)
theorem l_iand (C : CL p s m meth c D cI cZ ad ad' b L xs) {x y2 : Int32} (hd : decode cL_law pc = .ok (.iand, 1)) (kk : WL p l e s m below meth c D cI cZ ad ad' b σ z τ y lv (pc + 1) (.int (x &&& y2) :: rest)) : WL p l e s m below meth c D cI cZ ad ad' b σ z τ y lv pc (.int y2 :: .int x :: rest) := fun H locs ls hP hP2 hS hl => lv_iand C.hx C.hb hd (kk H locs ls hP hP2 hS hl)
theorem l_land (C : CL p s m meth c D cI cZ ad ad' b L xs) {x y2 : Int64} (hd : decode cL_law pc = .ok (.land, 1)) (kk : WL p l e s m below meth c D cI cZ ad ad' b σ z τ y lv (pc + 1) (.long (x &&& y2) :: rest)) : WL p l e s m below meth c D cI cZ ad ad' b σ z τ y lv pc (.long y2 :: .long x :: rest) := fun H locs ls hP hP2 hS hl => lv_land C.hx C.hb hd (kk H locs ls hP hP2 hS hl)
theorem l_lor (C : CL p s m meth c D cI cZ ad ad' b L xs) {x y2 : Int64} (hd : decode cL_law pc = .ok (.lor, 1)) (kk : WL p l e s m below meth c D cI cZ ad ad' b σ z τ y lv (pc + 1) (.long (x ||| y2) :: rest)) : WL p l e s m below meth c D cI cZ ad ad' b σ z τ y lv pc (.long y2 :: .long x :: rest) := fun H locs ls hP hP2 hS hl => lv_lor C.hx C.hb hd (kk H locs ls hP hP2 hS hl)
theorem l_lshl (C : CL p s m meth c D cI cZ ad ad' b L xs) {x : Int64} {y2 : Int32} (hd : decode cL_law pc = .ok (.lshl, 1)) (kk : WL p l e s m below meth c D cI cZ ad ad' b σ z τ y lv (pc + 1) (.long (e_lshl x y2) :: rest)) : WL p l e s m below meth c D cI cZ ad ad' b σ z τ y lv pc (.int y2 :: .long x :: rest) := fun H locs ls hP hP2 hS hl => lv_lshl C.hx C.hb hd rfl (kk H locs ls hP hP2 hS hl)
theorem l_i2l (C : CL p s m meth c D cI cZ ad ad' b L xs) {x : Int32} (hd : decode cL_law pc = .ok (.i2l, 1)) (kk : WL p l e s m below meth c D cI cZ ad ad' b σ z τ y lv (pc + 1) (.long x.toInt64 :: rest)) : WL p l e s m below meth c D cI cZ ad ad' b σ z τ y lv pc (.int x :: rest) := fun H locs ls hP hP2 hS hl => lv_i2l C.hx C.hb hd rfl (kk H locs ls hP hP2 hS hl)
theorem l_lcmp (C : CL p s m meth c D cI cZ ad ad' b L xs) {x y2 : Int64} (hd : decode cL_law pc = .ok (.lcmp, 1)) (kk : WL p l e s m below meth c D cI cZ ad ad' b σ z τ y lv (pc + 1) (.int (lg_cmp x y2) :: rest)) : WL p l e s m below meth c D cI cZ ad ad' b σ z τ y lv pc (.long y2 :: .long x :: rest) := fun H locs ls hP hP2 hS hl => W.lcmp C.hx C.hb hd (kk H locs ls hP hP2 hS hl)
theorem l_goto (C : CL p s m meth c D cI cZ ad ad' b L xs) {off : Int} {tgt : Nat} (hd : decode cL_law pc = .ok (.goto off, 3)) (ht : (pc : Int) + off = (tgt : Int)) (kk : WL p l e s m below meth c D cI cZ ad ad' b σ z τ y lv tgt rest) : WL p l e s m below meth c D cI cZ ad ad' b σ z τ y lv pc rest := fun H locs ls hP hP2 hS hl => lv_goto C.hx C.hb hd ht (kk H locs ls hP hP2 hS hl)
theorem l_sld (C : CL p s m meth c D cI cZ ad ad' b L xs) {i : Int32} (hin : vp_in i L) (hd : decode cL_law pc = .ok (.iaload, 1)) (kk : WL p l e s m below meth c D cI cZ ad ad' b σ z τ y lv (pc + 1) (.int (xs i.toNatClampNeg) :: rest)) : WL p l e s m below meth c D cI cZ ad ad' b σ z τ y lv pc (.int i :: .ref b :: rest) := fun H locs ls hP hP2 hS hl => va_sld C.hx C.hb C.hX C.hbl (Nat.not_le.mpr C.hbl) hS hin hd (kk H locs ls hP hP2 hS hl)
theorem l_slen (C : CL p s m meth c D cI cZ ad ad' b L xs) (hd : decode cL_law pc = .ok (.arraylength, 1)) (kk : WL p l e s m below meth c D cI cZ ad ad' b σ z τ y lv (pc + 1) (.int (nI L) :: rest)) : WL p l e s m below meth c D cI cZ ad ad' b σ z τ y lv pc (.ref b :: rest) := fun H locs ls hP hP2 hS hl => va_slen C.hx C.hb C.hX C.hbl (Nat.not_le.mpr C.hbl) hS hd (kk H locs ls hP hP2 hS hl)
theorem l_if_eq (C : CL p s m meth c D cI cZ ad ad' b L xs) {x : Int32} {off : Int} {tgt : Nat} (hd : decode cL_law pc = .ok (.ifCond .eq off, 3)) (ht : (pc : Int) + off = (tgt : Int)) (kt : x = 0 → WL p l e s m below meth c D cI cZ ad ad' b σ z τ y lv tgt rest) (kf : ¬ x = 0 → WL p l e s m below meth c D cI cZ ad ad' b σ z τ y lv (pc + 3) rest) : WL p l e s m below meth c D cI cZ ad ad' b σ z τ y lv pc (.int x :: rest) := fun H locs ls hP hP2 hS hl => lv_if_eq C.hx C.hb hd ht (fun q => kt q H locs ls hP hP2 hS hl) (fun q => kf q H locs ls hP hP2 hS hl)
theorem l_icmp_eq (C : CL p s m meth c D cI cZ ad ad' b L xs) {x y2 : Int32} {off : Int} {tgt : Nat} (hd : decode cL_law pc = .ok (.if_icmp .eq off, 3)) (ht : (pc : Int) + off = (tgt : Int)) (kt : x = y2 → WL p l e s m below meth c D cI cZ ad ad' b σ z τ y lv tgt rest) (kf : ¬ x = y2 → WL p l e s m below meth c D cI cZ ad ad' b σ z τ y lv (pc + 3) rest) : WL p l e s m below meth c D cI cZ ad ad' b σ z τ y lv pc (.int y2 :: .int x :: rest) := fun H locs ls hP hP2 hS hl => lv_icmp_eq C.hx C.hb hd ht (fun q => kt q H locs ls hP hP2 hS hl) (fun q => kf q H locs ls hP hP2 hS hl)
theorem l_icmp_gt (C : CL p s m meth c D cI cZ ad ad' b L xs) {x y2 : Int32} {off : Int} {tgt : Nat} (hd : decode cL_law pc = .ok (.if_icmp .gt off, 3)) (ht : (pc : Int) + off = (tgt : Int)) (kt : y2 < x → WL p l e s m below meth c D cI cZ ad ad' b σ z τ y lv tgt rest) (kf : ¬ y2 < x → WL p l e s m below meth c D cI cZ ad ad' b σ z τ y lv (pc + 3) rest) : WL p l e s m below meth c D cI cZ ad ad' b σ z τ y lv pc (.int y2 :: .int x :: rest) := fun H locs ls hP hP2 hS hl => lv_icmp_gt C.hx C.hb hd ht (fun q => kt q H locs ls hP hP2 hS hl) (fun q => kf q H locs ls hP hP2 hS hl)
theorem l_iinc (C : CL p s m meth c D cI cZ ad ad' b L xs) {i j : Nat} {n : Int} {x w : Int32} {lv' : List (Nat × Value)} (hd : decode cL_law pc = .ok (.iinc i n, 3)) (hw : x + Int32.ofInt n = w) (hj : lv[j]? = some (i, .int x)) (hn : i < 4) (hl : (i, Value.int w) :: lv.filter (fun q => !(q.1 == i) && !(q.1 + 1 == i && q.2.category == 2)) = lv') (kk : WL p l e s m below meth c D cI cZ ad ad' b σ z τ y lv' (pc + 3) rest) : WL p l e s m below meth c D cI cZ ad ad' b σ z τ y lv pc rest := fun H locs ls hP hP2 hS h1 => lv_iinc C.hx C.hb hd h1 hj hw hn hl (fun ls' h' => kk H locs ls' hP hP2 hS h')
theorem l_tsw (C : CL p s m meth c D cI cZ ad ad' b L xs) {dflt hi : Int} {offs : Array Int} {len : Nat} {x : Int32} (hd : decode cL_law pc = .ok (.tableswitch dflt 0 hi offs, len)) (tg : Nat → Nat) (td : Nat) (n : Nat) (hn : hi + 1 = (n : Int)) (ho : ∀ j, j < n → ∃ off, offs[j]? = some off ∧ (pc : Int) + off = (tg j : Int)) (hdf : (pc : Int) + dflt = (td : Int)) (kin : ∀ j, j < n → WL p l e s m below meth c D cI cZ ad ad' b σ z τ y lv (tg j) rest) (kout : WL p l e s m below meth c D cI cZ ad ad' b σ z τ y lv td rest) : WL p l e s m below meth c D cI cZ ad ad' b σ z τ y lv pc (.int x :: rest) := fun H locs ls hP hP2 hS hl => by
  by_cases h1 : x.toInt < 0
  · exact lv_tableOut C.hx C.hb hd (Or.inl h1) hdf (kout H locs ls hP hP2 hS hl)
  · by_cases h2 : hi < x.toInt
    · exact lv_tableOut C.hx C.hb hd (Or.inr h2) hdf (kout H locs ls hP hP2 hS hl)
    · obtain ⟨off, e1, e2⟩ := ho x.toInt.toNat (by omega)
      exact lv_tableIn C.hx C.hb hd h1 h2 (by simpa using e1) e2 (kin x.toInt.toNat (by omega) H locs ls hP hP2 hS hl)
theorem l_in {i j L : Nat} {c : Int32} (hc : nI j = c) (h : i + j < L) (hL : L ≤ 3072) : vp_in (nI i + c) L := by
  rw [← hc, nI_add]; exact vp_in_nI h (by omega)
theorem gw_V {own Cn : String} {idx maxL : Nat} {y : MethodName} {bytes : ByteArray} {ret : Option FieldType} (h1 : Cond.methodLink own idx y ∈ WB) (h2 : Cond.instanceMethod y ∈ WB) (h3 : Cond.selects Cn y y ∈ WB) (h4 : Cond.initialized Cn ∈ WB) (h5 : Cond.code y bytes maxL ret ∈ WB) : GoodIn WB (wsV own idx Cn y (Cond.code y bytes maxL ret :: WB)) := by
  have key : ∀ w ∈ WB, w ∈ WB ∧ ((w.onTables && w.keeps) = true ∨ ∃ ty, w = .arrayClass ty) := fun w h => ⟨h, WB_good w h⟩
  intro w hw
  simp only [wsV, List.cons_append, List.nil_append, List.mem_cons] at hw
  rcases hw with rfl | rfl | rfl | rfl | rfl | hw
  · exact key _ h1
  · exact key _ h2
  · exact key _ h3
  · exact key _ h4
  · exact key _ h5
  · exact key _ hw
theorem l_run {R : Room} {args : Array Value} {Q : State → Prop} {cells slots : Nat} {H : Heap} {locs : List Loc} {ls : Array Slot} {rv : Option Value} {a : Array Value} {st0 : List Value} {A1 : Nat → Prop} {Wd : eSt → Int64 → va_W} {wO : va_W} (hrun : va_Run p l e R s m args below meth c H locs cells slots 0 0 (F0 m pc ls st0) rest (cQ D Wd A1 rv σ' z' a) A1) (hA1 : ∀ q, A1 q → eA0 s q) (hO : ∀ (k : Nat) (q : Nat × va_E), wO[k]? = some q → ¬ A1 q.1) (hPO : va_P D vwCl wO H) (hS : va_S (eA0 s) s.heap H locs)
    (kk : ∀ (H1 : Heap) (locs1 : List Loc), va_P D vwCl (Wd σ' z') H1 → va_P D vwCl wO H1 → va_S (eA0 s) s.heap H1 locs1 → W p l e R s m args below meth c H1 locs1 cells slots Q (F0 m (pc + 3) ls (rv.toList ++ rest))) : W p l e R s m args below meth c H locs cells slots Q (F0 m pc ls st0) := by
  intro T hT X
  obtain ⟨v, st₀, t, T', L, h0, X', hL, e1, e2, ⟨hv, hp, hz, hk⟩, st⟩ := hrun T hT X
  cases hv
  rw [h0] at hz hk
  obtain ⟨t2, a1, b1⟩ := kk T'.heap (locs ++ L) (by rw [e1]; exact hp) (hPO.kept (fun k q hq => by rw [e1]; exact hk q.1 ((hPO k q hq).lt) (hO k q hq)))
    ⟨Nat.le_trans hS.1 (by rw [e1]; exact hz), fun q h1 h2 => by rw [e1, hk q (Nat.lt_of_lt_of_le h1 hS.1) (fun z => h2 (hA1 q z))]; exact hS.2.1 q h1 h2, fun q hq => by
      rcases List.mem_append.mp hq with h | h
      · exact hS.2.2 q h
      · exact hA1 _ (hL q h)⟩ T' rfl X'
  exact ⟨t2, st t2 a1, b1⟩
theorem l_callX_i (C : CL p s m meth c D cI cZ ad ad' b L xs) {idx maxL n : Nat} {y0 : MethodName} {bytes : ByteArray} {ret' : Option FieldType} {rm : Room} (As : List Value) {v : Int32} {st0 : List Value} (hM : Con l y0 bytes maxL ret' rm D (xW cI cZ ad) (xA ad) [(cI, .int), (cZ, .boolean)] (ExX ad) (.ref (ad 0) :: As) σ z (some (.int v)) σ' z') (h1 : Cond.methodLink RL idx y0 ∈ WB) (h2 : Cond.instanceMethod y0 ∈ WB) (h3 : Cond.selects RX4 y0 y0 ∈ WB) (h4 : Cond.initialized RX4 ∈ WB) (h5 : Cond.code y0 bytes maxL ret' ∈ WB) (hy : y0.cls = RX4 ∧ y0.cls ≠ "java/lang/invoke/MethodHandle" ∧ y0.cls ≠ "java/lang/invoke/VarHandle" ∧ (parseMethodDescriptor y0.desc).map (fun d => d.parameters.length) = some n) (hrm : rm.cells = 0 ∧ rm.slots = 0) (hR : rm.frames + 1 ≤ room_1.frames ∧ 8 + (maxL + 11) + rm.locals ≤ room_1.locals) (hn : As.length = n) (hst : st0 = As.reverse ++ .ref (ad 0) :: rest) (hWd : (rest.map fun v => v.category).sum ≤ 8) (hd : decode cL_law pc = .ok (.invokevirtual idx, 3)) (kk : WL p l e s m below meth c D cI cZ ad ad' b σ' z' τ y lv (pc + 3) (.int v :: rest)) : WL p l e s m below meth c D cI cZ ad ad' b σ z τ y lv pc st0 := fun H locs ls hP hP2 hS hl =>
  l_run (a := (Value.ref (ad 0) :: As).toArray) (rest := rest) (va_runV (As := As) (rest := rest) ⟨C.hx, C.hb, C.hml, C.hown, C.ts⟩ hM (cwV n C.ts (gw_V h1 h2 h3 h4 h5) rfl hrm.1 hrm.2 hy hR) ⟨cP_blind (ExX_ok ad), va_recv C.hK hP (ci := 4) (q0 := 0) rfl rfl, fun U hU hW => ⟨rfl, by rw [hU]; exact hP, va_K.moved hW.alike C.hK, (ExX_ok ad).2 s U hW (fun q h1 h2 => by rw [hU]; exact hS.2.1 q h1 (fun z => Nat.lt_irrefl _ (Nat.lt_of_lt_of_le h1 z))) C.hEx⟩⟩ rfl hn hl.1 hst (lv_room (m := m) (pc := pc) (ls := ls) (rest := st0) hWd) hd ⟨by decide, by decide⟩) (fun q h => by obtain ⟨k, h1, h2⟩ := h; rw [h2]; exact C.hlo k h1) (fun k q hq h => by obtain ⟨j, h1, h2⟩ := h; exact C.hap j k h1 (yW_at hq).1 (by rw [← h2, (yW_at hq).2])) hP2 hS (fun H1 locs1 h1 h2 h3 => kk H1 locs1 ls h1 h2 h3 hl)
theorem l_callX_l (C : CL p s m meth c D cI cZ ad ad' b L xs) {idx maxL n : Nat} {y0 : MethodName} {bytes : ByteArray} {ret' : Option FieldType} {rm : Room} (As : List Value) {v : Int64} {st0 : List Value} (hM : Con l y0 bytes maxL ret' rm D (xW cI cZ ad) (xA ad) [(cI, .int), (cZ, .boolean)] (ExX ad) (.ref (ad 0) :: As) σ z (some (.long v)) σ' z') (h1 : Cond.methodLink RL idx y0 ∈ WB) (h2 : Cond.instanceMethod y0 ∈ WB) (h3 : Cond.selects RX4 y0 y0 ∈ WB) (h4 : Cond.initialized RX4 ∈ WB) (h5 : Cond.code y0 bytes maxL ret' ∈ WB) (hy : y0.cls = RX4 ∧ y0.cls ≠ "java/lang/invoke/MethodHandle" ∧ y0.cls ≠ "java/lang/invoke/VarHandle" ∧ (parseMethodDescriptor y0.desc).map (fun d => d.parameters.length) = some n) (hrm : rm.cells = 0 ∧ rm.slots = 0) (hR : rm.frames + 1 ≤ room_1.frames ∧ 8 + (maxL + 11) + rm.locals ≤ room_1.locals) (hn : As.length = n) (hst : st0 = As.reverse ++ .ref (ad 0) :: rest) (hWd : (rest.map fun v => v.category).sum ≤ 8) (hd : decode cL_law pc = .ok (.invokevirtual idx, 3)) (kk : WL p l e s m below meth c D cI cZ ad ad' b σ' z' τ y lv (pc + 3) (.long v :: rest)) : WL p l e s m below meth c D cI cZ ad ad' b σ z τ y lv pc st0 := fun H locs ls hP hP2 hS hl =>
  l_run (a := (Value.ref (ad 0) :: As).toArray) (rest := rest) (va_runV (As := As) (rest := rest) ⟨C.hx, C.hb, C.hml, C.hown, C.ts⟩ hM (cwV n C.ts (gw_V h1 h2 h3 h4 h5) rfl hrm.1 hrm.2 hy hR) ⟨cP_blind (ExX_ok ad), va_recv C.hK hP (ci := 4) (q0 := 0) rfl rfl, fun U hU hW => ⟨rfl, by rw [hU]; exact hP, va_K.moved hW.alike C.hK, (ExX_ok ad).2 s U hW (fun q h1 h2 => by rw [hU]; exact hS.2.1 q h1 (fun z => Nat.lt_irrefl _ (Nat.lt_of_lt_of_le h1 z))) C.hEx⟩⟩ rfl hn hl.1 hst (lv_room (m := m) (pc := pc) (ls := ls) (rest := st0) hWd) hd ⟨by decide, by decide⟩) (fun q h => by obtain ⟨k, h1, h2⟩ := h; rw [h2]; exact C.hlo k h1) (fun k q hq h => by obtain ⟨j, h1, h2⟩ := h; exact C.hap j k h1 (yW_at hq).1 (by rw [← h2, (yW_at hq).2])) hP2 hS (fun H1 locs1 h1 h2 h3 => kk H1 locs1 ls h1 h2 h3 hl)
theorem l_callY_i (C : CL p s m meth c D cI cZ ad ad' b L xs) {idx maxL n : Nat} {y0 : MethodName} {bytes : ByteArray} {ret' : Option FieldType} {rm : Room} (As : List Value) {v : Int32} {st0 : List Value} (hM : Con l y0 bytes maxL ret' rm D (yW cI cZ ad') (yA ad') [(cI, .int), (cZ, .boolean)] ExY (.ref (ad' 0) :: As) τ y (some (.int v)) τ' y') (h1 : Cond.methodLink RL idx y0 ∈ WB) (h2 : Cond.instanceMethod y0 ∈ WB) (h3 : Cond.selects RX5 y0 y0 ∈ WB) (h4 : Cond.initialized RX5 ∈ WB) (h5 : Cond.code y0 bytes maxL ret' ∈ WB) (hy : y0.cls = RX5 ∧ y0.cls ≠ "java/lang/invoke/MethodHandle" ∧ y0.cls ≠ "java/lang/invoke/VarHandle" ∧ (parseMethodDescriptor y0.desc).map (fun d => d.parameters.length) = some n) (hrm : rm.cells = 0 ∧ rm.slots = 0) (hR : rm.frames + 1 ≤ room_1.frames ∧ 8 + (maxL + 11) + rm.locals ≤ room_1.locals) (hn : As.length = n) (hst : st0 = As.reverse ++ .ref (ad' 0) :: rest) (hWd : (rest.map fun v => v.category).sum ≤ 8) (hd : decode cL_law pc = .ok (.invokevirtual idx, 3)) (kk : WL p l e s m below meth c D cI cZ ad ad' b σ z τ' y' lv (pc + 3) (.int v :: rest)) : WL p l e s m below meth c D cI cZ ad ad' b σ z τ y lv pc st0 := fun H locs ls hP hP2 hS hl =>
  l_run (a := (Value.ref (ad' 0) :: As).toArray) (rest := rest) (va_runV (As := As) (rest := rest) ⟨C.hx, C.hb, C.hml, C.hown, C.ts⟩ hM (cwV n C.ts (gw_V h1 h2 h3 h4 h5) rfl hrm.1 hrm.2 hy hR) ⟨cP_blind (ExY_ok ad'), va_recv C.hK hP2 (ci := 5) (q0 := 0) rfl rfl, fun U hU hW => ⟨rfl, by rw [hU]; exact hP2, va_K.moved hW.alike C.hK, trivial⟩⟩ rfl hn hl.1 hst (lv_room (m := m) (pc := pc) (ls := ls) (rest := st0) hWd) hd ⟨by decide, by decide⟩) (fun q h => by obtain ⟨k, h1, h2⟩ := h; rw [h2]; exact C.hlo' k h1) (fun k q hq h => by obtain ⟨j, h1, h2⟩ := h; exact C.hap k j (xW_at hq).1 h1 (by rw [← h2, (xW_at hq).2])) hP hS (fun H1 locs1 h1 h2 h3 => kk H1 locs1 ls h2 h1 h3 hl)
theorem l_callY_l (C : CL p s m meth c D cI cZ ad ad' b L xs) {idx maxL n : Nat} {y0 : MethodName} {bytes : ByteArray} {ret' : Option FieldType} {rm : Room} (As : List Value) {v : Int64} {st0 : List Value} (hM : Con l y0 bytes maxL ret' rm D (yW cI cZ ad') (yA ad') [(cI, .int), (cZ, .boolean)] ExY (.ref (ad' 0) :: As) τ y (some (.long v)) τ' y') (h1 : Cond.methodLink RL idx y0 ∈ WB) (h2 : Cond.instanceMethod y0 ∈ WB) (h3 : Cond.selects RX5 y0 y0 ∈ WB) (h4 : Cond.initialized RX5 ∈ WB) (h5 : Cond.code y0 bytes maxL ret' ∈ WB) (hy : y0.cls = RX5 ∧ y0.cls ≠ "java/lang/invoke/MethodHandle" ∧ y0.cls ≠ "java/lang/invoke/VarHandle" ∧ (parseMethodDescriptor y0.desc).map (fun d => d.parameters.length) = some n) (hrm : rm.cells = 0 ∧ rm.slots = 0) (hR : rm.frames + 1 ≤ room_1.frames ∧ 8 + (maxL + 11) + rm.locals ≤ room_1.locals) (hn : As.length = n) (hst : st0 = As.reverse ++ .ref (ad' 0) :: rest) (hWd : (rest.map fun v => v.category).sum ≤ 8) (hd : decode cL_law pc = .ok (.invokevirtual idx, 3)) (kk : WL p l e s m below meth c D cI cZ ad ad' b σ z τ' y' lv (pc + 3) (.long v :: rest)) : WL p l e s m below meth c D cI cZ ad ad' b σ z τ y lv pc st0 := fun H locs ls hP hP2 hS hl =>
  l_run (a := (Value.ref (ad' 0) :: As).toArray) (rest := rest) (va_runV (As := As) (rest := rest) ⟨C.hx, C.hb, C.hml, C.hown, C.ts⟩ hM (cwV n C.ts (gw_V h1 h2 h3 h4 h5) rfl hrm.1 hrm.2 hy hR) ⟨cP_blind (ExY_ok ad'), va_recv C.hK hP2 (ci := 5) (q0 := 0) rfl rfl, fun U hU hW => ⟨rfl, by rw [hU]; exact hP2, va_K.moved hW.alike C.hK, trivial⟩⟩ rfl hn hl.1 hst (lv_room (m := m) (pc := pc) (ls := ls) (rest := st0) hWd) hd ⟨by decide, by decide⟩) (fun q h => by obtain ⟨k, h1, h2⟩ := h; rw [h2]; exact C.hlo' k h1) (fun k q hq h => by obtain ⟨j, h1, h2⟩ := h; exact C.hap k j (xW_at hq).1 h1 (by rw [← h2, (xW_at hq).2])) hP hS (fun H1 locs1 h1 h2 h3 => kk H1 locs1 ls h2 h1 h3 hl)
theorem lg_cmp_self (x : Int64) : lg_cmp x x = 0 := by unfold lg_cmp; simp
end LK
def ES_write (I : eSt → Int64 → eSt → Int64 → Prop) : Prop := ∀ (σ : eSt) (z : Int64) (τ : eSt) (y : Int64) (a1 : Int32), I σ z τ y → ∃ (v : Int32) (σ1 τ1 : eSt), fX4_write σ a1 = some (v, σ1) ∧ fX5_write τ a1 = some (v, τ1) ∧ I σ1 z τ1 y
def ES_wipe (I : eSt → Int64 → eSt → Int64 → Prop) : Prop := ∀ (σ : eSt) (z : Int64) (τ : eSt) (y : Int64), I σ z τ y → ∃ (v : Int32) (σ1 τ1 : eSt), fX4_wipe σ = some (v, σ1) ∧ fX5_wipe τ = some (v, τ1) ∧ I σ1 z τ1 y
def ES_fault (I : eSt → Int64 → eSt → Int64 → Prop) : Prop := ∀ (σ : eSt) (z : Int64) (τ : eSt) (y : Int64), I σ z τ y → ∃ (v : Int32) (τ1 : eSt), fX4_fault σ = some v ∧ fX5_fault τ = some (v, τ1) ∧ I σ z τ1 y
def ES_river (I : eSt → Int64 → eSt → Int64 → Prop) : Prop := ∀ (σ : eSt) (z : Int64) (τ : eSt) (y : Int64), I σ z τ y → ∃ (v : Int32) (σ1 τ1 : eSt), fX4_river σ = some (v, σ1) ∧ fX5_river τ = some (v, τ1) ∧ I σ1 z τ1 y
def ES_about (I : eSt → Int64 → eSt → Int64 → Prop) : Prop := ∀ (σ : eSt) (z : Int64) (τ : eSt) (y : Int64) (a1 : Int32), I σ z τ y → ∃ (v : Int32) (τ1 : eSt), fX4_about σ a1 = some v ∧ fX5_about τ a1 = some (v, τ1) ∧ I σ z τ1 y
def ES_sound (I : eSt → Int64 → eSt → Int64 → Prop) : Prop := ∀ (σ : eSt) (z : Int64) (τ : eSt) (y : Int64) (a1 : Int32) (a2 : Int32), I σ z τ y → ∃ (v : Int32) (τ1 : eSt), fX4_sound σ a1 a2 = some v ∧ fX5_sound τ a1 a2 = some (v, τ1) ∧ I σ z τ1 y
def ES_row (I : eSt → Int64 → eSt → Int64 → Prop) : Prop := ∀ (σ : eSt) (z : Int64) (τ : eSt) (y : Int64) (a1 : Int32), I σ z τ y → ∃ (v : Int32) (σ1 τ1 : eSt), fX4_row σ a1 = some (v, σ1) ∧ fX5_row τ a1 = some (v, τ1) ∧ I σ1 z τ1 y
def ES_hush (I : eSt → Int64 → eSt → Int64 → Prop) : Prop := ∀ (σ : eSt) (z : Int64) (τ : eSt) (y : Int64) (a1 : Int32), I σ z τ y → ∃ (v : Int32) (σ1 τ1 : eSt), fX4_hush σ a1 = some (v, σ1) ∧ fX5_hush τ a1 = some (v, τ1) ∧ I σ1 z τ1 y
def ES_hammer (I : eSt → Int64 → eSt → Int64 → Prop) : Prop := ∀ (σ : eSt) (z : Int64) (τ : eSt) (y : Int64) (a1 : Int32), I σ z τ y → ∃ (v : Int32) (σ1 τ1 : eSt), fX4_hammer σ a1 = some (v, σ1) ∧ fX5_hammer τ a1 = some (v, τ1) ∧ I σ1 z τ1 y
def ES_change (I : eSt → Int64 → eSt → Int64 → Prop) : Prop := ∀ (σ : eSt) (z : Int64) (τ : eSt) (y : Int64) (a1 : Int32) (a2 : Int32), I σ z τ y → ∃ (v : Int32) (σ1 τ1 : eSt), fX4_change σ a1 a2 = some (v, σ1) ∧ fX5_change τ a1 a2 = some (v, τ1) ∧ I σ1 z τ1 y
def ES_hour (I : eSt → Int64 → eSt → Int64 → Prop) : Prop := ∀ (σ : eSt) (z : Int64) (τ : eSt) (y : Int64), I σ z τ y → ∃ (v : Int32) (σ1 τ1 : eSt), fX4_hour σ = some (v, σ1) ∧ fX5_hour τ = some (v, τ1) ∧ I σ1 z τ1 y
def ES_undo (I : eSt → Int64 → eSt → Int64 → Prop) : Prop := ∀ (σ : eSt) (z : Int64) (τ : eSt) (y : Int64), I σ z τ y → ∃ (v : Int32) (σ1 τ1 : eSt), fX4_undo σ = some (v, σ1) ∧ fX5_undo τ = some (v, τ1) ∧ I σ1 z τ1 y
def ES_heard (I : eSt → Int64 → eSt → Int64 → Prop) : Prop := ∀ (σ : eSt) (z : Int64) (τ : eSt) (y : Int64) (a1 : Int32) (a2 : Int32), I σ z τ y → ∃ (v : Int32) (τ1 : eSt), fX4_heard σ a1 a2 = some v ∧ fX5_heard τ a1 a2 = some (v, τ1) ∧ I σ z τ1 y
def ES_sure (I : eSt → Int64 → eSt → Int64 → Prop) : Prop := ∀ (σ : eSt) (z : Int64) (τ : eSt) (y : Int64) (a1 : Int32), I σ z τ y → ∃ (v : Int32) (σ1 τ1 : eSt), fX4_sure σ a1 = some (v, σ1) ∧ fX5_sure τ a1 = some (v, τ1) ∧ I σ1 z τ1 y
def ES_where (I : eSt → Int64 → eSt → Int64 → Prop) : Prop := ∀ (σ : eSt) (z : Int64) (τ : eSt) (y : Int64) (a1 : Int32) (a2 : Int32), I σ z τ y → ∃ (v : Int32) (τ1 : eSt), fX4_where σ a1 a2 = some v ∧ fX5_where τ a1 a2 = some (v, τ1) ∧ I σ z τ1 y
def ES_when (I : eSt → Int64 → eSt → Int64 → Prop) : Prop := ∀ (σ : eSt) (z : Int64) (τ : eSt) (y : Int64) (a1 : Int32) (a2 : Int32), I σ z τ y → ∃ (v : Int32) (τ1 : eSt), fX4_when σ a1 a2 = some v ∧ fX5_when τ a1 a2 = some (v, τ1) ∧ I σ z τ1 y
def ES_spared (I : eSt → Int64 → eSt → Int64 → Prop) : Prop := ∀ (σ : eSt) (z : Int64) (τ : eSt) (y : Int64) (a1 : Int32), I σ z τ y → ∃ (v : Int32) (σ1 τ1 : eSt), fX4_spared σ a1 = some (v, σ1) ∧ fX5_spared τ a1 = some (v, τ1) ∧ I σ1 z τ1 y
def ES_worth (I : eSt → Int64 → eSt → Int64 → Prop) : Prop := ∀ (σ : eSt) (z : Int64) (τ : eSt) (y : Int64) (a1 : Int32) (a2 : Int32) (a3 : Int32), I σ z τ y → (a3 = 0 ∨ a3 = 1) → ∃ (v : Int32) (σ1 τ1 : eSt), fX4_worth σ a1 a2 a3 = some (v, σ1) ∧ fX5_worth τ a1 a2 a3 = some (v, τ1) ∧ I σ1 z τ1 y
def ES_hammers (I : eSt → Int64 → eSt → Int64 → Prop) : Prop := ∀ (σ : eSt) (z : Int64) (τ : eSt) (y : Int64) (a1 : Int32) (a2 : Int32) (a3 : Int32), I σ z τ y → ∃ (v : Int32) (σ1 τ1 : eSt), fX4_hammers σ a1 a2 a3 = some (v, σ1) ∧ fX5_hammers τ a1 a2 a3 = some (v, τ1) ∧ I σ1 z τ1 y
def ES_bestHours (I : eSt → Int64 → eSt → Int64 → Prop) : Prop := ∀ (σ : eSt) (z : Int64) (τ : eSt) (y : Int64) (a1 : Int32) (a2 : Int32), I σ z τ y → ∃ (v : Int32) (σ1 τ1 : eSt), fX4_bestHours σ a1 a2 = some (v, σ1) ∧ fX5_bestHours τ a1 a2 = some (v, τ1) ∧ I σ1 z τ1 y
def ES_grounded (I : eSt → Int64 → eSt → Int64 → Prop) : Prop := ∀ (σ : eSt) (z : Int64) (τ : eSt) (y : Int64) (a1 : Int32) (a2 : Int32) (a3 : Int32) (a4 : Int32) (a5 : Int32), I σ z τ y → ∃ (v : Int32) (τ1 : eSt), fX4_grounded σ a1 a2 a3 a4 a5 = some v ∧ fX5_grounded τ a1 a2 a3 a4 a5 = some (v, τ1) ∧ I σ z τ1 y
def ES_see (I : eSt → Int64 → eSt → Int64 → Prop) : Prop := ∀ (σ : eSt) (z : Int64) (τ : eSt) (y : Int64) (a1 : Int32) (a2 : Int32) (a3 : Int32) (a4 : Int32), I σ z τ y → (a4 = 0 ∨ a4 = 1) → ∃ (v : Int32) (σ1 τ1 : eSt), fX4_see σ a1 a2 a3 a4 = some (v, σ1) ∧ fX5_see τ a1 a2 a3 a4 = some (v, τ1) ∧ I σ1 z τ1 y
def ES_unsee (I : eSt → Int64 → eSt → Int64 → Prop) : Prop := ∀ (σ : eSt) (z : Int64) (τ : eSt) (y : Int64), I σ z τ y → ∃ (v : Int32) (σ1 τ1 : eSt), fX4_unsee σ = some (v, σ1) ∧ fX5_unsee τ = some (v, τ1) ∧ I σ1 z τ1 y
def ES_weather (I : eSt → Int64 → eSt → Int64 → Prop) : Prop := ∀ (σ : eSt) (z : Int64) (τ : eSt) (y : Int64) (a1 : Int32), I σ z τ y → ∃ (v : Int32) (τ1 : eSt), fX4_weather σ a1 = some v ∧ fX5_weather τ a1 = some (v, τ1) ∧ I σ z τ1 y
def ES_rivals (I : eSt → Int64 → eSt → Int64 → Prop) : Prop := ∀ (σ : eSt) (z : Int64) (τ : eSt) (y : Int64) (a1 : Int32) (a2 : Int32), I σ z τ y → ∃ (v : Int32) (σ1 τ1 : eSt), fX4_rivals σ a1 a2 = some (v, σ1) ∧ fX5_rivals τ a1 a2 = some (v, τ1) ∧ I σ1 z τ1 y
def ES_chance (I : eSt → Int64 → eSt → Int64 → Prop) : Prop := ∀ (σ : eSt) (z : Int64) (τ : eSt) (y : Int64) (a1 : Int32) (a2 : Int32) (a3 : Int32) (a4 : Int32), I σ z τ y → (a4 = 0 ∨ a4 = 1) → ∃ (v : Int32) (σ1 τ1 : eSt), fX4_chance σ a1 a2 a3 a4 = some (v, σ1) ∧ fX5_chance τ a1 a2 a3 a4 = some (v, τ1) ∧ I σ1 z τ1 y
def ES_seed (I : eSt → Int64 → eSt → Int64 → Prop) : Prop := ∀ (σ : eSt) (z : Int64) (τ : eSt) (y : Int64) (a1 : Int64), I σ z τ y → ∃ (v : Int64) (σ1 : eSt) (z1 : Int64) (τ1 : eSt) (y1 : Int64), fX4_seed σ z a1 = some (v, σ1, z1) ∧ fX5_seed τ y a1 = some (v, τ1, y1) ∧ I σ1 z1 τ1 y1
def ES_days (I : eSt → Int64 → eSt → Int64 → Prop) : Prop := ∀ (σ : eSt) (z : Int64) (τ : eSt) (y : Int64) (a1 : Int32), I σ z τ y → ∃ (v : Int32) (σ1 : eSt) (z1 : Int64) (τ1 : eSt) (y1 : Int64), fX4_days σ z a1 = some (v, σ1, z1) ∧ fX5_days τ y a1 = some (v, τ1, y1) ∧ I σ1 z1 τ1 y1
def ES_keep (I : eSt → Int64 → eSt → Int64 → Prop) : Prop := ∀ (σ : eSt) (z : Int64) (τ : eSt) (y : Int64) (a1 : Int32), I σ z τ y → ∃ (v : Int32) (σ1 τ1 : eSt), fX4_keep σ a1 = some (v, σ1) ∧ fX5_keep τ a1 = some (v, τ1) ∧ I σ1 z τ1 y
def ES_again (I : eSt → Int64 → eSt → Int64 → Prop) : Prop := ∀ (σ : eSt) (z : Int64) (τ : eSt) (y : Int64) (a1 : Int32), I σ z τ y → ∃ (v : Int32) (σ1 τ1 : eSt), fX4_again σ a1 = some (v, σ1) ∧ fX5_again τ a1 = some (v, τ1) ∧ I σ1 z τ1 y
section LC
variable {p : Program} {l : Launch} {e : Env} {s : State} {m : MethodId} {below : List Frame} {meth : Method} {c : Code} {D : va_G} {cI cZ : ClassId} {ad ad' : Nat → Nat} {b L : Nat} {xs : Nat → Int32}
set_option maxRecDepth 100000 in
set_option maxHeartbeats 4000000 in
theorem lc_0 (C : CL p s m meth c D cI cZ ad ad' b L xs) {I : eSt → Int64 → eSt → Int64 → Prop} (S : ES_write I) {σ : eSt} {z : Int64} {τ : eSt} {y : Int64} (hI : I σ z τ y) {i : Nat} (hi : i + 6 ≤ L) (kk : ∀ σ' z' τ' y', I σ' z' τ' y' → WL p l e s m below meth c D cI cZ ad ad' b σ' z' τ' y' [(3, .int (nI i)), (2, .ref (ad' 0)), (1, .ref (ad 0)), (0, .ref b)] 1087 []) : WL p l e s m below meth c D cI cZ ad ad' b σ z τ y [(3, .int (nI i)), (2, .ref (ad' 0)), (1, .ref (ad 0)), (0, .ref b)] 168 [] := by
  refine l_aload_n C dL_law_168 rfl 2 rfl ?_
  refine l_aload_n C dL_law_169 rfl 3 rfl ?_
  refine l_iload_n C dL_law_170 rfl 0 rfl ?_
  refine l_iconst (v := 1) C dL_law_171 ic_1 ?_
  refine l_iadd C dL_law_172 ?_
  refine l_sld C (l_in (j := 1) (by decide) (by omega) C.hL) dL_law_173 ?_
  obtain ⟨v, σ1, τ1, hf, hg, hI1⟩ := S σ z τ y (xs (nI i + 1).toNatClampNeg) hI
  refine l_callX_i C [.int (xs (nI i + 1).toNatClampNeg)] (tX4_write C.hJ hf) k_1_164 k_1_165 k_1_166 k_1_1 k_1_167 hyX4_write ⟨rfl, rfl⟩ (by decide) rfl rfl (Nat.le_of_ble_eq_true rfl) dL_law_174 ?_
  refine l_aload_n C dL_law_177 rfl 1 rfl ?_
  refine l_aload_n C dL_law_178 rfl 3 rfl ?_
  refine l_iload_n C dL_law_179 rfl 0 rfl ?_
  refine l_iconst (v := 1) C dL_law_180 ic_1 ?_
  refine l_iadd C dL_law_181 ?_
  refine l_sld C (l_in (j := 1) (by decide) (by omega) C.hL) dL_law_182 ?_
  refine l_callY_i C [.int (xs (nI i + 1).toNatClampNeg)] (tX5_write C.hJ' hg) k_3_106 k_3_107 k_3_108 k_1_6 k_3_109 hyX5_write ⟨rfl, rfl⟩ (by decide) rfl rfl (Nat.le_of_ble_eq_true rfl) dL_law_183 ?_
  exact l_icmp_eq (tgt := 1087) C dL_law_186 (by decide) (fun _ => kk _ _ _ _ hI1) (fun hq => absurd rfl hq)
set_option maxRecDepth 100000 in
set_option maxHeartbeats 4000000 in
theorem lc_1 (C : CL p s m meth c D cI cZ ad ad' b L xs) {I : eSt → Int64 → eSt → Int64 → Prop} (S : ES_wipe I) {σ : eSt} {z : Int64} {τ : eSt} {y : Int64} (hI : I σ z τ y) {i : Nat} (hi : i + 6 ≤ L) (kk : ∀ σ' z' τ' y', I σ' z' τ' y' → WL p l e s m below meth c D cI cZ ad ad' b σ' z' τ' y' [(3, .int (nI i)), (2, .ref (ad' 0)), (1, .ref (ad 0)), (0, .ref b)] 1087 []) : WL p l e s m below meth c D cI cZ ad ad' b σ z τ y [(3, .int (nI i)), (2, .ref (ad' 0)), (1, .ref (ad 0)), (0, .ref b)] 191 [] := by
  refine l_aload_n C dL_law_191 rfl 2 rfl ?_
  obtain ⟨v, σ1, τ1, hf, hg, hI1⟩ := S σ z τ y  hI
  refine l_callX_i C [] (tX4_wipe C.hJ hf) k_1_172 k_1_173 k_1_174 k_1_1 k_1_175 hyX4_wipe ⟨rfl, rfl⟩ (by decide) rfl rfl (Nat.le_of_ble_eq_true rfl) dL_law_192 ?_
  refine l_aload_n C dL_law_195 rfl 1 rfl ?_
  refine l_callY_i C [] (tX5_wipe C.hJ' hg) k_3_114 k_3_115 k_3_116 k_1_6 k_3_117 hyX5_wipe ⟨rfl, rfl⟩ (by decide) rfl rfl (Nat.le_of_ble_eq_true rfl) dL_law_196 ?_
  exact l_icmp_eq (tgt := 1087) C dL_law_199 (by decide) (fun _ => kk _ _ _ _ hI1) (fun hq => absurd rfl hq)
set_option maxRecDepth 100000 in
set_option maxHeartbeats 4000000 in
theorem lc_2 (C : CL p s m meth c D cI cZ ad ad' b L xs) {I : eSt → Int64 → eSt → Int64 → Prop} (S : ES_fault I) {σ : eSt} {z : Int64} {τ : eSt} {y : Int64} (hI : I σ z τ y) {i : Nat} (hi : i + 6 ≤ L) (kk : ∀ σ' z' τ' y', I σ' z' τ' y' → WL p l e s m below meth c D cI cZ ad ad' b σ' z' τ' y' [(3, .int (nI i)), (2, .ref (ad' 0)), (1, .ref (ad 0)), (0, .ref b)] 1087 []) : WL p l e s m below meth c D cI cZ ad ad' b σ z τ y [(3, .int (nI i)), (2, .ref (ad' 0)), (1, .ref (ad 0)), (0, .ref b)] 204 [] := by
  refine l_aload_n C dL_law_204 rfl 2 rfl ?_
  obtain ⟨v, τ1, hf, hg, hI1⟩ := S σ z τ y  hI
  refine l_callX_i C [] (tX4_fault C.hJ hf) k_1_176 k_1_177 k_1_178 k_1_1 k_1_179 hyX4_fault ⟨rfl, rfl⟩ (by decide) rfl rfl (Nat.le_of_ble_eq_true rfl) dL_law_205 ?_
  refine l_aload_n C dL_law_208 rfl 1 rfl ?_
  refine l_callY_i C [] (tX5_fault C.hJ' hg) k_3_118 k_3_119 k_3_120 k_1_6 k_3_121 hyX5_fault ⟨rfl, rfl⟩ (by decide) rfl rfl (Nat.le_of_ble_eq_true rfl) dL_law_209 ?_
  exact l_icmp_eq (tgt := 1087) C dL_law_212 (by decide) (fun _ => kk _ _ _ _ hI1) (fun hq => absurd rfl hq)
set_option maxRecDepth 100000 in
set_option maxHeartbeats 4000000 in
theorem lc_3 (C : CL p s m meth c D cI cZ ad ad' b L xs) {I : eSt → Int64 → eSt → Int64 → Prop} (S : ES_river I) {σ : eSt} {z : Int64} {τ : eSt} {y : Int64} (hI : I σ z τ y) {i : Nat} (hi : i + 6 ≤ L) (kk : ∀ σ' z' τ' y', I σ' z' τ' y' → WL p l e s m below meth c D cI cZ ad ad' b σ' z' τ' y' [(3, .int (nI i)), (2, .ref (ad' 0)), (1, .ref (ad 0)), (0, .ref b)] 1087 []) : WL p l e s m below meth c D cI cZ ad ad' b σ z τ y [(3, .int (nI i)), (2, .ref (ad' 0)), (1, .ref (ad 0)), (0, .ref b)] 217 [] := by
  refine l_aload_n C dL_law_217 rfl 2 rfl ?_
  obtain ⟨v, σ1, τ1, hf, hg, hI1⟩ := S σ z τ y  hI
  refine l_callX_i C [] (tX4_river C.hJ hf) k_1_204 k_1_205 k_1_206 k_1_1 k_1_207 hyX4_river ⟨rfl, rfl⟩ (by decide) rfl rfl (Nat.le_of_ble_eq_true rfl) dL_law_218 ?_
  refine l_aload_n C dL_law_221 rfl 1 rfl ?_
  refine l_callY_i C [] (tX5_river C.hJ' hg) k_3_138 k_3_139 k_3_140 k_1_6 k_3_141 hyX5_river ⟨rfl, rfl⟩ (by decide) rfl rfl (Nat.le_of_ble_eq_true rfl) dL_law_222 ?_
  exact l_icmp_eq (tgt := 1087) C dL_law_225 (by decide) (fun _ => kk _ _ _ _ hI1) (fun hq => absurd rfl hq)
set_option maxRecDepth 100000 in
set_option maxHeartbeats 4000000 in
theorem lc_4 (C : CL p s m meth c D cI cZ ad ad' b L xs) {I : eSt → Int64 → eSt → Int64 → Prop} (S : ES_about I) {σ : eSt} {z : Int64} {τ : eSt} {y : Int64} (hI : I σ z τ y) {i : Nat} (hi : i + 6 ≤ L) (kk : ∀ σ' z' τ' y', I σ' z' τ' y' → WL p l e s m below meth c D cI cZ ad ad' b σ' z' τ' y' [(3, .int (nI i)), (2, .ref (ad' 0)), (1, .ref (ad 0)), (0, .ref b)] 1087 []) : WL p l e s m below meth c D cI cZ ad ad' b σ z τ y [(3, .int (nI i)), (2, .ref (ad' 0)), (1, .ref (ad 0)), (0, .ref b)] 230 [] := by
  refine l_aload_n C dL_law_230 rfl 2 rfl ?_
  refine l_aload_n C dL_law_231 rfl 3 rfl ?_
  refine l_iload_n C dL_law_232 rfl 0 rfl ?_
  refine l_iconst (v := 1) C dL_law_233 ic_1 ?_
  refine l_iadd C dL_law_234 ?_
  refine l_sld C (l_in (j := 1) (by decide) (by omega) C.hL) dL_law_235 ?_
  obtain ⟨v, τ1, hf, hg, hI1⟩ := S σ z τ y (xs (nI i + 1).toNatClampNeg) hI
  refine l_callX_i C [.int (xs (nI i + 1).toNatClampNeg)] (tX4_about C.hJ hf) k_1_224 k_1_225 k_1_226 k_1_1 k_1_227 hyX4_about ⟨rfl, rfl⟩ (by decide) rfl rfl (Nat.le_of_ble_eq_true rfl) dL_law_236 ?_
  refine l_aload_n C dL_law_239 rfl 1 rfl ?_
  refine l_aload_n C dL_law_240 rfl 3 rfl ?_
  refine l_iload_n C dL_law_241 rfl 0 rfl ?_
  refine l_iconst (v := 1) C dL_law_242 ic_1 ?_
  refine l_iadd C dL_law_243 ?_
  refine l_sld C (l_in (j := 1) (by decide) (by omega) C.hL) dL_law_244 ?_
  refine l_callY_i C [.int (xs (nI i + 1).toNatClampNeg)] (tX5_about C.hJ' hg) k_3_142 k_3_143 k_3_144 k_1_6 k_3_145 hyX5_about ⟨rfl, rfl⟩ (by decide) rfl rfl (Nat.le_of_ble_eq_true rfl) dL_law_245 ?_
  exact l_icmp_eq (tgt := 1087) C dL_law_248 (by decide) (fun _ => kk _ _ _ _ hI1) (fun hq => absurd rfl hq)
set_option maxRecDepth 100000 in
set_option maxHeartbeats 4000000 in
theorem lc_5 (C : CL p s m meth c D cI cZ ad ad' b L xs) {I : eSt → Int64 → eSt → Int64 → Prop} (S : ES_sound I) {σ : eSt} {z : Int64} {τ : eSt} {y : Int64} (hI : I σ z τ y) {i : Nat} (hi : i + 6 ≤ L) (kk : ∀ σ' z' τ' y', I σ' z' τ' y' → WL p l e s m below meth c D cI cZ ad ad' b σ' z' τ' y' [(3, .int (nI i)), (2, .ref (ad' 0)), (1, .ref (ad 0)), (0, .ref b)] 1087 []) : WL p l e s m below meth c D cI cZ ad ad' b σ z τ y [(3, .int (nI i)), (2, .ref (ad' 0)), (1, .ref (ad 0)), (0, .ref b)] 253 [] := by
  refine l_aload_n C dL_law_253 rfl 2 rfl ?_
  refine l_aload_n C dL_law_254 rfl 3 rfl ?_
  refine l_iload_n C dL_law_255 rfl 0 rfl ?_
  refine l_iconst (v := 1) C dL_law_256 ic_1 ?_
  refine l_iadd C dL_law_257 ?_
  refine l_sld C (l_in (j := 1) (by decide) (by omega) C.hL) dL_law_258 ?_
  refine l_aload_n C dL_law_259 rfl 3 rfl ?_
  refine l_iload_n C dL_law_260 rfl 0 rfl ?_
  refine l_iconst (v := 2) C dL_law_261 ic_2 ?_
  refine l_iadd C dL_law_262 ?_
  refine l_sld C (l_in (j := 2) (by decide) (by omega) C.hL) dL_law_263 ?_
  obtain ⟨v, τ1, hf, hg, hI1⟩ := S σ z τ y (xs (nI i + 1).toNatClampNeg) (xs (nI i + 2).toNatClampNeg) hI
  refine l_callX_i C [.int (xs (nI i + 1).toNatClampNeg), .int (xs (nI i + 2).toNatClampNeg)] (tX4_sound C.hJ hf) k_1_235 k_1_236 k_1_237 k_1_1 k_1_238 hyX4_sound ⟨rfl, rfl⟩ (by decide) rfl rfl (Nat.le_of_ble_eq_true rfl) dL_law_264 ?_
  refine l_aload_n C dL_law_267 rfl 1 rfl ?_
  refine l_aload_n C dL_law_268 rfl 3 rfl ?_
  refine l_iload_n C dL_law_269 rfl 0 rfl ?_
  refine l_iconst (v := 1) C dL_law_270 ic_1 ?_
  refine l_iadd C dL_law_271 ?_
  refine l_sld C (l_in (j := 1) (by decide) (by omega) C.hL) dL_law_272 ?_
  refine l_aload_n C dL_law_273 rfl 3 rfl ?_
  refine l_iload_n C dL_law_274 rfl 0 rfl ?_
  refine l_iconst (v := 2) C dL_law_275 ic_2 ?_
  refine l_iadd C dL_law_276 ?_
  refine l_sld C (l_in (j := 2) (by decide) (by omega) C.hL) dL_law_277 ?_
  refine l_callY_i C [.int (xs (nI i + 1).toNatClampNeg), .int (xs (nI i + 2).toNatClampNeg)] (tX5_sound C.hJ' hg) k_3_146 k_3_147 k_3_148 k_1_6 k_3_149 hyX5_sound ⟨rfl, rfl⟩ (by decide) rfl rfl (Nat.le_of_ble_eq_true rfl) dL_law_278 ?_
  exact l_icmp_eq (tgt := 1087) C dL_law_281 (by decide) (fun _ => kk _ _ _ _ hI1) (fun hq => absurd rfl hq)
set_option maxRecDepth 100000 in
set_option maxHeartbeats 4000000 in
theorem lc_6 (C : CL p s m meth c D cI cZ ad ad' b L xs) {I : eSt → Int64 → eSt → Int64 → Prop} (S : ES_row I) {σ : eSt} {z : Int64} {τ : eSt} {y : Int64} (hI : I σ z τ y) {i : Nat} (hi : i + 6 ≤ L) (kk : ∀ σ' z' τ' y', I σ' z' τ' y' → WL p l e s m below meth c D cI cZ ad ad' b σ' z' τ' y' [(3, .int (nI i)), (2, .ref (ad' 0)), (1, .ref (ad 0)), (0, .ref b)] 1087 []) : WL p l e s m below meth c D cI cZ ad ad' b σ z τ y [(3, .int (nI i)), (2, .ref (ad' 0)), (1, .ref (ad 0)), (0, .ref b)] 286 [] := by
  refine l_aload_n C dL_law_286 rfl 2 rfl ?_
  refine l_aload_n C dL_law_287 rfl 3 rfl ?_
  refine l_iload_n C dL_law_288 rfl 0 rfl ?_
  refine l_iconst (v := 1) C dL_law_289 ic_1 ?_
  refine l_iadd C dL_law_290 ?_
  refine l_sld C (l_in (j := 1) (by decide) (by omega) C.hL) dL_law_291 ?_
  obtain ⟨v, σ1, τ1, hf, hg, hI1⟩ := S σ z τ y (xs (nI i + 1).toNatClampNeg) hI
  refine l_callX_i C [.int (xs (nI i + 1).toNatClampNeg)] (tX4_row C.hJ hf) k_2_22 k_2_23 k_2_24 k_1_1 k_2_25 hyX4_row ⟨rfl, rfl⟩ (by decide) rfl rfl (Nat.le_of_ble_eq_true rfl) dL_law_292 ?_
  refine l_aload_n C dL_law_295 rfl 1 rfl ?_
  refine l_aload_n C dL_law_296 rfl 3 rfl ?_
  refine l_iload_n C dL_law_297 rfl 0 rfl ?_
  refine l_iconst (v := 1) C dL_law_298 ic_1 ?_
  refine l_iadd C dL_law_299 ?_
  refine l_sld C (l_in (j := 1) (by decide) (by omega) C.hL) dL_law_300 ?_
  refine l_callY_i C [.int (xs (nI i + 1).toNatClampNeg)] (tX5_row C.hJ' hg) k_3_168 k_3_169 k_3_170 k_1_6 k_3_171 hyX5_row ⟨rfl, rfl⟩ (by decide) rfl rfl (Nat.le_of_ble_eq_true rfl) dL_law_301 ?_
  exact l_icmp_eq (tgt := 1087) C dL_law_304 (by decide) (fun _ => kk _ _ _ _ hI1) (fun hq => absurd rfl hq)
set_option maxRecDepth 100000 in
set_option maxHeartbeats 4000000 in
theorem lc_7 (C : CL p s m meth c D cI cZ ad ad' b L xs) {I : eSt → Int64 → eSt → Int64 → Prop} (S : ES_hush I) {σ : eSt} {z : Int64} {τ : eSt} {y : Int64} (hI : I σ z τ y) {i : Nat} (hi : i + 6 ≤ L) (kk : ∀ σ' z' τ' y', I σ' z' τ' y' → WL p l e s m below meth c D cI cZ ad ad' b σ' z' τ' y' [(3, .int (nI i)), (2, .ref (ad' 0)), (1, .ref (ad 0)), (0, .ref b)] 1087 []) : WL p l e s m below meth c D cI cZ ad ad' b σ z τ y [(3, .int (nI i)), (2, .ref (ad' 0)), (1, .ref (ad 0)), (0, .ref b)] 309 [] := by
  refine l_aload_n C dL_law_309 rfl 2 rfl ?_
  refine l_aload_n C dL_law_310 rfl 3 rfl ?_
  refine l_iload_n C dL_law_311 rfl 0 rfl ?_
  refine l_iconst (v := 1) C dL_law_312 ic_1 ?_
  refine l_iadd C dL_law_313 ?_
  refine l_sld C (l_in (j := 1) (by decide) (by omega) C.hL) dL_law_314 ?_
  obtain ⟨v, σ1, τ1, hf, hg, hI1⟩ := S σ z τ y (xs (nI i + 1).toNatClampNeg) hI
  refine l_callX_i C [.int (xs (nI i + 1).toNatClampNeg)] (tX4_hush C.hJ hf) k_2_54 k_2_55 k_2_56 k_1_1 k_2_57 hyX4_hush ⟨rfl, rfl⟩ (by decide) rfl rfl (Nat.le_of_ble_eq_true rfl) dL_law_315 ?_
  refine l_aload_n C dL_law_318 rfl 1 rfl ?_
  refine l_aload_n C dL_law_319 rfl 3 rfl ?_
  refine l_iload_n C dL_law_320 rfl 0 rfl ?_
  refine l_iconst (v := 1) C dL_law_321 ic_1 ?_
  refine l_iadd C dL_law_322 ?_
  refine l_sld C (l_in (j := 1) (by decide) (by omega) C.hL) dL_law_323 ?_
  refine l_callY_i C [.int (xs (nI i + 1).toNatClampNeg)] (tX5_hush C.hJ' hg) k_3_185 k_3_186 k_3_187 k_1_6 k_3_188 hyX5_hush ⟨rfl, rfl⟩ (by decide) rfl rfl (Nat.le_of_ble_eq_true rfl) dL_law_324 ?_
  exact l_icmp_eq (tgt := 1087) C dL_law_327 (by decide) (fun _ => kk _ _ _ _ hI1) (fun hq => absurd rfl hq)
set_option maxRecDepth 100000 in
set_option maxHeartbeats 4000000 in
theorem lc_8 (C : CL p s m meth c D cI cZ ad ad' b L xs) {I : eSt → Int64 → eSt → Int64 → Prop} (S : ES_hammer I) {σ : eSt} {z : Int64} {τ : eSt} {y : Int64} (hI : I σ z τ y) {i : Nat} (hi : i + 6 ≤ L) (kk : ∀ σ' z' τ' y', I σ' z' τ' y' → WL p l e s m below meth c D cI cZ ad ad' b σ' z' τ' y' [(3, .int (nI i)), (2, .ref (ad' 0)), (1, .ref (ad 0)), (0, .ref b)] 1087 []) : WL p l e s m below meth c D cI cZ ad ad' b σ z τ y [(3, .int (nI i)), (2, .ref (ad' 0)), (1, .ref (ad 0)), (0, .ref b)] 332 [] := by
  refine l_aload_n C dL_law_332 rfl 2 rfl ?_
  refine l_aload_n C dL_law_333 rfl 3 rfl ?_
  refine l_iload_n C dL_law_334 rfl 0 rfl ?_
  refine l_iconst (v := 1) C dL_law_335 ic_1 ?_
  refine l_iadd C dL_law_336 ?_
  refine l_sld C (l_in (j := 1) (by decide) (by omega) C.hL) dL_law_337 ?_
  obtain ⟨v, σ1, τ1, hf, hg, hI1⟩ := S σ z τ y (xs (nI i + 1).toNatClampNeg) hI
  refine l_callX_i C [.int (xs (nI i + 1).toNatClampNeg)] (tX4_hammer C.hJ hf) k_2_58 k_2_59 k_2_60 k_1_1 k_2_61 hyX4_hammer ⟨rfl, rfl⟩ (by decide) rfl rfl (Nat.le_of_ble_eq_true rfl) dL_law_338 ?_
  refine l_aload_n C dL_law_341 rfl 1 rfl ?_
  refine l_aload_n C dL_law_342 rfl 3 rfl ?_
  refine l_iload_n C dL_law_343 rfl 0 rfl ?_
  refine l_iconst (v := 1) C dL_law_344 ic_1 ?_
  refine l_iadd C dL_law_345 ?_
  refine l_sld C (l_in (j := 1) (by decide) (by omega) C.hL) dL_law_346 ?_
  refine l_callY_i C [.int (xs (nI i + 1).toNatClampNeg)] (tX5_hammer C.hJ' hg) k_3_189 k_3_190 k_3_191 k_1_6 k_3_192 hyX5_hammer ⟨rfl, rfl⟩ (by decide) rfl rfl (Nat.le_of_ble_eq_true rfl) dL_law_347 ?_
  exact l_icmp_eq (tgt := 1087) C dL_law_350 (by decide) (fun _ => kk _ _ _ _ hI1) (fun hq => absurd rfl hq)
set_option maxRecDepth 100000 in
set_option maxHeartbeats 4000000 in
theorem lc_9 (C : CL p s m meth c D cI cZ ad ad' b L xs) {I : eSt → Int64 → eSt → Int64 → Prop} (S : ES_change I) {σ : eSt} {z : Int64} {τ : eSt} {y : Int64} (hI : I σ z τ y) {i : Nat} (hi : i + 6 ≤ L) (kk : ∀ σ' z' τ' y', I σ' z' τ' y' → WL p l e s m below meth c D cI cZ ad ad' b σ' z' τ' y' [(3, .int (nI i)), (2, .ref (ad' 0)), (1, .ref (ad 0)), (0, .ref b)] 1087 []) : WL p l e s m below meth c D cI cZ ad ad' b σ z τ y [(3, .int (nI i)), (2, .ref (ad' 0)), (1, .ref (ad 0)), (0, .ref b)] 355 [] := by
  refine l_aload_n C dL_law_355 rfl 2 rfl ?_
  refine l_aload_n C dL_law_356 rfl 3 rfl ?_
  refine l_iload_n C dL_law_357 rfl 0 rfl ?_
  refine l_iconst (v := 1) C dL_law_358 ic_1 ?_
  refine l_iadd C dL_law_359 ?_
  refine l_sld C (l_in (j := 1) (by decide) (by omega) C.hL) dL_law_360 ?_
  refine l_aload_n C dL_law_361 rfl 3 rfl ?_
  refine l_iload_n C dL_law_362 rfl 0 rfl ?_
  refine l_iconst (v := 2) C dL_law_363 ic_2 ?_
  refine l_iadd C dL_law_364 ?_
  refine l_sld C (l_in (j := 2) (by decide) (by omega) C.hL) dL_law_365 ?_
  obtain ⟨v, σ1, τ1, hf, hg, hI1⟩ := S σ z τ y (xs (nI i + 1).toNatClampNeg) (xs (nI i + 2).toNatClampNeg) hI
  refine l_callX_i C [.int (xs (nI i + 1).toNatClampNeg), .int (xs (nI i + 2).toNatClampNeg)] (tX4_change C.hJ hf) k_2_70 k_2_71 k_2_72 k_1_1 k_2_73 hyX4_change ⟨rfl, rfl⟩ (by decide) rfl rfl (Nat.le_of_ble_eq_true rfl) dL_law_366 ?_
  refine l_aload_n C dL_law_369 rfl 1 rfl ?_
  refine l_aload_n C dL_law_370 rfl 3 rfl ?_
  refine l_iload_n C dL_law_371 rfl 0 rfl ?_
  refine l_iconst (v := 1) C dL_law_372 ic_1 ?_
  refine l_iadd C dL_law_373 ?_
  refine l_sld C (l_in (j := 1) (by decide) (by omega) C.hL) dL_law_374 ?_
  refine l_aload_n C dL_law_375 rfl 3 rfl ?_
  refine l_iload_n C dL_law_376 rfl 0 rfl ?_
  refine l_iconst (v := 2) C dL_law_377 ic_2 ?_
  refine l_iadd C dL_law_378 ?_
  refine l_sld C (l_in (j := 2) (by decide) (by omega) C.hL) dL_law_379 ?_
  refine l_callY_i C [.int (xs (nI i + 1).toNatClampNeg), .int (xs (nI i + 2).toNatClampNeg)] (tX5_change C.hJ' hg) k_3_193 k_3_194 k_3_195 k_1_6 k_3_196 hyX5_change ⟨rfl, rfl⟩ (by decide) rfl rfl (Nat.le_of_ble_eq_true rfl) dL_law_380 ?_
  exact l_icmp_eq (tgt := 1087) C dL_law_383 (by decide) (fun _ => kk _ _ _ _ hI1) (fun hq => absurd rfl hq)
set_option maxRecDepth 100000 in
set_option maxHeartbeats 4000000 in
theorem lc_10 (C : CL p s m meth c D cI cZ ad ad' b L xs) {I : eSt → Int64 → eSt → Int64 → Prop} (S : ES_hour I) {σ : eSt} {z : Int64} {τ : eSt} {y : Int64} (hI : I σ z τ y) {i : Nat} (hi : i + 6 ≤ L) (kk : ∀ σ' z' τ' y', I σ' z' τ' y' → WL p l e s m below meth c D cI cZ ad ad' b σ' z' τ' y' [(3, .int (nI i)), (2, .ref (ad' 0)), (1, .ref (ad 0)), (0, .ref b)] 1087 []) : WL p l e s m below meth c D cI cZ ad ad' b σ z τ y [(3, .int (nI i)), (2, .ref (ad' 0)), (1, .ref (ad 0)), (0, .ref b)] 388 [] := by
  refine l_aload_n C dL_law_388 rfl 2 rfl ?_
  obtain ⟨v, σ1, τ1, hf, hg, hI1⟩ := S σ z τ y  hI
  refine l_callX_i C [] (tX4_hour C.hJ hf) k_2_74 k_2_75 k_2_76 k_1_1 k_2_77 hyX4_hour ⟨rfl, rfl⟩ (by decide) rfl rfl (Nat.le_of_ble_eq_true rfl) dL_law_389 ?_
  refine l_aload_n C dL_law_392 rfl 1 rfl ?_
  refine l_callY_i C [] (tX5_hour C.hJ' hg) k_3_197 k_3_198 k_3_199 k_1_6 k_3_200 hyX5_hour ⟨rfl, rfl⟩ (by decide) rfl rfl (Nat.le_of_ble_eq_true rfl) dL_law_393 ?_
  exact l_icmp_eq (tgt := 1087) C dL_law_396 (by decide) (fun _ => kk _ _ _ _ hI1) (fun hq => absurd rfl hq)
set_option maxRecDepth 100000 in
set_option maxHeartbeats 4000000 in
theorem lc_11 (C : CL p s m meth c D cI cZ ad ad' b L xs) {I : eSt → Int64 → eSt → Int64 → Prop} (S : ES_undo I) {σ : eSt} {z : Int64} {τ : eSt} {y : Int64} (hI : I σ z τ y) {i : Nat} (hi : i + 6 ≤ L) (kk : ∀ σ' z' τ' y', I σ' z' τ' y' → WL p l e s m below meth c D cI cZ ad ad' b σ' z' τ' y' [(3, .int (nI i)), (2, .ref (ad' 0)), (1, .ref (ad 0)), (0, .ref b)] 1087 []) : WL p l e s m below meth c D cI cZ ad ad' b σ z τ y [(3, .int (nI i)), (2, .ref (ad' 0)), (1, .ref (ad 0)), (0, .ref b)] 401 [] := by
  refine l_aload_n C dL_law_401 rfl 2 rfl ?_
  obtain ⟨v, σ1, τ1, hf, hg, hI1⟩ := S σ z τ y  hI
  refine l_callX_i C [] (tX4_undo C.hJ hf) k_2_81 k_2_82 k_2_83 k_1_1 k_2_84 hyX4_undo ⟨rfl, rfl⟩ (by decide) rfl rfl (Nat.le_of_ble_eq_true rfl) dL_law_402 ?_
  refine l_aload_n C dL_law_405 rfl 1 rfl ?_
  refine l_callY_i C [] (tX5_undo C.hJ' hg) k_3_201 k_3_202 k_3_203 k_1_6 k_3_204 hyX5_undo ⟨rfl, rfl⟩ (by decide) rfl rfl (Nat.le_of_ble_eq_true rfl) dL_law_406 ?_
  exact l_icmp_eq (tgt := 1087) C dL_law_409 (by decide) (fun _ => kk _ _ _ _ hI1) (fun hq => absurd rfl hq)
set_option maxRecDepth 100000 in
set_option maxHeartbeats 4000000 in
theorem lc_12 (C : CL p s m meth c D cI cZ ad ad' b L xs) {I : eSt → Int64 → eSt → Int64 → Prop} (S : ES_heard I) {σ : eSt} {z : Int64} {τ : eSt} {y : Int64} (hI : I σ z τ y) {i : Nat} (hi : i + 6 ≤ L) (kk : ∀ σ' z' τ' y', I σ' z' τ' y' → WL p l e s m below meth c D cI cZ ad ad' b σ' z' τ' y' [(3, .int (nI i)), (2, .ref (ad' 0)), (1, .ref (ad 0)), (0, .ref b)] 1087 []) : WL p l e s m below meth c D cI cZ ad ad' b σ z τ y [(3, .int (nI i)), (2, .ref (ad' 0)), (1, .ref (ad 0)), (0, .ref b)] 414 [] := by
  refine l_aload_n C dL_law_414 rfl 2 rfl ?_
  refine l_aload_n C dL_law_415 rfl 3 rfl ?_
  refine l_iload_n C dL_law_416 rfl 0 rfl ?_
  refine l_iconst (v := 1) C dL_law_417 ic_1 ?_
  refine l_iadd C dL_law_418 ?_
  refine l_sld C (l_in (j := 1) (by decide) (by omega) C.hL) dL_law_419 ?_
  refine l_aload_n C dL_law_420 rfl 3 rfl ?_
  refine l_iload_n C dL_law_421 rfl 0 rfl ?_
  refine l_iconst (v := 2) C dL_law_422 ic_2 ?_
  refine l_iadd C dL_law_423 ?_
  refine l_sld C (l_in (j := 2) (by decide) (by omega) C.hL) dL_law_424 ?_
  obtain ⟨v, τ1, hf, hg, hI1⟩ := S σ z τ y (xs (nI i + 1).toNatClampNeg) (xs (nI i + 2).toNatClampNeg) hI
  refine l_callX_i C [.int (xs (nI i + 1).toNatClampNeg), .int (xs (nI i + 2).toNatClampNeg)] (tX4_heard C.hJ hf) k_2_89 k_2_90 k_2_91 k_1_1 k_2_92 hyX4_heard ⟨rfl, rfl⟩ (by decide) rfl rfl (Nat.le_of_ble_eq_true rfl) dL_law_425 ?_
  refine l_aload_n C dL_law_428 rfl 1 rfl ?_
  refine l_aload_n C dL_law_429 rfl 3 rfl ?_
  refine l_iload_n C dL_law_430 rfl 0 rfl ?_
  refine l_iconst (v := 1) C dL_law_431 ic_1 ?_
  refine l_iadd C dL_law_432 ?_
  refine l_sld C (l_in (j := 1) (by decide) (by omega) C.hL) dL_law_433 ?_
  refine l_aload_n C dL_law_434 rfl 3 rfl ?_
  refine l_iload_n C dL_law_435 rfl 0 rfl ?_
  refine l_iconst (v := 2) C dL_law_436 ic_2 ?_
  refine l_iadd C dL_law_437 ?_
  refine l_sld C (l_in (j := 2) (by decide) (by omega) C.hL) dL_law_438 ?_
  refine l_callY_i C [.int (xs (nI i + 1).toNatClampNeg), .int (xs (nI i + 2).toNatClampNeg)] (tX5_heard C.hJ' hg) k_3_205 k_3_206 k_3_207 k_1_6 k_3_208 hyX5_heard ⟨rfl, rfl⟩ (by decide) rfl rfl (Nat.le_of_ble_eq_true rfl) dL_law_439 ?_
  exact l_icmp_eq (tgt := 1087) C dL_law_442 (by decide) (fun _ => kk _ _ _ _ hI1) (fun hq => absurd rfl hq)
set_option maxRecDepth 100000 in
set_option maxHeartbeats 4000000 in
theorem lc_13 (C : CL p s m meth c D cI cZ ad ad' b L xs) {I : eSt → Int64 → eSt → Int64 → Prop} (S : ES_sure I) {σ : eSt} {z : Int64} {τ : eSt} {y : Int64} (hI : I σ z τ y) {i : Nat} (hi : i + 6 ≤ L) (kk : ∀ σ' z' τ' y', I σ' z' τ' y' → WL p l e s m below meth c D cI cZ ad ad' b σ' z' τ' y' [(3, .int (nI i)), (2, .ref (ad' 0)), (1, .ref (ad 0)), (0, .ref b)] 1087 []) : WL p l e s m below meth c D cI cZ ad ad' b σ z τ y [(3, .int (nI i)), (2, .ref (ad' 0)), (1, .ref (ad 0)), (0, .ref b)] 447 [] := by
  refine l_aload_n C dL_law_447 rfl 2 rfl ?_
  refine l_aload_n C dL_law_448 rfl 3 rfl ?_
  refine l_iload_n C dL_law_449 rfl 0 rfl ?_
  refine l_iconst (v := 1) C dL_law_450 ic_1 ?_
  refine l_iadd C dL_law_451 ?_
  refine l_sld C (l_in (j := 1) (by decide) (by omega) C.hL) dL_law_452 ?_
  obtain ⟨v, σ1, τ1, hf, hg, hI1⟩ := S σ z τ y (xs (nI i + 1).toNatClampNeg) hI
  refine l_callX_i C [.int (xs (nI i + 1).toNatClampNeg)] (tX4_sure C.hJ hf) k_2_96 k_2_97 k_2_98 k_1_1 k_2_99 hyX4_sure ⟨rfl, rfl⟩ (by decide) rfl rfl (Nat.le_of_ble_eq_true rfl) dL_law_453 ?_
  refine l_aload_n C dL_law_456 rfl 1 rfl ?_
  refine l_aload_n C dL_law_457 rfl 3 rfl ?_
  refine l_iload_n C dL_law_458 rfl 0 rfl ?_
  refine l_iconst (v := 1) C dL_law_459 ic_1 ?_
  refine l_iadd C dL_law_460 ?_
  refine l_sld C (l_in (j := 1) (by decide) (by omega) C.hL) dL_law_461 ?_
  refine l_callY_i C [.int (xs (nI i + 1).toNatClampNeg)] (tX5_sure C.hJ' hg) k_3_212 k_3_213 k_3_214 k_1_6 k_3_215 hyX5_sure ⟨rfl, rfl⟩ (by decide) rfl rfl (Nat.le_of_ble_eq_true rfl) dL_law_462 ?_
  exact l_icmp_eq (tgt := 1087) C dL_law_465 (by decide) (fun _ => kk _ _ _ _ hI1) (fun hq => absurd rfl hq)
set_option maxRecDepth 100000 in
set_option maxHeartbeats 4000000 in
theorem lc_14 (C : CL p s m meth c D cI cZ ad ad' b L xs) {I : eSt → Int64 → eSt → Int64 → Prop} (S : ES_where I) {σ : eSt} {z : Int64} {τ : eSt} {y : Int64} (hI : I σ z τ y) {i : Nat} (hi : i + 6 ≤ L) (kk : ∀ σ' z' τ' y', I σ' z' τ' y' → WL p l e s m below meth c D cI cZ ad ad' b σ' z' τ' y' [(3, .int (nI i)), (2, .ref (ad' 0)), (1, .ref (ad 0)), (0, .ref b)] 1087 []) : WL p l e s m below meth c D cI cZ ad ad' b σ z τ y [(3, .int (nI i)), (2, .ref (ad' 0)), (1, .ref (ad 0)), (0, .ref b)] 470 [] := by
  refine l_aload_n C dL_law_470 rfl 2 rfl ?_
  refine l_aload_n C dL_law_471 rfl 3 rfl ?_
  refine l_iload_n C dL_law_472 rfl 0 rfl ?_
  refine l_iconst (v := 1) C dL_law_473 ic_1 ?_
  refine l_iadd C dL_law_474 ?_
  refine l_sld C (l_in (j := 1) (by decide) (by omega) C.hL) dL_law_475 ?_
  refine l_aload_n C dL_law_476 rfl 3 rfl ?_
  refine l_iload_n C dL_law_477 rfl 0 rfl ?_
  refine l_iconst (v := 2) C dL_law_478 ic_2 ?_
  refine l_iadd C dL_law_479 ?_
  refine l_sld C (l_in (j := 2) (by decide) (by omega) C.hL) dL_law_480 ?_
  obtain ⟨v, τ1, hf, hg, hI1⟩ := S σ z τ y (xs (nI i + 1).toNatClampNeg) (xs (nI i + 2).toNatClampNeg) hI
  refine l_callX_i C [.int (xs (nI i + 1).toNatClampNeg), .int (xs (nI i + 2).toNatClampNeg)] (tX4_where C.hJ hf) k_2_116 k_2_117 k_2_118 k_1_1 k_2_119 hyX4_where ⟨rfl, rfl⟩ (by decide) rfl rfl (Nat.le_of_ble_eq_true rfl) dL_law_481 ?_
  refine l_aload_n C dL_law_484 rfl 1 rfl ?_
  refine l_aload_n C dL_law_485 rfl 3 rfl ?_
  refine l_iload_n C dL_law_486 rfl 0 rfl ?_
  refine l_iconst (v := 1) C dL_law_487 ic_1 ?_
  refine l_iadd C dL_law_488 ?_
  refine l_sld C (l_in (j := 1) (by decide) (by omega) C.hL) dL_law_489 ?_
  refine l_aload_n C dL_law_490 rfl 3 rfl ?_
  refine l_iload_n C dL_law_491 rfl 0 rfl ?_
  refine l_iconst (v := 2) C dL_law_492 ic_2 ?_
  refine l_iadd C dL_law_493 ?_
  refine l_sld C (l_in (j := 2) (by decide) (by omega) C.hL) dL_law_494 ?_
  refine l_callY_i C [.int (xs (nI i + 1).toNatClampNeg), .int (xs (nI i + 2).toNatClampNeg)] (tX5_where C.hJ' hg) k_3_220 k_3_221 k_3_222 k_1_6 k_3_223 hyX5_where ⟨rfl, rfl⟩ (by decide) rfl rfl (Nat.le_of_ble_eq_true rfl) dL_law_495 ?_
  exact l_icmp_eq (tgt := 1087) C dL_law_498 (by decide) (fun _ => kk _ _ _ _ hI1) (fun hq => absurd rfl hq)
set_option maxRecDepth 100000 in
set_option maxHeartbeats 4000000 in
theorem lc_15 (C : CL p s m meth c D cI cZ ad ad' b L xs) {I : eSt → Int64 → eSt → Int64 → Prop} (S : ES_when I) {σ : eSt} {z : Int64} {τ : eSt} {y : Int64} (hI : I σ z τ y) {i : Nat} (hi : i + 6 ≤ L) (kk : ∀ σ' z' τ' y', I σ' z' τ' y' → WL p l e s m below meth c D cI cZ ad ad' b σ' z' τ' y' [(3, .int (nI i)), (2, .ref (ad' 0)), (1, .ref (ad 0)), (0, .ref b)] 1087 []) : WL p l e s m below meth c D cI cZ ad ad' b σ z τ y [(3, .int (nI i)), (2, .ref (ad' 0)), (1, .ref (ad 0)), (0, .ref b)] 503 [] := by
  refine l_aload_n C dL_law_503 rfl 2 rfl ?_
  refine l_aload_n C dL_law_504 rfl 3 rfl ?_
  refine l_iload_n C dL_law_505 rfl 0 rfl ?_
  refine l_iconst (v := 1) C dL_law_506 ic_1 ?_
  refine l_iadd C dL_law_507 ?_
  refine l_sld C (l_in (j := 1) (by decide) (by omega) C.hL) dL_law_508 ?_
  refine l_aload_n C dL_law_509 rfl 3 rfl ?_
  refine l_iload_n C dL_law_510 rfl 0 rfl ?_
  refine l_iconst (v := 2) C dL_law_511 ic_2 ?_
  refine l_iadd C dL_law_512 ?_
  refine l_sld C (l_in (j := 2) (by decide) (by omega) C.hL) dL_law_513 ?_
  obtain ⟨v, τ1, hf, hg, hI1⟩ := S σ z τ y (xs (nI i + 1).toNatClampNeg) (xs (nI i + 2).toNatClampNeg) hI
  refine l_callX_i C [.int (xs (nI i + 1).toNatClampNeg), .int (xs (nI i + 2).toNatClampNeg)] (tX4_when C.hJ hf) k_2_123 k_2_124 k_2_125 k_1_1 k_2_126 hyX4_when ⟨rfl, rfl⟩ (by decide) rfl rfl (Nat.le_of_ble_eq_true rfl) dL_law_514 ?_
  refine l_aload_n C dL_law_517 rfl 1 rfl ?_
  refine l_aload_n C dL_law_518 rfl 3 rfl ?_
  refine l_iload_n C dL_law_519 rfl 0 rfl ?_
  refine l_iconst (v := 1) C dL_law_520 ic_1 ?_
  refine l_iadd C dL_law_521 ?_
  refine l_sld C (l_in (j := 1) (by decide) (by omega) C.hL) dL_law_522 ?_
  refine l_aload_n C dL_law_523 rfl 3 rfl ?_
  refine l_iload_n C dL_law_524 rfl 0 rfl ?_
  refine l_iconst (v := 2) C dL_law_525 ic_2 ?_
  refine l_iadd C dL_law_526 ?_
  refine l_sld C (l_in (j := 2) (by decide) (by omega) C.hL) dL_law_527 ?_
  refine l_callY_i C [.int (xs (nI i + 1).toNatClampNeg), .int (xs (nI i + 2).toNatClampNeg)] (tX5_when C.hJ' hg) k_3_224 k_3_225 k_3_226 k_1_6 k_3_227 hyX5_when ⟨rfl, rfl⟩ (by decide) rfl rfl (Nat.le_of_ble_eq_true rfl) dL_law_528 ?_
  exact l_icmp_eq (tgt := 1087) C dL_law_531 (by decide) (fun _ => kk _ _ _ _ hI1) (fun hq => absurd rfl hq)
set_option maxRecDepth 100000 in
set_option maxHeartbeats 4000000 in
theorem lc_16 (C : CL p s m meth c D cI cZ ad ad' b L xs) {I : eSt → Int64 → eSt → Int64 → Prop} (S : ES_spared I) {σ : eSt} {z : Int64} {τ : eSt} {y : Int64} (hI : I σ z τ y) {i : Nat} (hi : i + 6 ≤ L) (kk : ∀ σ' z' τ' y', I σ' z' τ' y' → WL p l e s m below meth c D cI cZ ad ad' b σ' z' τ' y' [(3, .int (nI i)), (2, .ref (ad' 0)), (1, .ref (ad 0)), (0, .ref b)] 1087 []) : WL p l e s m below meth c D cI cZ ad ad' b σ z τ y [(3, .int (nI i)), (2, .ref (ad' 0)), (1, .ref (ad 0)), (0, .ref b)] 536 [] := by
  refine l_aload_n C dL_law_536 rfl 2 rfl ?_
  refine l_aload_n C dL_law_537 rfl 3 rfl ?_
  refine l_iload_n C dL_law_538 rfl 0 rfl ?_
  refine l_iconst (v := 1) C dL_law_539 ic_1 ?_
  refine l_iadd C dL_law_540 ?_
  refine l_sld C (l_in (j := 1) (by decide) (by omega) C.hL) dL_law_541 ?_
  obtain ⟨v, σ1, τ1, hf, hg, hI1⟩ := S σ z τ y (xs (nI i + 1).toNatClampNeg) hI
  refine l_callX_i C [.int (xs (nI i + 1).toNatClampNeg)] (tX4_spared C.hJ hf) k_2_127 k_2_128 k_2_129 k_1_1 k_2_130 hyX4_spared ⟨rfl, rfl⟩ (by decide) rfl rfl (Nat.le_of_ble_eq_true rfl) dL_law_542 ?_
  refine l_aload_n C dL_law_545 rfl 1 rfl ?_
  refine l_aload_n C dL_law_546 rfl 3 rfl ?_
  refine l_iload_n C dL_law_547 rfl 0 rfl ?_
  refine l_iconst (v := 1) C dL_law_548 ic_1 ?_
  refine l_iadd C dL_law_549 ?_
  refine l_sld C (l_in (j := 1) (by decide) (by omega) C.hL) dL_law_550 ?_
  refine l_callY_i C [.int (xs (nI i + 1).toNatClampNeg)] (tX5_spared C.hJ' hg) k_3_228 k_3_229 k_3_230 k_1_6 k_3_231 hyX5_spared ⟨rfl, rfl⟩ (by decide) rfl rfl (Nat.le_of_ble_eq_true rfl) dL_law_551 ?_
  exact l_icmp_eq (tgt := 1087) C dL_law_554 (by decide) (fun _ => kk _ _ _ _ hI1) (fun hq => absurd rfl hq)
set_option maxRecDepth 100000 in
set_option maxHeartbeats 4000000 in
theorem lc_17 (C : CL p s m meth c D cI cZ ad ad' b L xs) {I : eSt → Int64 → eSt → Int64 → Prop} (S : ES_worth I) {σ : eSt} {z : Int64} {τ : eSt} {y : Int64} (hI : I σ z τ y) {i : Nat} (hi : i + 6 ≤ L) (kk : ∀ σ' z' τ' y', I σ' z' τ' y' → WL p l e s m below meth c D cI cZ ad ad' b σ' z' τ' y' [(3, .int (nI i)), (2, .ref (ad' 0)), (1, .ref (ad 0)), (0, .ref b)] 1087 []) : WL p l e s m below meth c D cI cZ ad ad' b σ z τ y [(3, .int (nI i)), (2, .ref (ad' 0)), (1, .ref (ad 0)), (0, .ref b)] 559 [] := by
  refine l_aload_n C dL_law_559 rfl 2 rfl ?_
  refine l_aload_n C dL_law_560 rfl 3 rfl ?_
  refine l_iload_n C dL_law_561 rfl 0 rfl ?_
  refine l_iconst (v := 1) C dL_law_562 ic_1 ?_
  refine l_iadd C dL_law_563 ?_
  refine l_sld C (l_in (j := 1) (by decide) (by omega) C.hL) dL_law_564 ?_
  refine l_aload_n C dL_law_565 rfl 3 rfl ?_
  refine l_iload_n C dL_law_566 rfl 0 rfl ?_
  refine l_iconst (v := 2) C dL_law_567 ic_2 ?_
  refine l_iadd C dL_law_568 ?_
  refine l_sld C (l_in (j := 2) (by decide) (by omega) C.hL) dL_law_569 ?_
  refine l_aload_n C dL_law_570 rfl 3 rfl ?_
  refine l_iload_n C dL_law_571 rfl 0 rfl ?_
  refine l_iconst (v := 3) C dL_law_572 ic_3 ?_
  refine l_iadd C dL_law_573 ?_
  refine l_sld C (l_in (j := 3) (by decide) (by omega) C.hL) dL_law_574 ?_
  refine l_if_eq (tgt := 582) C dL_law_575 (by decide) (fun hc => ?_) (fun hc => ?_)
  · have hc1 := hc
    refine l_iconst (v := 0) C dL_law_582 ic_0 ?_
    obtain ⟨v, σ1, τ1, hf, hg, hI1⟩ := S σ z τ y (xs (nI i + 1).toNatClampNeg) (xs (nI i + 2).toNatClampNeg) (0) hI (Or.inl rfl)
    refine l_callX_i C [.int (xs (nI i + 1).toNatClampNeg), .int (xs (nI i + 2).toNatClampNeg), .int (0)] (tX4_worth C.hJ hf) k_2_141 k_2_142 k_2_143 k_1_1 k_2_144 hyX4_worth ⟨rfl, rfl⟩ (by decide) rfl rfl (Nat.le_of_ble_eq_true rfl) dL_law_583 ?_
    refine l_aload_n C dL_law_586 rfl 1 rfl ?_
    refine l_aload_n C dL_law_587 rfl 3 rfl ?_
    refine l_iload_n C dL_law_588 rfl 0 rfl ?_
    refine l_iconst (v := 1) C dL_law_589 ic_1 ?_
    refine l_iadd C dL_law_590 ?_
    refine l_sld C (l_in (j := 1) (by decide) (by omega) C.hL) dL_law_591 ?_
    refine l_aload_n C dL_law_592 rfl 3 rfl ?_
    refine l_iload_n C dL_law_593 rfl 0 rfl ?_
    refine l_iconst (v := 2) C dL_law_594 ic_2 ?_
    refine l_iadd C dL_law_595 ?_
    refine l_sld C (l_in (j := 2) (by decide) (by omega) C.hL) dL_law_596 ?_
    refine l_aload_n C dL_law_597 rfl 3 rfl ?_
    refine l_iload_n C dL_law_598 rfl 0 rfl ?_
    refine l_iconst (v := 3) C dL_law_599 ic_3 ?_
    refine l_iadd C dL_law_600 ?_
    refine l_sld C (l_in (j := 3) (by decide) (by omega) C.hL) dL_law_601 ?_
    refine l_if_eq (tgt := 609) C dL_law_602 (by decide) (fun hc => ?_) (fun hc => ?_)
    · refine l_iconst (v := 0) C dL_law_609 ic_0 ?_
      refine l_callY_i C [.int (xs (nI i + 1).toNatClampNeg), .int (xs (nI i + 2).toNatClampNeg), .int (0)] (tX5_worth C.hJ' hg) k_3_239 k_4_0 k_4_1 k_1_6 k_4_2 hyX5_worth ⟨rfl, rfl⟩ (by decide) rfl rfl (Nat.le_of_ble_eq_true rfl) dL_law_610 ?_
      exact l_icmp_eq (tgt := 1087) C dL_law_613 (by decide) (fun _ => kk _ _ _ _ hI1) (fun hq => absurd rfl hq)
    · exact absurd hc1 hc
  · have hc1 := hc
    refine l_iconst (v := 1) C dL_law_578 ic_1 ?_
    refine l_goto (tgt := 583) C dL_law_579 (by decide) ?_
    obtain ⟨v, σ1, τ1, hf, hg, hI1⟩ := S σ z τ y (xs (nI i + 1).toNatClampNeg) (xs (nI i + 2).toNatClampNeg) (1) hI (Or.inr rfl)
    refine l_callX_i C [.int (xs (nI i + 1).toNatClampNeg), .int (xs (nI i + 2).toNatClampNeg), .int (1)] (tX4_worth C.hJ hf) k_2_141 k_2_142 k_2_143 k_1_1 k_2_144 hyX4_worth ⟨rfl, rfl⟩ (by decide) rfl rfl (Nat.le_of_ble_eq_true rfl) dL_law_583 ?_
    refine l_aload_n C dL_law_586 rfl 1 rfl ?_
    refine l_aload_n C dL_law_587 rfl 3 rfl ?_
    refine l_iload_n C dL_law_588 rfl 0 rfl ?_
    refine l_iconst (v := 1) C dL_law_589 ic_1 ?_
    refine l_iadd C dL_law_590 ?_
    refine l_sld C (l_in (j := 1) (by decide) (by omega) C.hL) dL_law_591 ?_
    refine l_aload_n C dL_law_592 rfl 3 rfl ?_
    refine l_iload_n C dL_law_593 rfl 0 rfl ?_
    refine l_iconst (v := 2) C dL_law_594 ic_2 ?_
    refine l_iadd C dL_law_595 ?_
    refine l_sld C (l_in (j := 2) (by decide) (by omega) C.hL) dL_law_596 ?_
    refine l_aload_n C dL_law_597 rfl 3 rfl ?_
    refine l_iload_n C dL_law_598 rfl 0 rfl ?_
    refine l_iconst (v := 3) C dL_law_599 ic_3 ?_
    refine l_iadd C dL_law_600 ?_
    refine l_sld C (l_in (j := 3) (by decide) (by omega) C.hL) dL_law_601 ?_
    refine l_if_eq (tgt := 609) C dL_law_602 (by decide) (fun hc => ?_) (fun hc => ?_)
    · exact absurd hc hc1
    · refine l_iconst (v := 1) C dL_law_605 ic_1 ?_
      refine l_goto (tgt := 610) C dL_law_606 (by decide) ?_
      refine l_callY_i C [.int (xs (nI i + 1).toNatClampNeg), .int (xs (nI i + 2).toNatClampNeg), .int (1)] (tX5_worth C.hJ' hg) k_3_239 k_4_0 k_4_1 k_1_6 k_4_2 hyX5_worth ⟨rfl, rfl⟩ (by decide) rfl rfl (Nat.le_of_ble_eq_true rfl) dL_law_610 ?_
      exact l_icmp_eq (tgt := 1087) C dL_law_613 (by decide) (fun _ => kk _ _ _ _ hI1) (fun hq => absurd rfl hq)
set_option maxRecDepth 100000 in
set_option maxHeartbeats 4000000 in
theorem lc_18 (C : CL p s m meth c D cI cZ ad ad' b L xs) {I : eSt → Int64 → eSt → Int64 → Prop} (S : ES_hammers I) {σ : eSt} {z : Int64} {τ : eSt} {y : Int64} (hI : I σ z τ y) {i : Nat} (hi : i + 6 ≤ L) (kk : ∀ σ' z' τ' y', I σ' z' τ' y' → WL p l e s m below meth c D cI cZ ad ad' b σ' z' τ' y' [(3, .int (nI i)), (2, .ref (ad' 0)), (1, .ref (ad 0)), (0, .ref b)] 1087 []) : WL p l e s m below meth c D cI cZ ad ad' b σ z τ y [(3, .int (nI i)), (2, .ref (ad' 0)), (1, .ref (ad 0)), (0, .ref b)] 618 [] := by
  refine l_aload_n C dL_law_618 rfl 2 rfl ?_
  refine l_aload_n C dL_law_619 rfl 3 rfl ?_
  refine l_iload_n C dL_law_620 rfl 0 rfl ?_
  refine l_iconst (v := 1) C dL_law_621 ic_1 ?_
  refine l_iadd C dL_law_622 ?_
  refine l_sld C (l_in (j := 1) (by decide) (by omega) C.hL) dL_law_623 ?_
  refine l_aload_n C dL_law_624 rfl 3 rfl ?_
  refine l_iload_n C dL_law_625 rfl 0 rfl ?_
  refine l_iconst (v := 2) C dL_law_626 ic_2 ?_
  refine l_iadd C dL_law_627 ?_
  refine l_sld C (l_in (j := 2) (by decide) (by omega) C.hL) dL_law_628 ?_
  refine l_aload_n C dL_law_629 rfl 3 rfl ?_
  refine l_iload_n C dL_law_630 rfl 0 rfl ?_
  refine l_iconst (v := 3) C dL_law_631 ic_3 ?_
  refine l_iadd C dL_law_632 ?_
  refine l_sld C (l_in (j := 3) (by decide) (by omega) C.hL) dL_law_633 ?_
  obtain ⟨v, σ1, τ1, hf, hg, hI1⟩ := S σ z τ y (xs (nI i + 1).toNatClampNeg) (xs (nI i + 2).toNatClampNeg) (xs (nI i + 3).toNatClampNeg) hI
  refine l_callX_i C [.int (xs (nI i + 1).toNatClampNeg), .int (xs (nI i + 2).toNatClampNeg), .int (xs (nI i + 3).toNatClampNeg)] (tX4_hammers C.hJ hf) k_2_155 k_2_156 k_2_157 k_1_1 k_2_158 hyX4_hammers ⟨rfl, rfl⟩ (by decide) rfl rfl (Nat.le_of_ble_eq_true rfl) dL_law_634 ?_
  refine l_aload_n C dL_law_637 rfl 1 rfl ?_
  refine l_aload_n C dL_law_638 rfl 3 rfl ?_
  refine l_iload_n C dL_law_639 rfl 0 rfl ?_
  refine l_iconst (v := 1) C dL_law_640 ic_1 ?_
  refine l_iadd C dL_law_641 ?_
  refine l_sld C (l_in (j := 1) (by decide) (by omega) C.hL) dL_law_642 ?_
  refine l_aload_n C dL_law_643 rfl 3 rfl ?_
  refine l_iload_n C dL_law_644 rfl 0 rfl ?_
  refine l_iconst (v := 2) C dL_law_645 ic_2 ?_
  refine l_iadd C dL_law_646 ?_
  refine l_sld C (l_in (j := 2) (by decide) (by omega) C.hL) dL_law_647 ?_
  refine l_aload_n C dL_law_648 rfl 3 rfl ?_
  refine l_iload_n C dL_law_649 rfl 0 rfl ?_
  refine l_iconst (v := 3) C dL_law_650 ic_3 ?_
  refine l_iadd C dL_law_651 ?_
  refine l_sld C (l_in (j := 3) (by decide) (by omega) C.hL) dL_law_652 ?_
  refine l_callY_i C [.int (xs (nI i + 1).toNatClampNeg), .int (xs (nI i + 2).toNatClampNeg), .int (xs (nI i + 3).toNatClampNeg)] (tX5_hammers C.hJ' hg) k_4_12 k_4_13 k_4_14 k_1_6 k_4_15 hyX5_hammers ⟨rfl, rfl⟩ (by decide) rfl rfl (Nat.le_of_ble_eq_true rfl) dL_law_653 ?_
  exact l_icmp_eq (tgt := 1087) C dL_law_656 (by decide) (fun _ => kk _ _ _ _ hI1) (fun hq => absurd rfl hq)
set_option maxRecDepth 100000 in
set_option maxHeartbeats 4000000 in
theorem lc_19 (C : CL p s m meth c D cI cZ ad ad' b L xs) {I : eSt → Int64 → eSt → Int64 → Prop} (S : ES_bestHours I) {σ : eSt} {z : Int64} {τ : eSt} {y : Int64} (hI : I σ z τ y) {i : Nat} (hi : i + 6 ≤ L) (kk : ∀ σ' z' τ' y', I σ' z' τ' y' → WL p l e s m below meth c D cI cZ ad ad' b σ' z' τ' y' [(3, .int (nI i)), (2, .ref (ad' 0)), (1, .ref (ad 0)), (0, .ref b)] 1087 []) : WL p l e s m below meth c D cI cZ ad ad' b σ z τ y [(3, .int (nI i)), (2, .ref (ad' 0)), (1, .ref (ad 0)), (0, .ref b)] 661 [] := by
  refine l_aload_n C dL_law_661 rfl 2 rfl ?_
  refine l_aload_n C dL_law_662 rfl 3 rfl ?_
  refine l_iload_n C dL_law_663 rfl 0 rfl ?_
  refine l_iconst (v := 1) C dL_law_664 ic_1 ?_
  refine l_iadd C dL_law_665 ?_
  refine l_sld C (l_in (j := 1) (by decide) (by omega) C.hL) dL_law_666 ?_
  refine l_aload_n C dL_law_667 rfl 3 rfl ?_
  refine l_iload_n C dL_law_668 rfl 0 rfl ?_
  refine l_iconst (v := 2) C dL_law_669 ic_2 ?_
  refine l_iadd C dL_law_670 ?_
  refine l_sld C (l_in (j := 2) (by decide) (by omega) C.hL) dL_law_671 ?_
  obtain ⟨v, σ1, τ1, hf, hg, hI1⟩ := S σ z τ y (xs (nI i + 1).toNatClampNeg) (xs (nI i + 2).toNatClampNeg) hI
  refine l_callX_i C [.int (xs (nI i + 1).toNatClampNeg), .int (xs (nI i + 2).toNatClampNeg)] (tX4_bestHours C.hJ hf) k_2_170 k_2_171 k_2_172 k_1_1 k_2_173 hyX4_bestHours ⟨rfl, rfl⟩ (by decide) rfl rfl (Nat.le_of_ble_eq_true rfl) dL_law_672 ?_
  refine l_aload_n C dL_law_675 rfl 1 rfl ?_
  refine l_aload_n C dL_law_676 rfl 3 rfl ?_
  refine l_iload_n C dL_law_677 rfl 0 rfl ?_
  refine l_iconst (v := 1) C dL_law_678 ic_1 ?_
  refine l_iadd C dL_law_679 ?_
  refine l_sld C (l_in (j := 1) (by decide) (by omega) C.hL) dL_law_680 ?_
  refine l_aload_n C dL_law_681 rfl 3 rfl ?_
  refine l_iload_n C dL_law_682 rfl 0 rfl ?_
  refine l_iconst (v := 2) C dL_law_683 ic_2 ?_
  refine l_iadd C dL_law_684 ?_
  refine l_sld C (l_in (j := 2) (by decide) (by omega) C.hL) dL_law_685 ?_
  refine l_callY_i C [.int (xs (nI i + 1).toNatClampNeg), .int (xs (nI i + 2).toNatClampNeg)] (tX5_bestHours C.hJ' hg) k_4_25 k_4_26 k_4_27 k_1_6 k_4_28 hyX5_bestHours ⟨rfl, rfl⟩ (by decide) rfl rfl (Nat.le_of_ble_eq_true rfl) dL_law_686 ?_
  exact l_icmp_eq (tgt := 1087) C dL_law_689 (by decide) (fun _ => kk _ _ _ _ hI1) (fun hq => absurd rfl hq)
set_option maxRecDepth 100000 in
set_option maxHeartbeats 4000000 in
theorem lc_20 (C : CL p s m meth c D cI cZ ad ad' b L xs) {I : eSt → Int64 → eSt → Int64 → Prop} (S : ES_grounded I) {σ : eSt} {z : Int64} {τ : eSt} {y : Int64} (hI : I σ z τ y) {i : Nat} (hi : i + 6 ≤ L) (kk : ∀ σ' z' τ' y', I σ' z' τ' y' → WL p l e s m below meth c D cI cZ ad ad' b σ' z' τ' y' [(3, .int (nI i)), (2, .ref (ad' 0)), (1, .ref (ad 0)), (0, .ref b)] 1087 []) : WL p l e s m below meth c D cI cZ ad ad' b σ z τ y [(3, .int (nI i)), (2, .ref (ad' 0)), (1, .ref (ad 0)), (0, .ref b)] 694 [] := by
  refine l_aload_n C dL_law_694 rfl 2 rfl ?_
  refine l_aload_n C dL_law_695 rfl 3 rfl ?_
  refine l_iload_n C dL_law_696 rfl 0 rfl ?_
  refine l_iconst (v := 1) C dL_law_697 ic_1 ?_
  refine l_iadd C dL_law_698 ?_
  refine l_sld C (l_in (j := 1) (by decide) (by omega) C.hL) dL_law_699 ?_
  refine l_aload_n C dL_law_700 rfl 3 rfl ?_
  refine l_iload_n C dL_law_701 rfl 0 rfl ?_
  refine l_iconst (v := 2) C dL_law_702 ic_2 ?_
  refine l_iadd C dL_law_703 ?_
  refine l_sld C (l_in (j := 2) (by decide) (by omega) C.hL) dL_law_704 ?_
  refine l_aload_n C dL_law_705 rfl 3 rfl ?_
  refine l_iload_n C dL_law_706 rfl 0 rfl ?_
  refine l_iconst (v := 3) C dL_law_707 ic_3 ?_
  refine l_iadd C dL_law_708 ?_
  refine l_sld C (l_in (j := 3) (by decide) (by omega) C.hL) dL_law_709 ?_
  refine l_aload_n C dL_law_710 rfl 3 rfl ?_
  refine l_iload_n C dL_law_711 rfl 0 rfl ?_
  refine l_iconst (v := 4) C dL_law_712 ic_4 ?_
  refine l_iadd C dL_law_713 ?_
  refine l_sld C (l_in (j := 4) (by decide) (by omega) C.hL) dL_law_714 ?_
  refine l_aload_n C dL_law_715 rfl 3 rfl ?_
  refine l_iload_n C dL_law_716 rfl 0 rfl ?_
  refine l_iconst (v := 5) C dL_law_717 ic_5 ?_
  refine l_iadd C dL_law_718 ?_
  refine l_sld C (l_in (j := 5) (by decide) (by omega) C.hL) dL_law_719 ?_
  obtain ⟨v, τ1, hf, hg, hI1⟩ := S σ z τ y (xs (nI i + 1).toNatClampNeg) (xs (nI i + 2).toNatClampNeg) (xs (nI i + 3).toNatClampNeg) (xs (nI i + 4).toNatClampNeg) (xs (nI i + 5).toNatClampNeg) hI
  refine l_callX_i C [.int (xs (nI i + 1).toNatClampNeg), .int (xs (nI i + 2).toNatClampNeg), .int (xs (nI i + 3).toNatClampNeg), .int (xs (nI i + 4).toNatClampNeg), .int (xs (nI i + 5).toNatClampNeg)] (tX4_grounded C.hJ hf) k_2_174 k_2_175 k_2_176 k_1_1 k_2_177 hyX4_grounded ⟨rfl, rfl⟩ (by decide) rfl rfl (Nat.le_of_ble_eq_true rfl) dL_law_720 ?_
  refine l_aload_n C dL_law_723 rfl 1 rfl ?_
  refine l_aload_n C dL_law_724 rfl 3 rfl ?_
  refine l_iload_n C dL_law_725 rfl 0 rfl ?_
  refine l_iconst (v := 1) C dL_law_726 ic_1 ?_
  refine l_iadd C dL_law_727 ?_
  refine l_sld C (l_in (j := 1) (by decide) (by omega) C.hL) dL_law_728 ?_
  refine l_aload_n C dL_law_729 rfl 3 rfl ?_
  refine l_iload_n C dL_law_730 rfl 0 rfl ?_
  refine l_iconst (v := 2) C dL_law_731 ic_2 ?_
  refine l_iadd C dL_law_732 ?_
  refine l_sld C (l_in (j := 2) (by decide) (by omega) C.hL) dL_law_733 ?_
  refine l_aload_n C dL_law_734 rfl 3 rfl ?_
  refine l_iload_n C dL_law_735 rfl 0 rfl ?_
  refine l_iconst (v := 3) C dL_law_736 ic_3 ?_
  refine l_iadd C dL_law_737 ?_
  refine l_sld C (l_in (j := 3) (by decide) (by omega) C.hL) dL_law_738 ?_
  refine l_aload_n C dL_law_739 rfl 3 rfl ?_
  refine l_iload_n C dL_law_740 rfl 0 rfl ?_
  refine l_iconst (v := 4) C dL_law_741 ic_4 ?_
  refine l_iadd C dL_law_742 ?_
  refine l_sld C (l_in (j := 4) (by decide) (by omega) C.hL) dL_law_743 ?_
  refine l_aload_n C dL_law_744 rfl 3 rfl ?_
  refine l_iload_n C dL_law_745 rfl 0 rfl ?_
  refine l_iconst (v := 5) C dL_law_746 ic_5 ?_
  refine l_iadd C dL_law_747 ?_
  refine l_sld C (l_in (j := 5) (by decide) (by omega) C.hL) dL_law_748 ?_
  refine l_callY_i C [.int (xs (nI i + 1).toNatClampNeg), .int (xs (nI i + 2).toNatClampNeg), .int (xs (nI i + 3).toNatClampNeg), .int (xs (nI i + 4).toNatClampNeg), .int (xs (nI i + 5).toNatClampNeg)] (tX5_grounded C.hJ' hg) k_4_29 k_4_30 k_4_31 k_1_6 k_4_32 hyX5_grounded ⟨rfl, rfl⟩ (by decide) rfl rfl (Nat.le_of_ble_eq_true rfl) dL_law_749 ?_
  exact l_icmp_eq (tgt := 1087) C dL_law_752 (by decide) (fun _ => kk _ _ _ _ hI1) (fun hq => absurd rfl hq)
set_option maxRecDepth 100000 in
set_option maxHeartbeats 4000000 in
theorem lc_21 (C : CL p s m meth c D cI cZ ad ad' b L xs) {I : eSt → Int64 → eSt → Int64 → Prop} (S : ES_see I) {σ : eSt} {z : Int64} {τ : eSt} {y : Int64} (hI : I σ z τ y) {i : Nat} (hi : i + 6 ≤ L) (kk : ∀ σ' z' τ' y', I σ' z' τ' y' → WL p l e s m below meth c D cI cZ ad ad' b σ' z' τ' y' [(3, .int (nI i)), (2, .ref (ad' 0)), (1, .ref (ad 0)), (0, .ref b)] 1087 []) : WL p l e s m below meth c D cI cZ ad ad' b σ z τ y [(3, .int (nI i)), (2, .ref (ad' 0)), (1, .ref (ad 0)), (0, .ref b)] 757 [] := by
  refine l_aload_n C dL_law_757 rfl 2 rfl ?_
  refine l_aload_n C dL_law_758 rfl 3 rfl ?_
  refine l_iload_n C dL_law_759 rfl 0 rfl ?_
  refine l_iconst (v := 1) C dL_law_760 ic_1 ?_
  refine l_iadd C dL_law_761 ?_
  refine l_sld C (l_in (j := 1) (by decide) (by omega) C.hL) dL_law_762 ?_
  refine l_aload_n C dL_law_763 rfl 3 rfl ?_
  refine l_iload_n C dL_law_764 rfl 0 rfl ?_
  refine l_iconst (v := 2) C dL_law_765 ic_2 ?_
  refine l_iadd C dL_law_766 ?_
  refine l_sld C (l_in (j := 2) (by decide) (by omega) C.hL) dL_law_767 ?_
  refine l_aload_n C dL_law_768 rfl 3 rfl ?_
  refine l_iload_n C dL_law_769 rfl 0 rfl ?_
  refine l_iconst (v := 3) C dL_law_770 ic_3 ?_
  refine l_iadd C dL_law_771 ?_
  refine l_sld C (l_in (j := 3) (by decide) (by omega) C.hL) dL_law_772 ?_
  refine l_aload_n C dL_law_773 rfl 3 rfl ?_
  refine l_iload_n C dL_law_774 rfl 0 rfl ?_
  refine l_iconst (v := 4) C dL_law_775 ic_4 ?_
  refine l_iadd C dL_law_776 ?_
  refine l_sld C (l_in (j := 4) (by decide) (by omega) C.hL) dL_law_777 ?_
  refine l_if_eq (tgt := 785) C dL_law_778 (by decide) (fun hc => ?_) (fun hc => ?_)
  · have hc1 := hc
    refine l_iconst (v := 0) C dL_law_785 ic_0 ?_
    obtain ⟨v, σ1, τ1, hf, hg, hI1⟩ := S σ z τ y (xs (nI i + 1).toNatClampNeg) (xs (nI i + 2).toNatClampNeg) (xs (nI i + 3).toNatClampNeg) (0) hI (Or.inl rfl)
    refine l_callX_i C [.int (xs (nI i + 1).toNatClampNeg), .int (xs (nI i + 2).toNatClampNeg), .int (xs (nI i + 3).toNatClampNeg), .int (0)] (tX4_see C.hJ hf) k_2_178 k_2_179 k_2_180 k_1_1 k_2_181 hyX4_see ⟨rfl, rfl⟩ (by decide) rfl rfl (Nat.le_of_ble_eq_true rfl) dL_law_786 ?_
    refine l_aload_n C dL_law_789 rfl 1 rfl ?_
    refine l_aload_n C dL_law_790 rfl 3 rfl ?_
    refine l_iload_n C dL_law_791 rfl 0 rfl ?_
    refine l_iconst (v := 1) C dL_law_792 ic_1 ?_
    refine l_iadd C dL_law_793 ?_
    refine l_sld C (l_in (j := 1) (by decide) (by omega) C.hL) dL_law_794 ?_
    refine l_aload_n C dL_law_795 rfl 3 rfl ?_
    refine l_iload_n C dL_law_796 rfl 0 rfl ?_
    refine l_iconst (v := 2) C dL_law_797 ic_2 ?_
    refine l_iadd C dL_law_798 ?_
    refine l_sld C (l_in (j := 2) (by decide) (by omega) C.hL) dL_law_799 ?_
    refine l_aload_n C dL_law_800 rfl 3 rfl ?_
    refine l_iload_n C dL_law_801 rfl 0 rfl ?_
    refine l_iconst (v := 3) C dL_law_802 ic_3 ?_
    refine l_iadd C dL_law_803 ?_
    refine l_sld C (l_in (j := 3) (by decide) (by omega) C.hL) dL_law_804 ?_
    refine l_aload_n C dL_law_805 rfl 3 rfl ?_
    refine l_iload_n C dL_law_806 rfl 0 rfl ?_
    refine l_iconst (v := 4) C dL_law_807 ic_4 ?_
    refine l_iadd C dL_law_808 ?_
    refine l_sld C (l_in (j := 4) (by decide) (by omega) C.hL) dL_law_809 ?_
    refine l_if_eq (tgt := 817) C dL_law_810 (by decide) (fun hc => ?_) (fun hc => ?_)
    · refine l_iconst (v := 0) C dL_law_817 ic_0 ?_
      refine l_callY_i C [.int (xs (nI i + 1).toNatClampNeg), .int (xs (nI i + 2).toNatClampNeg), .int (xs (nI i + 3).toNatClampNeg), .int (0)] (tX5_see C.hJ' hg) k_4_33 k_4_34 k_4_35 k_1_6 k_4_36 hyX5_see ⟨rfl, rfl⟩ (by decide) rfl rfl (Nat.le_of_ble_eq_true rfl) dL_law_818 ?_
      exact l_icmp_eq (tgt := 1087) C dL_law_821 (by decide) (fun _ => kk _ _ _ _ hI1) (fun hq => absurd rfl hq)
    · exact absurd hc1 hc
  · have hc1 := hc
    refine l_iconst (v := 1) C dL_law_781 ic_1 ?_
    refine l_goto (tgt := 786) C dL_law_782 (by decide) ?_
    obtain ⟨v, σ1, τ1, hf, hg, hI1⟩ := S σ z τ y (xs (nI i + 1).toNatClampNeg) (xs (nI i + 2).toNatClampNeg) (xs (nI i + 3).toNatClampNeg) (1) hI (Or.inr rfl)
    refine l_callX_i C [.int (xs (nI i + 1).toNatClampNeg), .int (xs (nI i + 2).toNatClampNeg), .int (xs (nI i + 3).toNatClampNeg), .int (1)] (tX4_see C.hJ hf) k_2_178 k_2_179 k_2_180 k_1_1 k_2_181 hyX4_see ⟨rfl, rfl⟩ (by decide) rfl rfl (Nat.le_of_ble_eq_true rfl) dL_law_786 ?_
    refine l_aload_n C dL_law_789 rfl 1 rfl ?_
    refine l_aload_n C dL_law_790 rfl 3 rfl ?_
    refine l_iload_n C dL_law_791 rfl 0 rfl ?_
    refine l_iconst (v := 1) C dL_law_792 ic_1 ?_
    refine l_iadd C dL_law_793 ?_
    refine l_sld C (l_in (j := 1) (by decide) (by omega) C.hL) dL_law_794 ?_
    refine l_aload_n C dL_law_795 rfl 3 rfl ?_
    refine l_iload_n C dL_law_796 rfl 0 rfl ?_
    refine l_iconst (v := 2) C dL_law_797 ic_2 ?_
    refine l_iadd C dL_law_798 ?_
    refine l_sld C (l_in (j := 2) (by decide) (by omega) C.hL) dL_law_799 ?_
    refine l_aload_n C dL_law_800 rfl 3 rfl ?_
    refine l_iload_n C dL_law_801 rfl 0 rfl ?_
    refine l_iconst (v := 3) C dL_law_802 ic_3 ?_
    refine l_iadd C dL_law_803 ?_
    refine l_sld C (l_in (j := 3) (by decide) (by omega) C.hL) dL_law_804 ?_
    refine l_aload_n C dL_law_805 rfl 3 rfl ?_
    refine l_iload_n C dL_law_806 rfl 0 rfl ?_
    refine l_iconst (v := 4) C dL_law_807 ic_4 ?_
    refine l_iadd C dL_law_808 ?_
    refine l_sld C (l_in (j := 4) (by decide) (by omega) C.hL) dL_law_809 ?_
    refine l_if_eq (tgt := 817) C dL_law_810 (by decide) (fun hc => ?_) (fun hc => ?_)
    · exact absurd hc hc1
    · refine l_iconst (v := 1) C dL_law_813 ic_1 ?_
      refine l_goto (tgt := 818) C dL_law_814 (by decide) ?_
      refine l_callY_i C [.int (xs (nI i + 1).toNatClampNeg), .int (xs (nI i + 2).toNatClampNeg), .int (xs (nI i + 3).toNatClampNeg), .int (1)] (tX5_see C.hJ' hg) k_4_33 k_4_34 k_4_35 k_1_6 k_4_36 hyX5_see ⟨rfl, rfl⟩ (by decide) rfl rfl (Nat.le_of_ble_eq_true rfl) dL_law_818 ?_
      exact l_icmp_eq (tgt := 1087) C dL_law_821 (by decide) (fun _ => kk _ _ _ _ hI1) (fun hq => absurd rfl hq)
set_option maxRecDepth 100000 in
set_option maxHeartbeats 4000000 in
theorem lc_22 (C : CL p s m meth c D cI cZ ad ad' b L xs) {I : eSt → Int64 → eSt → Int64 → Prop} (S : ES_unsee I) {σ : eSt} {z : Int64} {τ : eSt} {y : Int64} (hI : I σ z τ y) {i : Nat} (hi : i + 6 ≤ L) (kk : ∀ σ' z' τ' y', I σ' z' τ' y' → WL p l e s m below meth c D cI cZ ad ad' b σ' z' τ' y' [(3, .int (nI i)), (2, .ref (ad' 0)), (1, .ref (ad 0)), (0, .ref b)] 1087 []) : WL p l e s m below meth c D cI cZ ad ad' b σ z τ y [(3, .int (nI i)), (2, .ref (ad' 0)), (1, .ref (ad 0)), (0, .ref b)] 826 [] := by
  refine l_aload_n C dL_law_826 rfl 2 rfl ?_
  obtain ⟨v, σ1, τ1, hf, hg, hI1⟩ := S σ z τ y  hI
  refine l_callX_i C [] (tX4_unsee C.hJ hf) k_2_186 k_2_187 k_2_188 k_1_1 k_2_189 hyX4_unsee ⟨rfl, rfl⟩ (by decide) rfl rfl (Nat.le_of_ble_eq_true rfl) dL_law_827 ?_
  refine l_aload_n C dL_law_830 rfl 1 rfl ?_
  refine l_callY_i C [] (tX5_unsee C.hJ' hg) k_4_37 k_4_38 k_4_39 k_1_6 k_4_40 hyX5_unsee ⟨rfl, rfl⟩ (by decide) rfl rfl (Nat.le_of_ble_eq_true rfl) dL_law_831 ?_
  exact l_icmp_eq (tgt := 1087) C dL_law_834 (by decide) (fun _ => kk _ _ _ _ hI1) (fun hq => absurd rfl hq)
set_option maxRecDepth 100000 in
set_option maxHeartbeats 4000000 in
theorem lc_23 (C : CL p s m meth c D cI cZ ad ad' b L xs) {I : eSt → Int64 → eSt → Int64 → Prop} (S : ES_weather I) {σ : eSt} {z : Int64} {τ : eSt} {y : Int64} (hI : I σ z τ y) {i : Nat} (hi : i + 6 ≤ L) (kk : ∀ σ' z' τ' y', I σ' z' τ' y' → WL p l e s m below meth c D cI cZ ad ad' b σ' z' τ' y' [(3, .int (nI i)), (2, .ref (ad' 0)), (1, .ref (ad 0)), (0, .ref b)] 1087 []) : WL p l e s m below meth c D cI cZ ad ad' b σ z τ y [(3, .int (nI i)), (2, .ref (ad' 0)), (1, .ref (ad 0)), (0, .ref b)] 839 [] := by
  refine l_aload_n C dL_law_839 rfl 2 rfl ?_
  refine l_aload_n C dL_law_840 rfl 3 rfl ?_
  refine l_iload_n C dL_law_841 rfl 0 rfl ?_
  refine l_iconst (v := 1) C dL_law_842 ic_1 ?_
  refine l_iadd C dL_law_843 ?_
  refine l_sld C (l_in (j := 1) (by decide) (by omega) C.hL) dL_law_844 ?_
  obtain ⟨v, τ1, hf, hg, hI1⟩ := S σ z τ y (xs (nI i + 1).toNatClampNeg) hI
  refine l_callX_i C [.int (xs (nI i + 1).toNatClampNeg)] (tX4_weather C.hJ hf) k_2_190 k_2_191 k_2_192 k_1_1 k_2_193 hyX4_weather ⟨rfl, rfl⟩ (by decide) rfl rfl (Nat.le_of_ble_eq_true rfl) dL_law_845 ?_
  refine l_aload_n C dL_law_848 rfl 1 rfl ?_
  refine l_aload_n C dL_law_849 rfl 3 rfl ?_
  refine l_iload_n C dL_law_850 rfl 0 rfl ?_
  refine l_iconst (v := 1) C dL_law_851 ic_1 ?_
  refine l_iadd C dL_law_852 ?_
  refine l_sld C (l_in (j := 1) (by decide) (by omega) C.hL) dL_law_853 ?_
  refine l_callY_i C [.int (xs (nI i + 1).toNatClampNeg)] (tX5_weather C.hJ' hg) k_4_41 k_4_42 k_4_43 k_1_6 k_4_44 hyX5_weather ⟨rfl, rfl⟩ (by decide) rfl rfl (Nat.le_of_ble_eq_true rfl) dL_law_854 ?_
  exact l_icmp_eq (tgt := 1087) C dL_law_857 (by decide) (fun _ => kk _ _ _ _ hI1) (fun hq => absurd rfl hq)
set_option maxRecDepth 100000 in
set_option maxHeartbeats 4000000 in
theorem lc_24 (C : CL p s m meth c D cI cZ ad ad' b L xs) {I : eSt → Int64 → eSt → Int64 → Prop} (S : ES_rivals I) {σ : eSt} {z : Int64} {τ : eSt} {y : Int64} (hI : I σ z τ y) {i : Nat} (hi : i + 6 ≤ L) (kk : ∀ σ' z' τ' y', I σ' z' τ' y' → WL p l e s m below meth c D cI cZ ad ad' b σ' z' τ' y' [(3, .int (nI i)), (2, .ref (ad' 0)), (1, .ref (ad 0)), (0, .ref b)] 1087 []) : WL p l e s m below meth c D cI cZ ad ad' b σ z τ y [(3, .int (nI i)), (2, .ref (ad' 0)), (1, .ref (ad 0)), (0, .ref b)] 862 [] := by
  refine l_aload_n C dL_law_862 rfl 2 rfl ?_
  refine l_aload_n C dL_law_863 rfl 3 rfl ?_
  refine l_iload_n C dL_law_864 rfl 0 rfl ?_
  refine l_iconst (v := 1) C dL_law_865 ic_1 ?_
  refine l_iadd C dL_law_866 ?_
  refine l_sld C (l_in (j := 1) (by decide) (by omega) C.hL) dL_law_867 ?_
  refine l_aload_n C dL_law_868 rfl 3 rfl ?_
  refine l_iload_n C dL_law_869 rfl 0 rfl ?_
  refine l_iconst (v := 2) C dL_law_870 ic_2 ?_
  refine l_iadd C dL_law_871 ?_
  refine l_sld C (l_in (j := 2) (by decide) (by omega) C.hL) dL_law_872 ?_
  obtain ⟨v, σ1, τ1, hf, hg, hI1⟩ := S σ z τ y (xs (nI i + 1).toNatClampNeg) (xs (nI i + 2).toNatClampNeg) hI
  refine l_callX_i C [.int (xs (nI i + 1).toNatClampNeg), .int (xs (nI i + 2).toNatClampNeg)] (tX4_rivals C.hJ hf) k_2_198 k_2_199 k_2_200 k_1_1 k_2_201 hyX4_rivals ⟨rfl, rfl⟩ (by decide) rfl rfl (Nat.le_of_ble_eq_true rfl) dL_law_873 ?_
  refine l_aload_n C dL_law_876 rfl 1 rfl ?_
  refine l_aload_n C dL_law_877 rfl 3 rfl ?_
  refine l_iload_n C dL_law_878 rfl 0 rfl ?_
  refine l_iconst (v := 1) C dL_law_879 ic_1 ?_
  refine l_iadd C dL_law_880 ?_
  refine l_sld C (l_in (j := 1) (by decide) (by omega) C.hL) dL_law_881 ?_
  refine l_aload_n C dL_law_882 rfl 3 rfl ?_
  refine l_iload_n C dL_law_883 rfl 0 rfl ?_
  refine l_iconst (v := 2) C dL_law_884 ic_2 ?_
  refine l_iadd C dL_law_885 ?_
  refine l_sld C (l_in (j := 2) (by decide) (by omega) C.hL) dL_law_886 ?_
  refine l_callY_i C [.int (xs (nI i + 1).toNatClampNeg), .int (xs (nI i + 2).toNatClampNeg)] (tX5_rivals C.hJ' hg) k_4_45 k_4_46 k_4_47 k_1_6 k_4_48 hyX5_rivals ⟨rfl, rfl⟩ (by decide) rfl rfl (Nat.le_of_ble_eq_true rfl) dL_law_887 ?_
  exact l_icmp_eq (tgt := 1087) C dL_law_890 (by decide) (fun _ => kk _ _ _ _ hI1) (fun hq => absurd rfl hq)
set_option maxRecDepth 100000 in
set_option maxHeartbeats 4000000 in
theorem lc_25 (C : CL p s m meth c D cI cZ ad ad' b L xs) {I : eSt → Int64 → eSt → Int64 → Prop} (S : ES_chance I) {σ : eSt} {z : Int64} {τ : eSt} {y : Int64} (hI : I σ z τ y) {i : Nat} (hi : i + 6 ≤ L) (kk : ∀ σ' z' τ' y', I σ' z' τ' y' → WL p l e s m below meth c D cI cZ ad ad' b σ' z' τ' y' [(3, .int (nI i)), (2, .ref (ad' 0)), (1, .ref (ad 0)), (0, .ref b)] 1087 []) : WL p l e s m below meth c D cI cZ ad ad' b σ z τ y [(3, .int (nI i)), (2, .ref (ad' 0)), (1, .ref (ad 0)), (0, .ref b)] 895 [] := by
  refine l_aload_n C dL_law_895 rfl 2 rfl ?_
  refine l_aload_n C dL_law_896 rfl 3 rfl ?_
  refine l_iload_n C dL_law_897 rfl 0 rfl ?_
  refine l_iconst (v := 1) C dL_law_898 ic_1 ?_
  refine l_iadd C dL_law_899 ?_
  refine l_sld C (l_in (j := 1) (by decide) (by omega) C.hL) dL_law_900 ?_
  refine l_aload_n C dL_law_901 rfl 3 rfl ?_
  refine l_iload_n C dL_law_902 rfl 0 rfl ?_
  refine l_iconst (v := 2) C dL_law_903 ic_2 ?_
  refine l_iadd C dL_law_904 ?_
  refine l_sld C (l_in (j := 2) (by decide) (by omega) C.hL) dL_law_905 ?_
  refine l_aload_n C dL_law_906 rfl 3 rfl ?_
  refine l_iload_n C dL_law_907 rfl 0 rfl ?_
  refine l_iconst (v := 3) C dL_law_908 ic_3 ?_
  refine l_iadd C dL_law_909 ?_
  refine l_sld C (l_in (j := 3) (by decide) (by omega) C.hL) dL_law_910 ?_
  refine l_aload_n C dL_law_911 rfl 3 rfl ?_
  refine l_iload_n C dL_law_912 rfl 0 rfl ?_
  refine l_iconst (v := 4) C dL_law_913 ic_4 ?_
  refine l_iadd C dL_law_914 ?_
  refine l_sld C (l_in (j := 4) (by decide) (by omega) C.hL) dL_law_915 ?_
  refine l_if_eq (tgt := 923) C dL_law_916 (by decide) (fun hc => ?_) (fun hc => ?_)
  · have hc1 := hc
    refine l_iconst (v := 0) C dL_law_923 ic_0 ?_
    obtain ⟨v, σ1, τ1, hf, hg, hI1⟩ := S σ z τ y (xs (nI i + 1).toNatClampNeg) (xs (nI i + 2).toNatClampNeg) (xs (nI i + 3).toNatClampNeg) (0) hI (Or.inl rfl)
    refine l_callX_i C [.int (xs (nI i + 1).toNatClampNeg), .int (xs (nI i + 2).toNatClampNeg), .int (xs (nI i + 3).toNatClampNeg), .int (0)] (tX4_chance C.hJ hf) k_2_213 k_2_214 k_2_215 k_1_1 k_2_216 hyX4_chance ⟨rfl, rfl⟩ (by decide) rfl rfl (Nat.le_of_ble_eq_true rfl) dL_law_924 ?_
    refine l_aload_n C dL_law_927 rfl 1 rfl ?_
    refine l_aload_n C dL_law_928 rfl 3 rfl ?_
    refine l_iload_n C dL_law_929 rfl 0 rfl ?_
    refine l_iconst (v := 1) C dL_law_930 ic_1 ?_
    refine l_iadd C dL_law_931 ?_
    refine l_sld C (l_in (j := 1) (by decide) (by omega) C.hL) dL_law_932 ?_
    refine l_aload_n C dL_law_933 rfl 3 rfl ?_
    refine l_iload_n C dL_law_934 rfl 0 rfl ?_
    refine l_iconst (v := 2) C dL_law_935 ic_2 ?_
    refine l_iadd C dL_law_936 ?_
    refine l_sld C (l_in (j := 2) (by decide) (by omega) C.hL) dL_law_937 ?_
    refine l_aload_n C dL_law_938 rfl 3 rfl ?_
    refine l_iload_n C dL_law_939 rfl 0 rfl ?_
    refine l_iconst (v := 3) C dL_law_940 ic_3 ?_
    refine l_iadd C dL_law_941 ?_
    refine l_sld C (l_in (j := 3) (by decide) (by omega) C.hL) dL_law_942 ?_
    refine l_aload_n C dL_law_943 rfl 3 rfl ?_
    refine l_iload_n C dL_law_944 rfl 0 rfl ?_
    refine l_iconst (v := 4) C dL_law_945 ic_4 ?_
    refine l_iadd C dL_law_946 ?_
    refine l_sld C (l_in (j := 4) (by decide) (by omega) C.hL) dL_law_947 ?_
    refine l_if_eq (tgt := 955) C dL_law_948 (by decide) (fun hc => ?_) (fun hc => ?_)
    · refine l_iconst (v := 0) C dL_law_955 ic_0 ?_
      refine l_callY_i C [.int (xs (nI i + 1).toNatClampNeg), .int (xs (nI i + 2).toNatClampNeg), .int (xs (nI i + 3).toNatClampNeg), .int (0)] (tX5_chance C.hJ' hg) k_4_56 k_4_57 k_4_58 k_1_6 k_4_59 hyX5_chance ⟨rfl, rfl⟩ (by decide) rfl rfl (Nat.le_of_ble_eq_true rfl) dL_law_956 ?_
      exact l_icmp_eq (tgt := 1087) C dL_law_959 (by decide) (fun _ => kk _ _ _ _ hI1) (fun hq => absurd rfl hq)
    · exact absurd hc1 hc
  · have hc1 := hc
    refine l_iconst (v := 1) C dL_law_919 ic_1 ?_
    refine l_goto (tgt := 924) C dL_law_920 (by decide) ?_
    obtain ⟨v, σ1, τ1, hf, hg, hI1⟩ := S σ z τ y (xs (nI i + 1).toNatClampNeg) (xs (nI i + 2).toNatClampNeg) (xs (nI i + 3).toNatClampNeg) (1) hI (Or.inr rfl)
    refine l_callX_i C [.int (xs (nI i + 1).toNatClampNeg), .int (xs (nI i + 2).toNatClampNeg), .int (xs (nI i + 3).toNatClampNeg), .int (1)] (tX4_chance C.hJ hf) k_2_213 k_2_214 k_2_215 k_1_1 k_2_216 hyX4_chance ⟨rfl, rfl⟩ (by decide) rfl rfl (Nat.le_of_ble_eq_true rfl) dL_law_924 ?_
    refine l_aload_n C dL_law_927 rfl 1 rfl ?_
    refine l_aload_n C dL_law_928 rfl 3 rfl ?_
    refine l_iload_n C dL_law_929 rfl 0 rfl ?_
    refine l_iconst (v := 1) C dL_law_930 ic_1 ?_
    refine l_iadd C dL_law_931 ?_
    refine l_sld C (l_in (j := 1) (by decide) (by omega) C.hL) dL_law_932 ?_
    refine l_aload_n C dL_law_933 rfl 3 rfl ?_
    refine l_iload_n C dL_law_934 rfl 0 rfl ?_
    refine l_iconst (v := 2) C dL_law_935 ic_2 ?_
    refine l_iadd C dL_law_936 ?_
    refine l_sld C (l_in (j := 2) (by decide) (by omega) C.hL) dL_law_937 ?_
    refine l_aload_n C dL_law_938 rfl 3 rfl ?_
    refine l_iload_n C dL_law_939 rfl 0 rfl ?_
    refine l_iconst (v := 3) C dL_law_940 ic_3 ?_
    refine l_iadd C dL_law_941 ?_
    refine l_sld C (l_in (j := 3) (by decide) (by omega) C.hL) dL_law_942 ?_
    refine l_aload_n C dL_law_943 rfl 3 rfl ?_
    refine l_iload_n C dL_law_944 rfl 0 rfl ?_
    refine l_iconst (v := 4) C dL_law_945 ic_4 ?_
    refine l_iadd C dL_law_946 ?_
    refine l_sld C (l_in (j := 4) (by decide) (by omega) C.hL) dL_law_947 ?_
    refine l_if_eq (tgt := 955) C dL_law_948 (by decide) (fun hc => ?_) (fun hc => ?_)
    · exact absurd hc hc1
    · refine l_iconst (v := 1) C dL_law_951 ic_1 ?_
      refine l_goto (tgt := 956) C dL_law_952 (by decide) ?_
      refine l_callY_i C [.int (xs (nI i + 1).toNatClampNeg), .int (xs (nI i + 2).toNatClampNeg), .int (xs (nI i + 3).toNatClampNeg), .int (1)] (tX5_chance C.hJ' hg) k_4_56 k_4_57 k_4_58 k_1_6 k_4_59 hyX5_chance ⟨rfl, rfl⟩ (by decide) rfl rfl (Nat.le_of_ble_eq_true rfl) dL_law_956 ?_
      exact l_icmp_eq (tgt := 1087) C dL_law_959 (by decide) (fun _ => kk _ _ _ _ hI1) (fun hq => absurd rfl hq)
set_option maxRecDepth 100000 in
set_option maxHeartbeats 4000000 in
theorem lc_26 (C : CL p s m meth c D cI cZ ad ad' b L xs) {I : eSt → Int64 → eSt → Int64 → Prop} (S : ES_seed I) {σ : eSt} {z : Int64} {τ : eSt} {y : Int64} (hI : I σ z τ y) {i : Nat} (hi : i + 6 ≤ L) (kk : ∀ σ' z' τ' y', I σ' z' τ' y' → WL p l e s m below meth c D cI cZ ad ad' b σ' z' τ' y' [(3, .int (nI i)), (2, .ref (ad' 0)), (1, .ref (ad 0)), (0, .ref b)] 1087 []) : WL p l e s m below meth c D cI cZ ad ad' b σ z τ y [(3, .int (nI i)), (2, .ref (ad' 0)), (1, .ref (ad 0)), (0, .ref b)] 964 [] := by
  refine l_aload_n C dL_law_964 rfl 2 rfl ?_
  refine l_aload_n C dL_law_965 rfl 3 rfl ?_
  refine l_iload_n C dL_law_966 rfl 0 rfl ?_
  refine l_iconst (v := 1) C dL_law_967 ic_1 ?_
  refine l_iadd C dL_law_968 ?_
  refine l_sld C (l_in (j := 1) (by decide) (by omega) C.hL) dL_law_969 ?_
  refine l_i2l C dL_law_970 ?_
  refine l_bipush (v := 32) C dL_law_971 bi_32 ?_
  refine l_lshl C dL_law_973 ?_
  refine l_aload_n C dL_law_974 rfl 3 rfl ?_
  refine l_iload_n C dL_law_975 rfl 0 rfl ?_
  refine l_iconst (v := 2) C dL_law_976 ic_2 ?_
  refine l_iadd C dL_law_977 ?_
  refine l_sld C (l_in (j := 2) (by decide) (by omega) C.hL) dL_law_978 ?_
  refine l_i2l C dL_law_979 ?_
  refine l_ldc2 (v := 4294967295) C dL_law_980 k_4_80 ?_
  refine l_land C dL_law_983 ?_
  refine l_lor C dL_law_984 ?_
  obtain ⟨v, σ1, z1, τ1, y1, hf, hg, hI1⟩ := S σ z τ y ((e_lshl ((xs (nI i + 1).toNatClampNeg).toInt64) 32) ||| (((xs (nI i + 2).toNatClampNeg).toInt64) &&& (4294967295))) hI
  refine l_callX_l C [.long ((e_lshl ((xs (nI i + 1).toNatClampNeg).toInt64) 32) ||| (((xs (nI i + 2).toNatClampNeg).toInt64) &&& (4294967295)))] (tX4_seed C.hJ hf) k_2_224 k_2_225 k_2_226 k_1_1 k_2_227 hyX4_seed ⟨rfl, rfl⟩ (by decide) rfl rfl (Nat.le_of_ble_eq_true rfl) dL_law_985 ?_
  refine l_aload_n C dL_law_988 rfl 1 rfl ?_
  refine l_aload_n C dL_law_989 rfl 3 rfl ?_
  refine l_iload_n C dL_law_990 rfl 0 rfl ?_
  refine l_iconst (v := 1) C dL_law_991 ic_1 ?_
  refine l_iadd C dL_law_992 ?_
  refine l_sld C (l_in (j := 1) (by decide) (by omega) C.hL) dL_law_993 ?_
  refine l_i2l C dL_law_994 ?_
  refine l_bipush (v := 32) C dL_law_995 bi_32 ?_
  refine l_lshl C dL_law_997 ?_
  refine l_aload_n C dL_law_998 rfl 3 rfl ?_
  refine l_iload_n C dL_law_999 rfl 0 rfl ?_
  refine l_iconst (v := 2) C dL_law_1000 ic_2 ?_
  refine l_iadd C dL_law_1001 ?_
  refine l_sld C (l_in (j := 2) (by decide) (by omega) C.hL) dL_law_1002 ?_
  refine l_i2l C dL_law_1003 ?_
  refine l_ldc2 (v := 4294967295) C dL_law_1004 k_4_80 ?_
  refine l_land C dL_law_1007 ?_
  refine l_lor C dL_law_1008 ?_
  refine l_callY_l C [.long ((e_lshl ((xs (nI i + 1).toNatClampNeg).toInt64) 32) ||| (((xs (nI i + 2).toNatClampNeg).toInt64) &&& (4294967295)))] (tX5_seed C.hJ' hg) k_4_60 k_4_61 k_4_62 k_1_6 k_4_63 hyX5_seed ⟨rfl, rfl⟩ (by decide) rfl rfl (Nat.le_of_ble_eq_true rfl) dL_law_1009 ?_
  refine l_lcmp C dL_law_1012 ?_
  exact l_if_eq (tgt := 1087) C dL_law_1013 (by decide) (fun _ => kk _ _ _ _ hI1) (fun hq => absurd (lg_cmp_self v) hq)
set_option maxRecDepth 100000 in
set_option maxHeartbeats 4000000 in
theorem lc_27 (C : CL p s m meth c D cI cZ ad ad' b L xs) {I : eSt → Int64 → eSt → Int64 → Prop} (S : ES_days I) {σ : eSt} {z : Int64} {τ : eSt} {y : Int64} (hI : I σ z τ y) {i : Nat} (hi : i + 6 ≤ L) (kk : ∀ σ' z' τ' y', I σ' z' τ' y' → WL p l e s m below meth c D cI cZ ad ad' b σ' z' τ' y' [(3, .int (nI i)), (2, .ref (ad' 0)), (1, .ref (ad 0)), (0, .ref b)] 1087 []) : WL p l e s m below meth c D cI cZ ad ad' b σ z τ y [(3, .int (nI i)), (2, .ref (ad' 0)), (1, .ref (ad 0)), (0, .ref b)] 1018 [] := by
  refine l_aload_n C dL_law_1018 rfl 2 rfl ?_
  refine l_aload_n C dL_law_1019 rfl 3 rfl ?_
  refine l_iload_n C dL_law_1020 rfl 0 rfl ?_
  refine l_iconst (v := 1) C dL_law_1021 ic_1 ?_
  refine l_iadd C dL_law_1022 ?_
  refine l_sld C (l_in (j := 1) (by decide) (by omega) C.hL) dL_law_1023 ?_
  obtain ⟨v, σ1, z1, τ1, y1, hf, hg, hI1⟩ := S σ z τ y (xs (nI i + 1).toNatClampNeg) hI
  refine l_callX_i C [.int (xs (nI i + 1).toNatClampNeg)] (tX4_days C.hJ hf) k_2_228 k_2_229 k_2_230 k_1_1 k_2_231 hyX4_days ⟨rfl, rfl⟩ (by decide) rfl rfl (Nat.le_of_ble_eq_true rfl) dL_law_1024 ?_
  refine l_aload_n C dL_law_1027 rfl 1 rfl ?_
  refine l_aload_n C dL_law_1028 rfl 3 rfl ?_
  refine l_iload_n C dL_law_1029 rfl 0 rfl ?_
  refine l_iconst (v := 1) C dL_law_1030 ic_1 ?_
  refine l_iadd C dL_law_1031 ?_
  refine l_sld C (l_in (j := 1) (by decide) (by omega) C.hL) dL_law_1032 ?_
  refine l_callY_i C [.int (xs (nI i + 1).toNatClampNeg)] (tX5_days C.hJ' hg) k_4_64 k_4_65 k_4_66 k_1_6 k_4_67 hyX5_days ⟨rfl, rfl⟩ (by decide) rfl rfl (Nat.le_of_ble_eq_true rfl) dL_law_1033 ?_
  exact l_icmp_eq (tgt := 1087) C dL_law_1036 (by decide) (fun _ => kk _ _ _ _ hI1) (fun hq => absurd rfl hq)
set_option maxRecDepth 100000 in
set_option maxHeartbeats 4000000 in
theorem lc_28 (C : CL p s m meth c D cI cZ ad ad' b L xs) {I : eSt → Int64 → eSt → Int64 → Prop} (S : ES_keep I) {σ : eSt} {z : Int64} {τ : eSt} {y : Int64} (hI : I σ z τ y) {i : Nat} (hi : i + 6 ≤ L) (kk : ∀ σ' z' τ' y', I σ' z' τ' y' → WL p l e s m below meth c D cI cZ ad ad' b σ' z' τ' y' [(3, .int (nI i)), (2, .ref (ad' 0)), (1, .ref (ad 0)), (0, .ref b)] 1087 []) : WL p l e s m below meth c D cI cZ ad ad' b σ z τ y [(3, .int (nI i)), (2, .ref (ad' 0)), (1, .ref (ad 0)), (0, .ref b)] 1041 [] := by
  refine l_aload_n C dL_law_1041 rfl 2 rfl ?_
  refine l_aload_n C dL_law_1042 rfl 3 rfl ?_
  refine l_iload_n C dL_law_1043 rfl 0 rfl ?_
  refine l_iconst (v := 1) C dL_law_1044 ic_1 ?_
  refine l_iadd C dL_law_1045 ?_
  refine l_sld C (l_in (j := 1) (by decide) (by omega) C.hL) dL_law_1046 ?_
  obtain ⟨v, σ1, τ1, hf, hg, hI1⟩ := S σ z τ y (xs (nI i + 1).toNatClampNeg) hI
  refine l_callX_i C [.int (xs (nI i + 1).toNatClampNeg)] (tX4_keep C.hJ hf) k_2_235 k_2_236 k_2_237 k_1_1 k_2_238 hyX4_keep ⟨rfl, rfl⟩ (by decide) rfl rfl (Nat.le_of_ble_eq_true rfl) dL_law_1047 ?_
  refine l_aload_n C dL_law_1050 rfl 1 rfl ?_
  refine l_aload_n C dL_law_1051 rfl 3 rfl ?_
  refine l_iload_n C dL_law_1052 rfl 0 rfl ?_
  refine l_iconst (v := 1) C dL_law_1053 ic_1 ?_
  refine l_iadd C dL_law_1054 ?_
  refine l_sld C (l_in (j := 1) (by decide) (by omega) C.hL) dL_law_1055 ?_
  refine l_callY_i C [.int (xs (nI i + 1).toNatClampNeg)] (tX5_keep C.hJ' hg) k_4_72 k_4_73 k_4_74 k_1_6 k_4_75 hyX5_keep ⟨rfl, rfl⟩ (by decide) rfl rfl (Nat.le_of_ble_eq_true rfl) dL_law_1056 ?_
  exact l_icmp_eq (tgt := 1087) C dL_law_1059 (by decide) (fun _ => kk _ _ _ _ hI1) (fun hq => absurd rfl hq)
set_option maxRecDepth 100000 in
set_option maxHeartbeats 4000000 in
theorem lc_29 (C : CL p s m meth c D cI cZ ad ad' b L xs) {I : eSt → Int64 → eSt → Int64 → Prop} (S : ES_again I) {σ : eSt} {z : Int64} {τ : eSt} {y : Int64} (hI : I σ z τ y) {i : Nat} (hi : i + 6 ≤ L) (kk : ∀ σ' z' τ' y', I σ' z' τ' y' → WL p l e s m below meth c D cI cZ ad ad' b σ' z' τ' y' [(3, .int (nI i)), (2, .ref (ad' 0)), (1, .ref (ad 0)), (0, .ref b)] 1087 []) : WL p l e s m below meth c D cI cZ ad ad' b σ z τ y [(3, .int (nI i)), (2, .ref (ad' 0)), (1, .ref (ad 0)), (0, .ref b)] 1064 [] := by
  refine l_aload_n C dL_law_1064 rfl 2 rfl ?_
  refine l_aload_n C dL_law_1065 rfl 3 rfl ?_
  refine l_iload_n C dL_law_1066 rfl 0 rfl ?_
  refine l_iconst (v := 1) C dL_law_1067 ic_1 ?_
  refine l_iadd C dL_law_1068 ?_
  refine l_sld C (l_in (j := 1) (by decide) (by omega) C.hL) dL_law_1069 ?_
  obtain ⟨v, σ1, τ1, hf, hg, hI1⟩ := S σ z τ y (xs (nI i + 1).toNatClampNeg) hI
  refine l_callX_i C [.int (xs (nI i + 1).toNatClampNeg)] (tX4_again C.hJ hf) k_2_239 k_3_0 k_3_1 k_1_1 k_3_2 hyX4_again ⟨rfl, rfl⟩ (by decide) rfl rfl (Nat.le_of_ble_eq_true rfl) dL_law_1070 ?_
  refine l_aload_n C dL_law_1073 rfl 1 rfl ?_
  refine l_aload_n C dL_law_1074 rfl 3 rfl ?_
  refine l_iload_n C dL_law_1075 rfl 0 rfl ?_
  refine l_iconst (v := 1) C dL_law_1076 ic_1 ?_
  refine l_iadd C dL_law_1077 ?_
  refine l_sld C (l_in (j := 1) (by decide) (by omega) C.hL) dL_law_1078 ?_
  refine l_callY_i C [.int (xs (nI i + 1).toNatClampNeg)] (tX5_again C.hJ' hg) k_4_76 k_4_77 k_4_78 k_1_6 k_4_79 hyX5_again ⟨rfl, rfl⟩ (by decide) rfl rfl (Nat.le_of_ble_eq_true rfl) dL_law_1079 ?_
  exact l_icmp_eq (tgt := 1087) C dL_law_1082 (by decide) (fun _ => kk _ _ _ _ hI1) (fun hq => absurd rfl hq)
def ESteps (I : eSt → Int64 → eSt → Int64 → Prop) : Prop := I xS0 0 yS0 0 ∧ ES_write I ∧ ES_wipe I ∧ ES_fault I ∧ ES_river I ∧ ES_about I ∧ ES_sound I ∧ ES_row I ∧ ES_hush I ∧ ES_hammer I ∧ ES_change I ∧ ES_hour I ∧ ES_undo I ∧ ES_heard I ∧ ES_sure I ∧ ES_where I ∧ ES_when I ∧ ES_spared I ∧ ES_worth I ∧ ES_hammers I ∧ ES_bestHours I ∧ ES_grounded I ∧ ES_see I ∧ ES_unsee I ∧ ES_weather I ∧ ES_rivals I ∧ ES_chance I ∧ ES_seed I ∧ ES_days I ∧ ES_keep I ∧ ES_again I
set_option maxRecDepth 100000 in
set_option maxHeartbeats 4000000 in
theorem law_loop (C : CL p s m meth c D cI cZ ad ad' b L xs) {I : eSt → Int64 → eSt → Int64 → Prop} (S : ESteps I) : ∀ (n i : Nat), L + 6 ≤ 6 * n + i → i ≤ L + 6 → ∀ (σ : eSt) (z : Int64) (τ : eSt) (y : Int64), I σ z τ y → WL p l e s m below meth c D cI cZ ad ad' b σ z τ y [(3, .int (nI i)), (2, .ref (ad' 0)), (1, .ref (ad 0)), (0, .ref b)] 18 [] := by
  have hL := C.hL
  intro n
  induction n with
  | zero =>
    intro i h1 h2 σ z τ y hI
    refine l_iload_n C dL_law_18 rfl 0 rfl ?_
    refine l_aload_n C dL_law_19 rfl 3 rfl ?_
    refine l_slen C dL_law_20 ?_
    refine l_bipush (v := 6) C dL_law_21 bi_6 ?_
    refine l_isub C dL_law_23 ?_
    refine l_icmp_gt (tgt := 1093) C dL_law_24 (by decide) (fun _ => ?_) (fun hc => ?_)
    · refine l_iconst (v := 1) C dL_law_1093 ic_1 ?_
      intro H locs ls hP hP2 hS hl
      exact va_forget (fun q hq => hS.2.2 q hq) (lw_ret C.hx C.hb C.hr C.hlocks dL_law_1094)
    · exfalso
      apply hc
      rw [Int32.lt_iff_toInt_lt, nI_toInt (by omega), show (6 : Int32) = nI 6 from by decide, pk_sub_toInt (by omega) (by omega)]
      omega
  | succ n ih =>
    intro i h1 h2 σ z τ y hI
    refine l_iload_n C dL_law_18 rfl 0 rfl ?_
    refine l_aload_n C dL_law_19 rfl 3 rfl ?_
    refine l_slen C dL_law_20 ?_
    refine l_bipush (v := 6) C dL_law_21 bi_6 ?_
    refine l_isub C dL_law_23 ?_
    refine l_icmp_gt (tgt := 1093) C dL_law_24 (by decide) (fun _ => ?_) (fun hc => ?_)
    · refine l_iconst (v := 1) C dL_law_1093 ic_1 ?_
      intro H locs ls hP hP2 hS hl
      exact va_forget (fun q hq => hS.2.2 q hq) (lw_ret C.hx C.hb C.hr C.hlocks dL_law_1094)
    have hlt : i + 6 ≤ L := by
      rw [Int32.lt_iff_toInt_lt, nI_toInt (by omega), show (6 : Int32) = nI 6 from by decide, pk_sub_toInt (by omega) (by omega)] at hc
      omega
    have next : ∀ (σ' : eSt) (z' : Int64) (τ' : eSt) (y' : Int64), I σ' z' τ' y' → WL p l e s m below meth c D cI cZ ad ad' b σ' z' τ' y' [(3, .int (nI i)), (2, .ref (ad' 0)), (1, .ref (ad 0)), (0, .ref b)] 1087 [] := by
      intro σ' z' τ' y' h
      refine l_iinc (j := 0) (w := nI (i + 6)) (lv' := [(3, .int (nI (i + 6))), (2, .ref (ad' 0)), (1, .ref (ad 0)), (0, .ref b)]) C dL_law_1087 (by rw [show Int32.ofInt 6 = nI 6 from by decide, nI_add]) rfl (by decide) rfl ?_
      refine l_goto (tgt := 18) C dL_law_1090 (by decide) ?_
      exact ih (i + 6) (by omega) (by omega) σ' z' τ' y' h
    refine l_aload_n C dL_law_27 rfl 3 rfl ?_
    refine l_iload_n C dL_law_28 rfl 0 rfl ?_
    refine l_sld C (vp_in_nI (by omega) (by omega)) dL_law_29 ?_
    refine l_bipush (v := 31) C dL_law_30 bi_31 ?_
    refine l_iand C dL_law_32 ?_
    refine l_tsw C dL_law_33 (fun j => [168, 191, 204, 217, 230, 253, 286, 309, 332, 355, 388, 401, 414, 447, 470, 503, 536, 559, 618, 661, 694, 757, 826, 839, 862, 895, 964, 1018, 1041, 1064].getD j 0) 1087 30 (by decide) ?_ (by decide) ?_ (next σ z τ y hI)
    · intro j hj
      match j, hj with
      | 0, _ => exact ⟨135, rfl, by decide⟩
      | 1, _ => exact ⟨158, rfl, by decide⟩
      | 2, _ => exact ⟨171, rfl, by decide⟩
      | 3, _ => exact ⟨184, rfl, by decide⟩
      | 4, _ => exact ⟨197, rfl, by decide⟩
      | 5, _ => exact ⟨220, rfl, by decide⟩
      | 6, _ => exact ⟨253, rfl, by decide⟩
      | 7, _ => exact ⟨276, rfl, by decide⟩
      | 8, _ => exact ⟨299, rfl, by decide⟩
      | 9, _ => exact ⟨322, rfl, by decide⟩
      | 10, _ => exact ⟨355, rfl, by decide⟩
      | 11, _ => exact ⟨368, rfl, by decide⟩
      | 12, _ => exact ⟨381, rfl, by decide⟩
      | 13, _ => exact ⟨414, rfl, by decide⟩
      | 14, _ => exact ⟨437, rfl, by decide⟩
      | 15, _ => exact ⟨470, rfl, by decide⟩
      | 16, _ => exact ⟨503, rfl, by decide⟩
      | 17, _ => exact ⟨526, rfl, by decide⟩
      | 18, _ => exact ⟨585, rfl, by decide⟩
      | 19, _ => exact ⟨628, rfl, by decide⟩
      | 20, _ => exact ⟨661, rfl, by decide⟩
      | 21, _ => exact ⟨724, rfl, by decide⟩
      | 22, _ => exact ⟨793, rfl, by decide⟩
      | 23, _ => exact ⟨806, rfl, by decide⟩
      | 24, _ => exact ⟨829, rfl, by decide⟩
      | 25, _ => exact ⟨862, rfl, by decide⟩
      | 26, _ => exact ⟨931, rfl, by decide⟩
      | 27, _ => exact ⟨985, rfl, by decide⟩
      | 28, _ => exact ⟨1008, rfl, by decide⟩
      | 29, _ => exact ⟨1031, rfl, by decide⟩
      | j + 30, hj => exact absurd hj (by omega)
    · intro j hj
      match j, hj with
      | 0, _ => exact lc_0 C (S.2.1) hI hlt (fun σ' z' τ' y' h => next σ' z' τ' y' h)
      | 1, _ => exact lc_1 C (S.2.2.1) hI hlt (fun σ' z' τ' y' h => next σ' z' τ' y' h)
      | 2, _ => exact lc_2 C (S.2.2.2.1) hI hlt (fun σ' z' τ' y' h => next σ' z' τ' y' h)
      | 3, _ => exact lc_3 C (S.2.2.2.2.1) hI hlt (fun σ' z' τ' y' h => next σ' z' τ' y' h)
      | 4, _ => exact lc_4 C (S.2.2.2.2.2.1) hI hlt (fun σ' z' τ' y' h => next σ' z' τ' y' h)
      | 5, _ => exact lc_5 C (S.2.2.2.2.2.2.1) hI hlt (fun σ' z' τ' y' h => next σ' z' τ' y' h)
      | 6, _ => exact lc_6 C (S.2.2.2.2.2.2.2.1) hI hlt (fun σ' z' τ' y' h => next σ' z' τ' y' h)
      | 7, _ => exact lc_7 C (S.2.2.2.2.2.2.2.2.1) hI hlt (fun σ' z' τ' y' h => next σ' z' τ' y' h)
      | 8, _ => exact lc_8 C (S.2.2.2.2.2.2.2.2.2.1) hI hlt (fun σ' z' τ' y' h => next σ' z' τ' y' h)
      | 9, _ => exact lc_9 C (S.2.2.2.2.2.2.2.2.2.2.1) hI hlt (fun σ' z' τ' y' h => next σ' z' τ' y' h)
      | 10, _ => exact lc_10 C (S.2.2.2.2.2.2.2.2.2.2.2.1) hI hlt (fun σ' z' τ' y' h => next σ' z' τ' y' h)
      | 11, _ => exact lc_11 C (S.2.2.2.2.2.2.2.2.2.2.2.2.1) hI hlt (fun σ' z' τ' y' h => next σ' z' τ' y' h)
      | 12, _ => exact lc_12 C (S.2.2.2.2.2.2.2.2.2.2.2.2.2.1) hI hlt (fun σ' z' τ' y' h => next σ' z' τ' y' h)
      | 13, _ => exact lc_13 C (S.2.2.2.2.2.2.2.2.2.2.2.2.2.2.1) hI hlt (fun σ' z' τ' y' h => next σ' z' τ' y' h)
      | 14, _ => exact lc_14 C (S.2.2.2.2.2.2.2.2.2.2.2.2.2.2.2.1) hI hlt (fun σ' z' τ' y' h => next σ' z' τ' y' h)
      | 15, _ => exact lc_15 C (S.2.2.2.2.2.2.2.2.2.2.2.2.2.2.2.2.1) hI hlt (fun σ' z' τ' y' h => next σ' z' τ' y' h)
      | 16, _ => exact lc_16 C (S.2.2.2.2.2.2.2.2.2.2.2.2.2.2.2.2.2.1) hI hlt (fun σ' z' τ' y' h => next σ' z' τ' y' h)
      | 17, _ => exact lc_17 C (S.2.2.2.2.2.2.2.2.2.2.2.2.2.2.2.2.2.2.1) hI hlt (fun σ' z' τ' y' h => next σ' z' τ' y' h)
      | 18, _ => exact lc_18 C (S.2.2.2.2.2.2.2.2.2.2.2.2.2.2.2.2.2.2.2.1) hI hlt (fun σ' z' τ' y' h => next σ' z' τ' y' h)
      | 19, _ => exact lc_19 C (S.2.2.2.2.2.2.2.2.2.2.2.2.2.2.2.2.2.2.2.2.1) hI hlt (fun σ' z' τ' y' h => next σ' z' τ' y' h)
      | 20, _ => exact lc_20 C (S.2.2.2.2.2.2.2.2.2.2.2.2.2.2.2.2.2.2.2.2.2.1) hI hlt (fun σ' z' τ' y' h => next σ' z' τ' y' h)
      | 21, _ => exact lc_21 C (S.2.2.2.2.2.2.2.2.2.2.2.2.2.2.2.2.2.2.2.2.2.2.1) hI hlt (fun σ' z' τ' y' h => next σ' z' τ' y' h)
      | 22, _ => exact lc_22 C (S.2.2.2.2.2.2.2.2.2.2.2.2.2.2.2.2.2.2.2.2.2.2.2.1) hI hlt (fun σ' z' τ' y' h => next σ' z' τ' y' h)
      | 23, _ => exact lc_23 C (S.2.2.2.2.2.2.2.2.2.2.2.2.2.2.2.2.2.2.2.2.2.2.2.2.1) hI hlt (fun σ' z' τ' y' h => next σ' z' τ' y' h)
      | 24, _ => exact lc_24 C (S.2.2.2.2.2.2.2.2.2.2.2.2.2.2.2.2.2.2.2.2.2.2.2.2.2.1) hI hlt (fun σ' z' τ' y' h => next σ' z' τ' y' h)
      | 25, _ => exact lc_25 C (S.2.2.2.2.2.2.2.2.2.2.2.2.2.2.2.2.2.2.2.2.2.2.2.2.2.2.1) hI hlt (fun σ' z' τ' y' h => next σ' z' τ' y' h)
      | 26, _ => exact lc_26 C (S.2.2.2.2.2.2.2.2.2.2.2.2.2.2.2.2.2.2.2.2.2.2.2.2.2.2.2.1) hI hlt (fun σ' z' τ' y' h => next σ' z' τ' y' h)
      | 27, _ => exact lc_27 C (S.2.2.2.2.2.2.2.2.2.2.2.2.2.2.2.2.2.2.2.2.2.2.2.2.2.2.2.2.1) hI hlt (fun σ' z' τ' y' h => next σ' z' τ' y' h)
      | 28, _ => exact lc_28 C (S.2.2.2.2.2.2.2.2.2.2.2.2.2.2.2.2.2.2.2.2.2.2.2.2.2.2.2.2.2.1) hI hlt (fun σ' z' τ' y' h => next σ' z' τ' y' h)
      | 29, _ => exact lc_29 C (S.2.2.2.2.2.2.2.2.2.2.2.2.2.2.2.2.2.2.2.2.2.2.2.2.2.2.2.2.2.2) hI hlt (fun σ' z' τ' y' h => next σ' z' τ' y' h)
      | j + 30, hj => exact absurd hj (by omega)
end LC
set_option maxRecDepth 100000 in
set_option maxHeartbeats 8000000 in
theorem whole_open {I : eSt → Int64 → eSt → Int64 → Prop} (S : ESteps I) {p : Program} {e : Env} {s : State} {m : MethodId} {below : List Frame} {meth : Method} {c : Code} (l : Launch) {b L : Nat} {xs : Nat → Int32} (hL : L ≤ 3072) (C0 : lw_At p s m meth c b L xs) : W p l e room_1 s m #[Value.ref b] below meth c s.heap [] 0 0 (lw_Z below #[Value.ref b] s) (entryFrame m ([Value.ref b] : List Value).toArray 4) := by
  obtain ⟨hx, hb, hr, hml, hown, hts, hX, hbl, hlocks, hgv⟩ := id C0
  have tsW : ∀ w ∈ WB, w.before #[Value.ref b] s = true := fun w h => hts w (WB_tbl w h)
  obtain ⟨c0, iS0, hKn0⟩ := u_known (C := RX0) (T := TX0) (N := 7) (n := 7) tsW inW0 (tsW _ k_1_65)
  obtain ⟨c1, iS1, hKn1⟩ := u_known (C := RX1) (T := TX1) (N := 5) (n := 5) tsW inW1 (tsW _ k_1_100)
  obtain ⟨c2, iS2, hKn2⟩ := u_known (C := RX2) (T := TX2) (N := 6) (n := 6) tsW inW2 (tsW _ k_1_34)
  obtain ⟨c3, iS3, hKn3⟩ := u_known (C := RX3) (T := TX3) (N := 2) (n := 2) tsW inW3 (tsW _ k_1_18)
  obtain ⟨c4, iS4, hKn4⟩ := u_known (C := RX4) (T := TX4) (N := 12) (n := 12) tsW inW4 (tsW _ k_1_10)
  obtain ⟨c5, iS5, hKn5⟩ := u_known (C := RX5) (T := TX5) (N := 32) (n := 32) tsW inW5 (tsW _ k_3_4)
  obtain ⟨cI, kI, coI, hI1, hI2, hI3⟩ := Cond.arrayClass_spec (tsW _ k_1_32)
  obtain ⟨cZ, kZ, coZ, hZ1, hZ2, hZ3⟩ := Cond.arrayClass_spec (tsW _ k_1_126)
  obtain ⟨dC, dI, hKc⟩ : ∃ (dC : Nat → ClassId) (dI : Nat → Nat → Nat), ∀ (k : Nat) (q : vw_C), vwCl[k]? = some q → u_Kn s q.1 q.2.1 q.2.2 (dC k) (dI k) := by
    refine ⟨fun k => if k = 0 then c0 else if k = 1 then c1 else if k = 2 then c2 else if k = 3 then c3 else if k = 4 then c4 else c5, fun k => if k = 0 then iS0 else if k = 1 then iS1 else if k = 2 then iS2 else if k = 3 then iS3 else if k = 4 then iS4 else iS5, ?_⟩
    intro k q hq
    match k, hq with
    | 0, hq => cases hq; exact hKn0
    | 1, hq => cases hq; exact hKn1
    | 2, hq => cases hq; exact hKn2
    | 3, hq => cases hq; exact hKn3
    | 4, hq => cases hq; exact hKn4
    | 5, hq => cases hq; exact hKn5
    | k + 6, hq => simp [vwCl] at hq
  have hK : va_K (dC, dI) vwCl [(cI, .int), (cZ, .boolean)] s := by
    refine ⟨hKc, fun k q h => ?_⟩
    match k, h with
    | 0, h => cases h; exact ⟨fun n z => ⟨fun k h => (by cases h), kI, hI2, coI, hI3⟩, hI1⟩
    | 1, h => cases h; exact ⟨fun n z => ⟨fun k h => (by cases h), kZ, hZ2, coZ, hZ3⟩, hZ1⟩
    | k + 2, h => simp at h
  have C : Cn p s m #[Value.ref b] meth c (dC, dI) (eA0 s) [(cI, .int), (cZ, .boolean)] cL_law 4 RL Jvm.Pilot.@@N@@.ret := ⟨hx, hb, hml, hown, tsW, hK, fun q h => h, hlocks, hr⟩
  have hNX : NX s := ⟨va_Nw.of rfl (hts _ (List.mem_append_right _ (List.mem_append_left _ (List.mem_of_getElem? (i := 19) rfl)))), va_Nw.of rfl (hts _ (List.mem_append_right _ (List.mem_append_left _ (List.mem_of_getElem? (i := 35) rfl)))), va_Nw.of rfl (hts _ (List.mem_append_right _ (List.mem_append_left _ (List.mem_of_getElem? (i := 66) rfl)))), va_Nw.of rfl (hts _ (List.mem_append_right _ (List.mem_append_left _ (List.mem_of_getElem? (i := 101) rfl))))⟩
  rw [lg_entry_eq]
  have hl := lv_entry ([.ref b]) (n := 4) (Nat.le_of_ble_eq_true rfl)
  have key : WN p l e room_1 s m #[Value.ref b] below meth c (lw_Z below #[Value.ref b] s) (dC, dI) (eA0 s) 4 0 0 [] [(0, .ref b)] 0 [] := by
    refine n_new C inW4 tyX4 tyX4_ok k_1_9 k_1_10 k_1_1 (ci := 4) rfl [.null, .null, .null, .null, .null, .int 0, .null, .long 0, .null, .null, .null, .null] (fun j hj => by rcases (show j = 0 ∨ j = 1 ∨ j = 2 ∨ j = 3 ∨ j = 4 ∨ j = 5 ∨ j = 6 ∨ j = 7 ∨ j = 8 ∨ j = 9 ∨ j = 10 ∨ j = 11 by omega) with rfl | rfl | rfl | rfl | rfl | rfl | rfl | rfl | rfl | rfl | rfl | rfl <;> rfl) (by decide) (by decide) dL_law_0 ?_
    intro q0
    refine n_dup C dL_law_3 rfl ?_
    refine n_init C (i := 0) (isR := []) (wr := []) (tX4_init (l := l) (dC := dC) (dI := dI) (cI := cI) (cZ := cZ)) NX_ok hNX rfl rfl (by decide) (by decide) k_1_11 k_1_12 k_1_1 k_1_13 hiX4 ⟨rfl, rfl⟩ (by decide) (by decide) (Nat.le_of_ble_eq_true rfl) dL_law_4 ?_
    intro qs
    refine WN_eq (ws' := xW cI cZ (fun k => if k = 0 then q0 else qs k) xS0 0) rfl ?_
    refine n_astore_n (lv' := [(1, .ref q0), (0, .ref b)]) C dL_law_7 rfl (by decide) rfl ?_
    refine n_new C inW5 tyX5 tyX5_ok k_3_3 k_3_4 k_1_6 (ci := 5) rfl [.int 0, .null, .int 0, .int 0, .int 0, .null, .int 0, .int 0, .int 0, .int 0, .null, .null, .null, .null, .int 0, .null, .null, .int 0, .null, .null, .null, .null, .long 0, .null, .null, .null, .int 0, .int 0, .int 0, .int 0, .int 0, .int 0] (fun j hj => by rcases (show j = 0 ∨ j = 1 ∨ j = 2 ∨ j = 3 ∨ j = 4 ∨ j = 5 ∨ j = 6 ∨ j = 7 ∨ j = 8 ∨ j = 9 ∨ j = 10 ∨ j = 11 ∨ j = 12 ∨ j = 13 ∨ j = 14 ∨ j = 15 ∨ j = 16 ∨ j = 17 ∨ j = 18 ∨ j = 19 ∨ j = 20 ∨ j = 21 ∨ j = 22 ∨ j = 23 ∨ j = 24 ∨ j = 25 ∨ j = 26 ∨ j = 27 ∨ j = 28 ∨ j = 29 ∨ j = 30 ∨ j = 31 by omega) with rfl | rfl | rfl | rfl | rfl | rfl | rfl | rfl | rfl | rfl | rfl | rfl | rfl | rfl | rfl | rfl | rfl | rfl | rfl | rfl | rfl | rfl | rfl | rfl | rfl | rfl | rfl | rfl | rfl | rfl | rfl | rfl <;> rfl) (by decide) (by decide) dL_law_8 ?_
    intro q1
    refine n_dup C dL_law_11 rfl ?_
    refine n_init C (i := 21) (isR := List.range 21) (wr := xW cI cZ (fun k => if k = 0 then q0 else qs k) xS0 0) (tX5_init (l := l) (dC := dC) (dI := dI) (cI := cI) (cZ := cZ)) NTrue_ok trivial rfl rfl (by decide) (by decide) k_3_5 k_3_6 k_1_6 k_3_7 hiX5 ⟨rfl, rfl⟩ (by decide) (by decide) (Nat.le_of_ble_eq_true rfl) dL_law_12 ?_
    intro qt
    refine n_astore_n (lv' := [(2, .ref q1), (1, .ref q0), (0, .ref b)]) C dL_law_15 rfl (by decide) rfl ?_
    refine n_iconst (v := 0) C dL_law_16 ic_0 ?_
    refine n_istore_n (lv' := [(3, .int 0), (2, .ref q1), (1, .ref q0), (0, .ref b)]) C dL_law_17 rfl (by decide) rfl ?_
    intro H locs ls hP hD hS hl
    have hPx : va_P (dC, dI) vwCl (xW cI cZ (fun k => if k = 0 then q0 else qs k) xS0 0) H := hP.sub (List.range 21) rfl
    have hPy : va_P (dC, dI) vwCl (yW cI cZ (fun k => if k = 0 then q1 else qt k) yS0 0) H := hP.sub ((List.range 16).map (· + 21)) rfl
    generalize hae : (fun k => if k = 0 then q0 else qs k) = ad at hPx hP hD
    generalize hae' : (fun k => if k = 0 then q1 else qt k) = ad' at hPy
    have ea : q0 = ad 0 := by rw [← hae]; rfl
    have ea' : q1 = ad' 0 := by rw [← hae']; rfl
    have hD : va_D (eA0 s) (xW cI cZ ad xS0 0 ++ yW cI cZ ad' yS0 0) := by rw [← hae']; exact hD
    have getX : ∀ i, i < 21 → ∃ q, (xW cI cZ ad xS0 0 ++ yW cI cZ ad' yS0 0)[i]? = some q ∧ q.1 = ad i := by
      intro i hi
      have h1 : i < (xW cI cZ ad xS0 0).length := hi
      refine ⟨_, by rw [List.getElem?_append_left h1]; exact List.getElem?_eq_getElem h1, (xW_at (List.getElem?_eq_getElem h1)).2⟩
    have getY : ∀ j, j < 16 → ∃ q, (xW cI cZ ad xS0 0 ++ yW cI cZ ad' yS0 0)[21 + j]? = some q ∧ q.1 = ad' j := by
      intro j hj
      have h1 : j < (yW cI cZ ad' yS0 0).length := hj
      refine ⟨_, by rw [List.getElem?_append_right (show (xW cI cZ ad xS0 0).length ≤ 21 + j from Nat.le_add_right 21 j), show 21 + j - (xW cI cZ ad xS0 0).length = j from Nat.add_sub_cancel_left 21 j]; exact List.getElem?_eq_getElem h1, (yW_at (List.getElem?_eq_getElem h1)).2⟩
    have hlo : ∀ i, i < 21 → s.heap.size ≤ ad i := fun i hi => by
      obtain ⟨q, h1, h2⟩ := getX i hi
      rw [← h2]; exact hD.2 i q h1
    have hlo' : ∀ j, j < 16 → s.heap.size ≤ ad' j := fun j hj => by
      obtain ⟨q, h1, h2⟩ := getY j hj
      rw [← h2]; exact hD.2 _ q h1
    have CLx : CL p s m meth c (dC, dI) cI cZ ad ad' b L xs := by
      refine ⟨hx, hb, hml, hown, tsW, hK, va_Nw.of rfl (hts _ (List.mem_append_right _ (List.mem_append_right _ (List.mem_append_left _ (List.mem_of_getElem? (i := 16) rfl))))), fun i j hi hj h => ?_, fun i j hi hj h => ?_, hlo, hlo', fun i j hi hj h => ?_, hX, hbl, hlocks, hr, hL⟩
      · obtain ⟨q, h1, h2⟩ := getX i hi
        obtain ⟨q', h3, h4⟩ := getX j hj
        exact hD.1 i j q q' h1 h3 (by rw [h2, h4]; exact h)
      · obtain ⟨q, h1, h2⟩ := getY i hi
        obtain ⟨q', h3, h4⟩ := getY j hj
        have := hD.1 _ _ q q' h1 h3 (by rw [h2, h4]; exact h)
        omega
      · obtain ⟨q, h1, h2⟩ := getX i hi
        obtain ⟨q', h3, h4⟩ := getY j hj
        have := hD.1 _ _ q q' h1 h3 (by rw [h2, h4]; exact h)
        omega
    have hl : lv_has ls 4 [(3, .int (nI 0)), (2, .ref (ad' 0)), (1, .ref (ad 0)), (0, .ref b)] := by rw [← ea, ← ea']; exact hl
    exact law_loop CLx S (L + 6) 0 (by omega) (by omega) xS0 0 yS0 0 S.1 H locs ls hPx hPy hS hl
  refine key s.heap [] _ (fun k q h => by simp at h) ⟨fun i j p q h => by simp at h, fun k q h => by simp at h⟩ va_S.rf hl

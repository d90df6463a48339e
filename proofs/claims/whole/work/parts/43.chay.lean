/-! math 24: chance, the reference's side -/
def pr (x L f j acc : Nat) : Nat := acc * (if L.testBit j = true then (if f.testBit j = true then x else 10 - x) else 1)
theorem pr_dec : ∀ L, L < 64 → ∀ x, x < 11 → ∀ f, f < 64 → subB f L = true → itN (pr x L f) 6 0 1 = Wt x (pcN L) (pcN L - pcN f) := by decide +kernel
theorem low_dec : ∀ L, L < 64 → ∀ x, x < 11 → sumG (fun f => if subB f L = true then Wt x (pcN L) (pcN L - pcN f) else 0) 64 = 10 ^ pcN L := by decide +kernel
theorem itN_id {B : Type} {g : Nat → B → B} : ∀ m i x, (∀ j, i ≤ j → j < i + m → ∀ y, g j y = y) → itN g m i x = x := by
  intro m
  induction m with
  | zero => intro i x _; rfl
  | succ m ih =>
    intro i x h
    rw [itN_s, h i (by omega) (by omega)]
    exact ih (i + 1) x (fun j h1 h2 => h j (by omega) (by omega))
theorem pr_cut {L cnt : Nat} (hc : cnt ≤ 6) (hL : L < 2 ^ cnt) (x f : Nat) : itN (pr x L f) 6 0 1 = itN (pr x L f) cnt 0 1 := by
  have e : itN (pr x L f) 6 0 1 = itN (pr x L f) (cnt + (6 - cnt)) 0 1 := congrArg (fun m => itN (pr x L f) m 0 1) (by omega)
  rw [e, itN_add]
  refine itN_id _ _ _ (fun j j1 j2 y => ?_)
  have b : L.testBit j = false := Nat.testBit_lt_two_pow (Nat.lt_of_lt_of_le hL (Nat.pow_le_pow_right (by decide) (by omega)))
  unfold pr
  rw [b, if_neg (show ¬ false = true by decide), Nat.mul_one]
theorem y_chIn {τ : eSt} {cnt : Nat} {sn : Nat → Nat → Nat} (HY : RSY τ cnt sn) {sc : Nat → Nat} (S : ScOk sc) (PY : PgY (τ 4) sc) {c h x L f : Nat} (hc : c < 10) (hh : h < 10) (hx : x ≤ 10) (hL : L < 64) (hf : f < 64) (a4 al : Int32) : ∃ τ', YSame τ τ' ∧ ∀ (K : Int32 → Int32 → Int32 → eSt → Option (Int32 × eSt)) (a7 a8 : Int32), lo_2 (bX5_chance_89 K τ (nI c) (nI h) (nI x) a4 al (nI L) a7 a8 (nI f)) 1000 1 0 = K (if (sureS (fun c => setN cnt sn (sc 2 ||| f) (sc 3) (sc 4) (sc 5) (sc 6) c h)).testBit c = true then a7 + nI (itN (pr x L f) cnt 0 1) else a7 + 0) (a8 + nI (itN (pr x L f) cnt 0 1)) (nI (f + 1)) τ' := by
  have hcn := HY.2.1
  obtain ⟨τ', t1, t2⟩ := y_trial HY S PY (Nat.or_lt_two_pow (n := 6) S.2.2.1 hf) hh
  refine ⟨τ', t1, fun K a7 a8 => ?_⟩
  have w187 : ∀ u v w : Int32, fX5_chance_187 K τ' (nI c) (nI h) (nI x) a4 al (nI L) w (nI f) u v = K (v + u) w (nI (f + 1)) τ' := fun u v w => by
    unfold fX5_chance_187 fX5_chance_190
    rw [e_bnd_def, e_bnd_def, nI_1]
  refine (lo_2_ac (b := bX5_chance_89 K τ (nI c) (nI h) (nI x) a4 al (nI L) a7 a8 (nI f)) (N := cnt) (fun y : Nat => nI y) (fun _ _ => True) (pr x L f) (fun y => K (if (sureS (fun c => setN cnt sn (sc 2 ||| f) (sc 3) (sc 4) (sc 5) (sc 6) c h)).testBit c = true then a7 + nI y else a7 + 0) (a8 + nI y) (nI (f + 1)) τ') (fun k j y hj _ => ⟨?_, trivial⟩) (fun k y _ => ?_) cnt 1000 0 1 (by omega) (by omega) trivial).1
  · have w132 : ∀ v w : Nat, fX5_chance_132 K k τ (nI c) (nI h) (nI x) a4 al (nI L) a7 a8 (nI f) (nI j) (nI v) (nI w) = k (nI (w * v)) (nI (j + 1)) := fun v w => by
      unfold fX5_chance_132
      rw [e_bnd_def, e_bnd_def, nI_1, pk_mul]
    unfold bX5_chance_89 pr
    rw [HY.1, if_neg (by rw [e_le (by omega) (by omega)]; omega), has_bit L hL j (by omega), Option.bind_some, has_bit f hf j (by omega), Option.bind_some]
    cases L.testBit j with
    | false => rw [if_pos (show eB false = 0 from rfl), if_neg (show ¬ false = true by decide)]; exact w132 1 y
    | true =>
      rw [if_neg (show ¬ eB true = 0 by decide), if_pos (show true = true from rfl)]
      cases f.testBit j with
      | false =>
        rw [if_pos (show eB false = 0 from rfl), if_neg (show ¬ false = true by decide), show (10 : Int32) - nI x = nI (10 - x) from pk_sub hx]; exact w132 (10 - x) y
      | true => rw [if_neg (show ¬ eB true = 0 by decide), if_pos (show true = true from rfl)]; exact w132 x y
  · have h52 : yB τ 5 2 = nI (sc 2) := by rw [yB_5 τ (by omega)]; exact PY.2.2.1
    unfold bX5_chance_89
    rw [HY.1, if_pos (by rw [e_le (by omega) (by omega)]; omega), y_begin', Option.bind_some, e_bnd_def, e_bnd_def, h52, nx_or, t2, Option.bind_some]
    dsimp only
    rw [has1024 _ (sureS_lt _) c hc, Option.bind_some, w187, w187]
    cases (sureS (fun c => setN cnt sn (sc 2 ||| f) (sc 3) (sc 4) (sc 5) (sc 6) c h)).testBit c with
    | false => rw [if_pos (show eB false = 0 from rfl)]; rfl
    | true => rw [if_neg (show ¬ eB true = 0 by decide)]; rfl

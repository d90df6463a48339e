/-! math 16: the start; rivals -/
theorem eI_start : eI xS0 0 yS0 0 := by
  refine ⟨rfl, ⟨0, by omega, rfl, rfl, fun i h => by omega⟩, ⟨0, fun _ _ => 0, ⟨rfl, by omega, fun s h => by omega⟩, ⟨rfl, by omega, fun s h => by omega⟩⟩, ⟨scB 0 0 1, ⟨?_, ?_, ?_, Nat.le_refl 10, Nat.le_refl 10, fun _ => rfl, ?_, ?_⟩, ⟨rfl, rfl, rfl, rfl, rfl, rfl, rfl⟩, ⟨rfl, rfl, rfl, rfl, rfl, rfl, rfl, rfl⟩⟩, ⟨0, by omega, rfl, rfl, fun i h => by omega⟩, ?_, ⟨0, by omega, rfl, rfl, fun i h => by omega⟩⟩
  · show 0 < 10; omega
  · show 0 < 10; omega
  · show 0 < 64; omega
  · show 0 ≤ 4; omega
  · show 1 ≤ 2; omega
  · intro s hs
    refine Or.inl ?_
    rcases (show s = 0 ∨ s = 1 by omega) with rfl | rfl
    · exact ⟨rfl, rfl⟩
    · exact ⟨rfl, rfl⟩
def canB (a b : Nat) : Bool := !(decide (a = b)) || decide (a = 10)
theorem x_can {a b : Nat} (ha : a ≤ 10) (hb : b ≤ 10) : fX4_canBoth (nI a) (nI b) = some (eB (canB a b)) := by
  unfold fX4_canBoth canB
  simp only [show (10 : Int32) = nI 10 from rfl, e_eq (show a < 2 ^ 31 by omega) (show b < 2 ^ 31 by omega), e_eq (show a < 2 ^ 31 by omega) (show 10 < 2 ^ 31 by omega), e_r0, e_r1]
  by_cases e : a = b
  · rw [if_pos e, decide_eq_true e]
    by_cases f : a = 10
    · rw [if_pos f, decide_eq_true f]; rfl
    · rw [if_neg f, decide_eq_false f]; rfl
  · rw [if_neg e, decide_eq_false e]; rfl
theorem y_can (x y : Int32) : fX5_canBoth x y = fX4_canBoth x y := rfl
/-- the pair (a, b) holds against the choice j -/
def restP (V : Nat → Nat → Nat) (a b j : Nat) : Bool := (!(canB j b) || decide (V j b ≤ V a b)) && (!(canB a j) || decide (V a b ≤ V a j))
def restR (V : Nat → Nat → Nat) (a b : Nat) : Bool := canB a b && allF (restP V a b) 11 0
theorem x_rest {σ : eSt} {V : Nat → Nat → Nat} (hV : ∀ a b, V a b ≤ 10) (h20 : ∀ a b, a < 11 → b < 11 → canB a b = true → σ 20 (11 * a + b) = nI (V a b)) {a b : Nat} (ha : a < 11) (hb : b < 11) : fX4_isAtRest σ (nI a) (nI b) = some (eB (restR V a b)) := by
  have ix : ∀ c d, c < 11 → d < 11 → e_in ((11 : Int32) * nI c + nI d) 121 ∧ ((11 : Int32) * nI c + nI d).toNatClampNeg = 11 * c + d := fun c d hc hd => by
    rw [show (11 : Int32) = nI 11 from rfl, pk_mul, nI_add, e_inN (by omega), nI_clamp (by omega)]; exact ⟨by omega, rfl⟩
  unfold fX4_isAtRest restR
  rw [x_can (by omega) (by omega), Option.bind_some]
  cases hc : canB a b with
  | false => rw [if_pos (show eB false = 0 from rfl), e_r0]; rfl
  | true =>
    rw [if_neg (show ¬ eB true = 0 by decide), if_pos (ix a b ha hb).1, (ix a b ha hb).2, h20 a b ha hb hc, e_bnd_def]
    have hab := hV a b
    have s59 : ∀ (k : Int32 → Option Int32) (j : Nat), j < 11 → fX4_isAtRest_59 k σ (nI a) (nI b) (nI (V a b)) (nI j) = if (!(canB a j) || decide (V a b ≤ V a j)) = true then k (nI (j + 1)) else some 0 := by
      intro k j hj
      unfold fX4_isAtRest_59 fX4_isAtRest_86
      rw [x_can (by omega) (by omega), Option.bind_some]
      cases hcj : canB a j with
      | false => rw [if_pos (show eB false = 0 from rfl), e_bnd_def, nI_1]; rfl
      | true =>
        have hv := hV a j
        rw [if_neg (show ¬ eB true = 0 by decide), if_pos (ix a j ha hj).1, (ix a j ha hj).2, h20 a j ha hj hcj, e_bnd_def, nI_1, e_r0]
        simp only [e_le (show V a b < 2 ^ 31 by omega) (show V a j < 2 ^ 31 by omega), Bool.not_true, Bool.false_or, decide_eq_true_eq]
    have step : ∀ (k : Int32 → Option Int32) (j : Nat), j < 11 → bX4_isAtRest_25 σ (nI a) (nI b) (nI (V a b)) k (nI j) = if restP V a b j = true then k (nI (j + 1)) else some (eB false) := by
      intro k j hj
      unfold bX4_isAtRest_25 restP
      rw [if_neg (show ¬ (11 : Int32) ≤ nI j by rw [show (11 : Int32) = nI 11 from rfl, e_le (by omega) (by omega)]; omega), x_can (by omega) (by omega), Option.bind_some, s59 k j hj]
      cases hcj : canB j b with
      | false =>
        rw [if_pos (show eB false = 0 from rfl)]
        cases (!(canB a j) || decide (V a b ≤ V a j)) <;> rfl
      | true =>
        have hv := hV j b
        rw [if_neg (show ¬ eB true = 0 by decide), if_pos (ix j b hj hb).1, (ix j b hj hb).2, h20 j b hj hb hcj, e_r0]
        by_cases c : V j b ≤ V a b
        · rw [if_pos (by rw [e_le (by omega) (by omega)]; exact c), decide_eq_true c]
          cases (!(canB a j) || decide (V a b ≤ V a j)) <;> rfl
        · rw [if_neg (by rw [e_le (by omega) (by omega)]; exact c), decide_eq_false c]
          cases (!(canB a j) || decide (V a b ≤ V a j)) <;> rfl
    have fin : ∀ (k : Int32 → Option Int32), bX4_isAtRest_25 σ (nI a) (nI b) (nI (V a b)) k (nI 11) = some (eB true) := by
      intro k
      unfold bX4_isAtRest_25
      rw [if_pos (by decide), e_r1]; rfl
    have key : ∀ m q i, i + m = 11 → m < q → lo_1 (bX4_isAtRest_25 σ (nI a) (nI b) (nI (V a b))) q (nI i) = some (eB (allF (restP V a b) m i)) := by
      intro m
      induction m with
      | zero =>
        intro q i hi hq
        obtain ⟨q, rfl⟩ : ∃ r, q = r + 1 := ⟨q - 1, by omega⟩
        have : i = 11 := by omega
        subst this
        rw [lo_1_step, fin]; rfl
      | succ m ih =>
        intro q i hi hq
        obtain ⟨q, rfl⟩ : ∃ r, q = r + 1 := ⟨q - 1, by omega⟩
        rw [lo_1_step, step _ i (by omega), ih q (i + 1) (by omega) (by omega)]
        show _ = some (eB (restP V a b i && allF (restP V a b) m (i + 1)))
        cases restP V a b i <;> rfl
    exact key 11 1000 0 (by omega) (by omega)
theorem y_rest {τ : eSt} {V : Nat → Nat → Nat} (hV : ∀ a b, V a b ≤ 10) (h15 : ∀ a b, a < 11 → b < 11 → τ 15 (11 * a + b) = nI (V a b)) {a b : Nat} (ha : a < 11) (hb : b < 11) : fX5_doRest τ (nI a) (nI b) = some (eB (restR V a b)) := by
  have ix : ∀ c d, c < 11 → d < 11 → e_in ((11 : Int32) * nI c + nI d) 121 ∧ ((11 : Int32) * nI c + nI d).toNatClampNeg = 11 * c + d := fun c d hc hd => by
    rw [show (11 : Int32) = nI 11 from rfl, pk_mul, nI_add, e_inN (by omega), nI_clamp (by omega)]; exact ⟨by omega, rfl⟩
  have hab := hV a b
  have f0 : ∀ (k : Int32 → Int32 → Option Int32) (i : Int32), bX5_doRest_9 τ (nI a) (nI b) k 0 i = some (eB false) := by
    intro k i
    unfold bX5_doRest_9
    by_cases e : 10 < i
    · rw [if_pos e, e_r0]; rfl
    · rw [if_neg e, if_pos rfl, e_r0]; rfl
  have s60 : ∀ (k : Int32 → Int32 → Option Int32) (j : Nat), j < 11 → fX5_doRest_60 k τ (nI a) (nI b) (nI j) 1 = k (eB (!(canB a j) || decide (V a b ≤ V a j))) (nI (j + 1)) := by
    intro k j hj
    unfold fX5_doRest_60 fX5_doRest_104 fX5_doRest_100 fX5_doRest_105
    rw [if_neg (show ¬ (1 : Int32) = 0 by decide), y_can, x_can (by omega) (by omega), Option.bind_some, e_bnd_def, e_bnd_def, nI_1]
    cases hcj : canB a j with
    | false => rw [if_pos (show eB false = 0 from rfl)]; rfl
    | true =>
      have hv := hV a j
      rw [if_neg (show ¬ eB true = 0 by decide), if_pos (ix a j ha hj).1, if_pos (ix a b ha hb).1, (ix a j ha hj).2, (ix a b ha hb).2, h15 a j ha hj, h15 a b ha hb]
      by_cases c : V a b ≤ V a j
      · rw [if_neg (by rw [e_lt (by omega) (by omega)]; omega), decide_eq_true c]; rfl
      · rw [if_pos (by rw [e_lt (by omega) (by omega)]; omega), decide_eq_false c]; rfl
  have s600 : ∀ (k : Int32 → Int32 → Option Int32) (j : Nat), fX5_doRest_60 k τ (nI a) (nI b) (nI j) 0 = k (eB false) (nI (j + 1)) := by
    intro k j
    unfold fX5_doRest_60 fX5_doRest_104 fX5_doRest_105
    rw [if_pos rfl, e_bnd_def, nI_1]; rfl
  have step : ∀ (k : Int32 → Int32 → Option Int32) (j : Nat), j < 11 → bX5_doRest_9 τ (nI a) (nI b) k 1 (nI j) = k (eB (restP V a b j)) (nI (j + 1)) := by
    intro k j hj
    unfold bX5_doRest_9 fX5_doRest_55 restP
    rw [if_neg (show ¬ (10 : Int32) < nI j by rw [show (10 : Int32) = nI 10 from rfl, e_lt (by omega) (by omega)]; omega), if_neg (show ¬ (1 : Int32) = 0 by decide), y_can, x_can (by omega) (by omega), Option.bind_some, s60 k j hj, s600 k j]
    cases hcj : canB j b with
    | false =>
      rw [if_pos (show eB false = 0 from rfl)]; rfl
    | true =>
      have hv := hV j b
      rw [if_neg (show ¬ eB true = 0 by decide), if_pos (ix j b hj hb).1, if_pos (ix a b ha hb).1, (ix j b hj hb).2, (ix a b ha hb).2, h15 j b hj hb, h15 a b ha hb]
      by_cases c : V j b ≤ V a b
      · rw [if_neg (by rw [e_lt (by omega) (by omega)]; omega), decide_eq_true c]; rfl
      · rw [if_pos (by rw [e_lt (by omega) (by omega)]; omega), decide_eq_false c]; rfl
  have fin : ∀ (k : Int32 → Int32 → Option Int32), bX5_doRest_9 τ (nI a) (nI b) k 1 (nI 11) = some (eB true) := by
    intro k
    unfold bX5_doRest_9
    rw [if_pos (by decide), e_r1]; rfl
  have key : ∀ m q i, i + m = 11 → m + 1 < q → lo_2 (bX5_doRest_9 τ (nI a) (nI b)) q 1 (nI i) = some (eB (allF (restP V a b) m i)) := by
    intro m
    induction m with
    | zero =>
      intro q i hi hq
      obtain ⟨q, rfl⟩ : ∃ r, q = r + 1 := ⟨q - 1, by omega⟩
      have : i = 11 := by omega
      subst this
      rw [lo_2_step, fin]; rfl
    | succ m ih =>
      intro q i hi hq
      obtain ⟨q, rfl⟩ : ∃ r, q = r + 1 := ⟨q - 1, by omega⟩
      rw [lo_2_step, step _ i (by omega)]
      show _ = some (eB (restP V a b i && allF (restP V a b) m (i + 1)))
      cases restP V a b i with
      | false =>
        obtain ⟨q, rfl⟩ : ∃ r, q = r + 1 := ⟨q - 1, by omega⟩
        rw [lo_2_step]; exact f0 _ _
      | true => exact ih q (i + 1) (by omega) (by omega)
  unfold fX5_doRest restR
  rw [y_can, x_can (by omega) (by omega), Option.bind_some]
  cases canB a b with
  | false =>
    have t : ∀ q, lo_2 (bX5_doRest_9 τ (nI a) (nI b)) (q + 1) (eB false) 0 = some (eB false) := fun q => by rw [lo_2_step]; exact f0 _ _
    exact t 999
  | true => exact key 11 1000 0 (by omega) (by omega)

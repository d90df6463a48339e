/-! math 20: worth, the class's side -/
def facN (k : Nat) : Nat := [1, 1, 2, 6, 24, 120, 720].getD k 0
theorem fac_x : ∀ k, k < 7 → fX4_factorial (nI k) = some (nI (facN k)) := by decide +kernel
theorem fac_y : ∀ k, k < 7 → fX5_orders (nI k) = some (nI (facN k)) := by decide +kernel
theorem fac_b : ∀ k, k < 7 → 1 ≤ facN k ∧ facN k ≤ 720 := by decide +kernel
def subB (e O : Nat) : Bool := decide (e &&& (63 ^^^ O) = 0)
theorem sub_x {e O : Nat} (he : e < 64) (hO : O < 64) : ((nI e) &&& ((nI O) ^^^ (-1)) = 0) = (subB e O = true) := by
  rw [and_not e he O hO]
  have h : e &&& (63 ^^^ O) < 2 ^ 31 := Nat.lt_of_le_of_lt Nat.and_le_left (by omega)
  rw [show (0 : Int32) = nI 0 from rfl, e_eq h (by omega)]
  unfold subB
  rw [decide_eq_true_eq]
theorem sub_split : ∀ L, L < 64 → ∀ s, s < 6 → L.testBit s = true → ∀ e, e < 64 → subB e (L &&& (63 ^^^ 2 ^ s)) = (subB e L && !e.testBit s) := by decide +kernel
theorem sub_cnt : ∀ O, O < 64 → ∀ e, e < 64 → subB e O = true → pcN e ≤ pcN O := by decide +kernel
theorem cnt_split : ∀ L, L < 64 → ∀ s, s < 6 → L.testBit s = true → pcN L = pcN (L &&& (63 ^^^ 2 ^ s)) + 1 ∧ pcN L ≤ 6 := by decide +kernel
def trm (U : Nat → Nat) (O p s e : Nat) : Int := if subB e O = true then ((facN (pcN e) * facN (p - pcN e) : Nat) : Int) * ((U (e ||| 2 ^ s) : Int) - U e) else 0
def gT (U : Nat → Nat) (O p s e : Nat) (x : Int) : Int := x + trm U O p s e
theorem trm_le {U : Nat → Nat} (hU : ∀ e, U e ≤ 10) {O p s e : Nat} (hp : p ≤ 6) (hO : O < 64) (he : e < 64) (hpO : pcN O = p) : (trm U O p s e).natAbs ≤ 5184000 := by
  unfold trm
  by_cases c : subB e O = true
  · rw [if_pos c, Int.natAbs_mul, Int.natAbs_natCast]
    have k1 := sub_cnt O hO e he c
    have f1 := (fac_b (pcN e) (by omega)).2
    have f2 := (fac_b (p - pcN e) (by omega)).2
    have u1 := hU (e ||| 2 ^ s)
    have u2 := hU e
    have h1 : facN (pcN e) * facN (p - pcN e) ≤ 720 * 720 := Nat.mul_le_mul f1 f2
    have h2 : ((U (e ||| 2 ^ s) : Int) - U e).natAbs ≤ 10 := by omega
    exact Nat.le_trans (Nat.mul_le_mul h1 h2) (by decide)
  · rw [if_neg c]; exact Nat.zero_le _
theorem sumT_le {U : Nat → Nat} (hU : ∀ e, U e ≤ 10) {O p s : Nat} (hp : p ≤ 6) (hO : O < 64) (hpO : pcN O = p) : ∀ m, m ≤ 64 → (itN (gT U O p s) m 0 0).natAbs ≤ 5184000 * m := by
  intro m
  induction m with
  | zero => intro _; rw [itN_0]; exact Nat.le_refl _
  | succ m ih =>
    intro hm
    rw [itN_last, Nat.zero_add]
    have h1 := ih (by omega)
    have h2 := trm_le hU (s := s) hp hO (show m < 64 by omega) hpO
    have h3 := Int.natAbs_add_le (itN (gT U O p s) m 0 0) (trm U O p s m)
    show (itN (gT U O p s) m 0 0 + trm U O p s m).natAbs ≤ _
    omega
theorem abs_of {S : Int} (h : S.natAbs < 2 ^ 31) : e_abs (Int32.ofInt S) = nI S.natAbs := by
  have t : (Int32.ofInt S).toInt = S := Int32.toInt_ofInt_of_le (by omega) (by omega)
  unfold e_abs
  by_cases c : 0 ≤ Int32.ofInt S
  · rw [if_pos c]
    have c2 := Int32.le_iff_toInt_le.mp c
    rw [t, show (0 : Int32).toInt = 0 from rfl] at c2
    show Int32.ofInt S = Int32.ofInt (S.natAbs : Int)
    congr 1; omega
  · rw [if_neg c, Int32.zero_sub, ← Int32.ofInt_neg]
    have c2 : ¬ (0 : Int) ≤ S := fun q => c (Int32.le_iff_toInt_le.mpr (by rw [t]; exact q))
    show Int32.ofInt (-S) = Int32.ofInt (S.natAbs : Int)
    congr 1; omega
theorem ofI_term (x : Int) (f g u v : Nat) : Int32.ofInt x + nI f * nI g * (nI u - nI v) = Int32.ofInt (x + ((f * g : Nat) : Int) * ((u : Int) - v)) := by
  rw [Int32.ofInt_add, Int32.ofInt_mul, Int32.ofInt_sub, pk_mul]; rfl
theorem x_worthL {σ : eSt} {F : Nat → Nat} (hF : ∀ c, c < 10 → σ 18 c = nI (F c)) (hl : ∀ c, c < 10 → F c < 256) {O p s : Nat} (hO : O < 64) (hp : p ≤ 5) (hpO : pcN O = p) (hs : s < 6) (a3 : Int32) : lo_2 (bX4_worth_77 σ a3 (nI (2 ^ s)) (nI O) (nI p)) 1000 0 0 = (fX4_toldPart (Int32.ofInt (itN (gT (fun e => pcN (sureS (fun c => F c &&& (e ||| 192)))) O p s) 64 0 0)) (nI (facN (p + 1))) a3).bind fun v2 => some (v2, σ) := by
  have s2 : 2 ^ s < 64 := Nat.pow_lt_pow_right (m := s) (n := 6) (by decide) hs
  refine (lo_2_ac (b := bX4_worth_77 σ a3 (nI (2 ^ s)) (nI O) (nI p)) (N := 64) (fun x : Int => Int32.ofInt x) (fun _ _ => True) (gT (fun e => pcN (sureS (fun c => F c &&& (e ||| 192)))) O p s) (fun x => (fX4_toldPart (Int32.ofInt x) (nI (facN (p + 1))) a3).bind fun v2 => some (v2, σ)) (fun k e x he _ => ⟨?_, trivial⟩) (fun k x _ => ?_) 64 1000 0 0 (by omega) (by omega) trivial).1
  · have w141 : ∀ v : Int32, fX4_worth_141 k σ a3 (nI (2 ^ s)) (nI O) (nI p) v (nI e) = k v (nI (e + 1)) := fun v => by
      unfold fX4_worth_141
      rw [e_bnd_def, nI_1]
    have es : e ||| 2 ^ s < 64 := Nat.or_lt_two_pow (n := 6) he s2
    unfold bX4_worth_77 gT trm
    rw [if_neg (show ¬ (64 : Int32) ≤ nI e by rw [show (64 : Int32) = nI 64 from rfl, e_le (by omega) (by omega)]; omega)]
    by_cases c : subB e O = true
    · have k1 := sub_cnt O hO e he c
      rw [if_pos (by rw [sub_x he hO]; exact c), if_pos c, bc_x e (by omega), Option.bind_some, fac_x _ (by omega), Option.bind_some, pk_sub (by omega), fac_x _ (by omega), Option.bind_some, nx_or, x_sureCount hF hl (show e ||| 2 ^ s < 256 by omega), x_sureCount hF hl (show e < 256 by omega), e_bnd_def, Option.bind_some, Option.bind_some, e_bnd_def, w141, ofI_term]
    · rw [if_neg (by rw [sub_x he hO]; exact c), if_neg c, w141, Int.add_zero]
  · unfold bX4_worth_77
    rw [if_pos (by decide), nI_1, fac_x _ (by omega), Option.bind_some]

/-! math 19: a fraction in its lowest terms -/
theorem gcd_step (a b : Nat) : Nat.gcd a b = Nat.gcd b (a % b) := by rw [Nat.gcd_comm, Nat.gcd_rec, Nat.gcd_comm]
theorem x_gdS {k : Int32 → Int32 → Int32 → Option Int32} {a b i : Nat} (hi : i < 100) (ha : a < 2 ^ 31) (hb : b < 2 ^ 31) : bX4_greatestDivisor_7 k (nI a) (nI b) (nI i) = if b = 0 then some (nI a) else k (nI b) (nI (a % b)) (nI (i + 1)) := by
  unfold bX4_greatestDivisor_7
  rw [if_neg (show ¬ (100 : Int32) ≤ nI i by rw [show (100 : Int32) = nI 100 from rfl, e_le (by omega) (by omega)]; omega)]
  by_cases e : b = 0
  · rw [if_pos (show nI b = 0 by rw [e]; rfl), if_pos e]
  · have ne : ¬ nI b = 0 := by rw [show (0 : Int32) = nI 0 from rfl, e_eq (by omega) (by omega)]; exact e
    rw [if_neg ne, if_neg ne, if_neg e, e_bnd_def, e_bnd_def, nI_1, show e_rem (nI a) (nI b) = nI (a % b) from pk_rem ha (by omega) hb]
theorem x_gd : ∀ n a b i q, b < 2 ^ n → a < 2 ^ 31 → b < 2 ^ 31 → i + 2 * n < 100 → 2 * n < q → lo_3 bX4_greatestDivisor_7 q (nI a) (nI b) (nI i) = some (nI (Nat.gcd a b)) := by
  intro n
  induction n with
  | zero =>
    intro a b i q hb ha _ hi hq
    obtain ⟨q, rfl⟩ : ∃ r, q = r + 1 := ⟨q - 1, by omega⟩
    have : b = 0 := by omega
    subst this
    rw [lo_3_step, x_gdS (by omega) ha (by omega), if_pos rfl, Nat.gcd_zero_right]
  | succ n ih =>
    intro a b i q hb ha hb31 hi hq
    obtain ⟨q, rfl⟩ : ∃ r, q = r + 1 := ⟨q - 1, by omega⟩
    rw [lo_3_step, x_gdS (by omega) ha hb31]
    by_cases e : b = 0
    · rw [if_pos e, e, Nat.gcd_zero_right]
    rw [if_neg e]
    obtain ⟨q, rfl⟩ : ∃ r, q = r + 1 := ⟨q - 1, by omega⟩
    have hr : a % b < b := Nat.mod_lt _ (by omega)
    rw [lo_3_step, x_gdS (by omega) hb31 (by omega), gcd_step a b]
    by_cases f : a % b = 0
    · rw [if_pos f, f, Nat.gcd_zero_right]
    rw [if_neg f, gcd_step b (a % b)]
    have h2 : b % (a % b) < a % b := Nat.mod_lt _ (by omega)
    have h3 : b % (a % b) + (a % b) ≤ b := by
      have d := Nat.div_add_mod b (a % b)
      have q1 : 1 ≤ b / (a % b) := (Nat.one_le_div_iff (by omega)).mpr (by omega)
      have := Nat.mul_le_mul_left (a % b) q1
      omega
    have h4 : 2 ^ (n + 1) = 2 * 2 ^ n := by rw [Nat.pow_succ, Nat.mul_comm]
    exact ih (a % b) (b % (a % b)) (i + 1 + 1) q (by omega) (by omega) (by omega) (by omega) (by omega)
theorem y_gdS {k : Int32 → Int32 → Option Int32} {a b : Nat} (ha : a < 2 ^ 31) (hb : b < 2 ^ 31) : bX5_divisor_13 k (nI a) (nI b) = if b = 0 then some (nI a) else k (nI b) (nI (a % b)) := by
  unfold bX5_divisor_13
  by_cases e : b = 0
  · rw [if_pos (show nI b = 0 by rw [e]; rfl), if_pos e]
  · have ne : ¬ nI b = 0 := by rw [show (0 : Int32) = nI 0 from rfl, e_eq (by omega) (by omega)]; exact e
    rw [if_neg ne, if_neg ne, if_neg e, e_bnd_def, show e_rem (nI a) (nI b) = nI (a % b) from pk_rem ha (by omega) hb]
theorem y_gd : ∀ n a b q, b < 2 ^ n → a < 2 ^ 31 → b < 2 ^ 31 → 2 * n < q → lo_2 bX5_divisor_13 q (nI a) (nI b) = some (nI (Nat.gcd a b)) := by
  intro n
  induction n with
  | zero =>
    intro a b q hb ha _ hq
    obtain ⟨q, rfl⟩ : ∃ r, q = r + 1 := ⟨q - 1, by omega⟩
    have : b = 0 := by omega
    subst this
    rw [lo_2_step, y_gdS ha (by omega), if_pos rfl, Nat.gcd_zero_right]
  | succ n ih =>
    intro a b q hb ha hb31 hq
    obtain ⟨q, rfl⟩ : ∃ r, q = r + 1 := ⟨q - 1, by omega⟩
    rw [lo_2_step, y_gdS ha hb31]
    by_cases e : b = 0
    · rw [if_pos e, e, Nat.gcd_zero_right]
    rw [if_neg e]
    obtain ⟨q, rfl⟩ : ∃ r, q = r + 1 := ⟨q - 1, by omega⟩
    have hr : a % b < b := Nat.mod_lt _ (by omega)
    rw [lo_2_step, y_gdS hb31 (by omega), gcd_step a b]
    by_cases f : a % b = 0
    · rw [if_pos f, f, Nat.gcd_zero_right]
    rw [if_neg f, gcd_step b (a % b)]
    have h2 : b % (a % b) < a % b := Nat.mod_lt _ (by omega)
    have h3 : b % (a % b) + (a % b) ≤ b := by
      have d := Nat.div_add_mod b (a % b)
      have q1 : 1 ≤ b / (a % b) := (Nat.one_le_div_iff (by omega)).mpr (by omega)
      have := Nat.mul_le_mul_left (a % b) q1
      omega
    have h4 : 2 ^ (n + 1) = 2 * 2 ^ n := by rw [Nat.pow_succ, Nat.mul_comm]
    exact ih (a % b) (b % (a % b)) q (by omega) (by omega) (by omega) (by omega)
/-- both sides tell the same fraction -/
theorem told_frac {a0 : Int32} {m b : Nat} (hm : e_abs a0 = nI m) (m31 : m < 2 ^ 31) (hb : 1 ≤ b) (b31 : b < 2 ^ 31) (a2 : Int32) : ∃ v, fX4_toldPart a0 (nI b) a2 = some v ∧ fX5_fraction a0 (nI b) a2 = some v := by
  have hx : fX4_greatestDivisor (nI m) (nI b) = some (nI (Nat.gcd m b)) := x_gd 31 m b 0 1000 b31 m31 b31 (by omega) (by omega)
  have hy : fX5_divisor_10 (nI b) (nI m) = some (nI (Nat.gcd m b)) := y_gd 31 m b 1000 b31 m31 b31 (by omega)
  have g1 : 0 < Nat.gcd m b := Nat.gcd_pos_of_pos_right m (by omega)
  have g2 : Nat.gcd m b ≤ b := Nat.gcd_le_right m (by omega)
  have hd : fX5_divisor a0 (nI b) = some (nI (Nat.gcd m b)) := by
    unfold fX5_divisor
    unfold e_abs at hm
    by_cases c : 0 ≤ a0
    · rw [if_pos c] at hm
      rw [if_pos c, hm]; exact hy
    · rw [if_neg c, Int32.zero_sub] at hm
      rw [if_neg c, hm]; exact hy
  have ne : ¬ nI (Nat.gcd m b) = 0 := by rw [show (0 : Int32) = nI 0 from rfl, e_eq (by omega) (by omega)]; omega
  have mx : e_max 1 (nI (Nat.gcd m b)) = nI (Nat.gcd m b) := by
    unfold e_max
    by_cases c : (1 : Int32) < nI (Nat.gcd m b)
    · rw [if_pos c]
    · rw [if_neg c]
      rw [show (1 : Int32) = nI 1 from rfl, e_lt (by omega) (by omega)] at c
      rw [show Nat.gcd m b = 1 by omega]; rfl
  unfold fX4_toldPart fX5_fraction
  rw [hm, hx, hd, Option.bind_some, Option.bind_some, e_bnd_def, mx, if_neg ne]
  by_cases c : a2 = 0
  · rw [if_pos c]; exact ⟨_, rfl, rfl⟩
  · rw [if_neg c, if_neg ne]; exact ⟨_, rfl, rfl⟩

/-! math 1: truth values, ranges, loops -/
def eB (b : Bool) : Int32 := if b = true then 1 else 0
theorem eB_t : eB true = 1 := rfl
theorem eB_f : eB false = 0 := rfl
theorem eB_z (b : Bool) : (eB b = 0) = (b = false) := by cases b <;> simp [eB]
theorem eB_1 (b : Bool) : (eB b = 1) = (b = true) := by cases b <;> simp [eB]
theorem eB_isb (b : Bool) : e_isb (eB b) := by cases b; exact Or.inl rfl; exact Or.inr rfl
theorem e_r0 {α : Type} (x : α) : (if e_isb 0 then some x else none) = some x := if_pos (Or.inl rfl)
theorem e_r1 {α : Type} (x : α) : (if e_isb 1 then some x else none) = some x := if_pos (Or.inr rfl)
theorem e_rB {α : Type} (b : Bool) (x : α) : (if e_isb (eB b) then some x else none) = some x := if_pos (eB_isb b)
theorem e_bnd_def {α β : Type} (a : α) (f : α → β) : e_bnd a f = f a := rfl
def inI (a lo hi : Int32) : Bool := decide (lo ≤ a) && decide (a ≤ hi)
theorem lgn (x y : Int64) : (lg_cmp x y < 0) = (x < y) := by
  apply propext
  unfold lg_cmp
  rw [Int64.lt_iff_toInt_lt]
  split
  · rename_i h
    have h := Int64.lt_iff_toInt_lt.mp h
    constructor
    · intro q; exact absurd q (by decide)
    · intro q; omega
  · rename_i h
    have h : ¬ y.toInt < x.toInt := fun q => h (Int64.lt_iff_toInt_lt.mpr q)
    split
    · rename_i h2
      constructor
      · intro q; exact absurd q (by decide)
      · intro q; rw [h2] at q; omega
    · rename_i h2
      have h2 : ¬ x.toInt = y.toInt := fun q => h2 (Int64.toInt_inj.mp q)
      constructor
      · intro _; omega
      · intro _; decide
theorem lgp (x y : Int64) : (0 < lg_cmp x y) = (y < x) := by
  apply propext
  unfold lg_cmp
  split
  · rename_i h
    constructor
    · intro _; exact h
    · intro _; decide
  · rename_i h
    constructor
    · intro q
      split at q
      · exact absurd q (by decide)
      · exact absurd q (by decide)
    · intro q; exact absurd q h
theorem e_in64 (a b c : Int64) : fX5_in a b c = some (eB (decide (b ≤ a) && decide (a ≤ c))) := by
  unfold fX5_in
  simp only [lgn, lgp, e_r0, e_r1]
  by_cases h1 : a < b
  · have h2 : ¬ b ≤ a := by rw [Int64.le_iff_toInt_le]; have := Int64.lt_iff_toInt_lt.mp h1; omega
    simp [h1, h2, eB]
  · have h2 : b ≤ a := by
      rw [Int64.le_iff_toInt_le]
      have : ¬ a.toInt < b.toInt := fun q => h1 (Int64.lt_iff_toInt_lt.mpr q)
      omega
    by_cases h3 : c < a
    · have h4 : ¬ a ≤ c := by rw [Int64.le_iff_toInt_le]; have := Int64.lt_iff_toInt_lt.mp h3; omega
      simp [h1, h2, h3, h4, eB]
    · have h4 : a ≤ c := by
        rw [Int64.le_iff_toInt_le]
        have : ¬ c.toInt < a.toInt := fun q => h3 (Int64.lt_iff_toInt_lt.mpr q)
        omega
      simp [h1, h2, h3, h4, eB]
theorem l64_le (a b : Int32) : (a.toInt64 ≤ b.toInt64) = (a ≤ b) := by
  apply propext
  rw [Int64.le_iff_toInt_le, Int32.le_iff_toInt_le, Int32.toInt_toInt64, Int32.toInt_toInt64]
theorem e_in32 (a b c : Int32) : fX5_in a.toInt64 b.toInt64 c.toInt64 = some (eB (inI a b c)) := by
  rw [e_in64]; simp only [l64_le]; rfl
theorem e_in0_9 (a : Int32) : fX5_in a.toInt64 0 9 = some (eB (inI a 0 9)) := e_in32 a 0 9
theorem e_in0_255 (a : Int32) : fX5_in a.toInt64 0 255 = some (eB (inI a 0 255)) := e_in32 a 0 255
theorem e_in0_4 (a : Int32) : fX5_in a.toInt64 0 4 = some (eB (inI a 0 4)) := e_in32 a 0 4
theorem e_in0_2 (a : Int32) : fX5_in a.toInt64 0 2 = some (eB (inI a 0 2)) := e_in32 a 0 2
theorem e_in0_1 (a : Int32) : fX5_in a.toInt64 0 1 = some (eB (inI a 0 1)) := e_in32 a 0 1
theorem e_in1_2 (a : Int32) : fX5_in a.toInt64 1 2 = some (eB (inI a 1 2)) := e_in32 a 1 2
theorem e_in1_9 (a : Int32) : fX5_in a.toInt64 1 9 = some (eB (inI a 1 9)) := e_in32 a 1 9
theorem e_in1_10 (a : Int32) : fX5_in a.toInt64 1 10 = some (eB (inI a 1 10)) := e_in32 a 1 10
theorem e_in0_10 (a : Int32) : fX5_in a.toInt64 0 10 = some (eB (inI a 0 10)) := e_in32 a 0 10
theorem e_in1_30 (a : Int32) : fX5_in a.toInt64 1 30 = some (eB (inI a 1 30)) := e_in32 a 1 30
theorem e_nlt (a b : Int32) : (¬ a < b) = (b ≤ a) := by
  apply propext; rw [Int32.le_iff_toInt_le, Int32.lt_iff_toInt_lt]; omega
theorem e_nle (a b : Int32) : (¬ a ≤ b) = (b < a) := by
  apply propext; rw [Int32.le_iff_toInt_le, Int32.lt_iff_toInt_lt]; omega
theorem inI_t {a lo hi : Int32} (h1 : ¬ a < lo) (h2 : ¬ hi < a) : inI a lo hi = true := by
  rw [e_nlt] at h1 h2; simp [inI, h1, h2]
theorem inI_lo {a lo hi : Int32} (h : a < lo) : inI a lo hi = false := by
  have : ¬ lo ≤ a := by rw [e_nle]; exact h
  simp [inI, this]
theorem inI_hi {a lo hi : Int32} (h : hi < a) : inI a lo hi = false := by
  have : ¬ a ≤ hi := by rw [e_nle]; exact h
  simp [inI, this]
theorem inI_nI {a hi : Int32} {n : Nat} (hn : hi.toInt = n) (h : inI a 0 hi = true) : ∃ j, j ≤ n ∧ a = nI j := by
  simp only [inI, Bool.and_eq_true, decide_eq_true_eq] at h
  exact nI_of2 hn (by rw [e_nlt]; exact h.1) h.2
-- a test of the kind '0 <= a < n' of the class
theorem e_test (a : Int32) (m : Int32) {α : Type} (x y : α) : (if a < 0 then x else if m < a then x else y) = if inI a 0 m = true then y else x := by
  by_cases h1 : a < 0
  · rw [if_pos h1, inI_lo h1]; rfl
  · rw [if_neg h1]
    by_cases h2 : m < a
    · rw [if_pos h2, inI_hi h2]; rfl
    · rw [if_neg h2, inI_t h1 h2]; rfl
theorem x_isCell (a : Int32) : fX4_isCell a = some (eB (inI a 0 9)) := by
  unfold fX4_isCell
  simp only [e_r0, e_r1]
  by_cases h1 : a < 0
  · rw [if_pos h1, inI_lo h1]; rfl
  · rw [if_neg h1]
    by_cases h2 : (10 : Int32) ≤ a
    · rw [if_pos h2, inI_hi (by rw [Int32.lt_iff_toInt_lt]; have := Int32.le_iff_toInt_le.mp h2; simp at this ⊢; omega)]; rfl
    · rw [if_neg h2, inI_t h1 (by rw [e_nlt, Int32.le_iff_toInt_le]; rw [e_nle] at h2; have := Int32.lt_iff_toInt_lt.mp h2; simp at this ⊢; omega)]; rfl
theorem x_isHour (a : Int32) : fX4_isHour a = some (eB (inI a 0 9)) := x_isCell a
theorem x_isSet (a : Int32) : fX4_isSet a = some (eB (inI a 0 255)) := by
  unfold fX4_isSet
  simp only [e_r0, e_r1]
  by_cases h1 : a < 0
  · rw [if_pos h1, inI_lo h1]; rfl
  · rw [if_neg h1]
    by_cases h2 : (255 : Int32) < a
    · rw [if_pos h2, inI_hi h2]; rfl
    · rw [if_neg h2, inI_t h1 h2]; rfl
theorem x_isFS (a : Int32) : fX4_isFirstOrSecond a = some (eB (inI a 0 1)) := by
  unfold fX4_isFirstOrSecond
  simp only [e_r0, e_r1]
  by_cases h1 : a = 0
  · subst h1; rfl
  · rw [if_neg h1]
    by_cases h2 : a = 1
    · subst h2; rfl
    · rw [if_neg h2]
      have : inI a 0 1 = false := by
        cases h : inI a 0 1 with
        | false => rfl
        | true =>
          obtain ⟨j, hj, e⟩ := inI_nI (n := 1) (by decide) h
          rcases (show j = 0 ∨ j = 1 by omega) with rfl | rfl
          · exact absurd e h1
          · exact absurd e h2
      rw [this]; rfl
theorem y_noCell (a : Int32) : fX5_noCell a = some (eB (!inI a 0 9)) := by
  unfold fX5_noCell
  simp only [e_in0_9, Option.bind_some, e_r0, e_r1, eB_z]
  cases inI a 0 9 <;> rfl
theorem y_noHour (a : Int32) : fX5_noHour a = some (eB (!inI a 0 9)) := y_noCell a
-- loops
theorem e_le {a b : Nat} (ha : a < 2 ^ 31) (hb : b < 2 ^ 31) : (nI a ≤ nI b) = (a ≤ b) := propext (nI_leI ha hb)
theorem e_lt {a b : Nat} (ha : a < 2 ^ 31) (hb : b < 2 ^ 31) : (nI a < nI b) = (a < b) := propext (nI_ltI ha hb)
theorem e_eq {a b : Nat} (ha : a < 2 ^ 31) (hb : b < 2 ^ 31) : (nI a = nI b) = (a = b) := propext (nI_eq ha hb)
theorem e_inN {n N : Nat} (hn : n < 2 ^ 31) : e_in (nI n) N = (n < N) := by
  apply propext
  show ¬ (nI n < 0 ∨ N ≤ (nI n).toNatClampNeg) ↔ n < N
  rw [nI_clamp hn]
  constructor
  · intro h
    rcases Nat.lt_or_ge n N with q | q
    · exact q
    · exact absurd (Or.inr q) h
  · intro h q
    rcases q with q | q
    · exact nI_pos hn q
    · omega
theorem lo_2_step {A1 A2 R : Type} {b : (A1 → A2 → Option R) → A1 → A2 → Option R} (n : Nat) : lo_2 b (n + 1) = b (lo_2 b n) := rfl
theorem lo_1_step {A1 R : Type} {b : (A1 → Option R) → A1 → Option R} (n : Nat) : lo_1 b (n + 1) = b (lo_1 b n) := rfl
theorem lo_3_step {A1 A2 A3 R : Type} {b : (A1 → A2 → A3 → Option R) → A1 → A2 → A3 → Option R} (n : Nat) : lo_3 b (n + 1) = b (lo_3 b n) := rfl
-- loops with a counter: the state is read off x by ρ, I is kept, g is one turn
def itN {B : Type} (g : Nat → B → B) : Nat → Nat → B → B
  | 0, _, x => x
  | m + 1, i, x => itN g m (i + 1) (g i x)
theorem itN_0 {B : Type} (g : Nat → B → B) (i : Nat) (x : B) : itN g 0 i x = x := rfl
theorem itN_s {B : Type} (g : Nat → B → B) (m i : Nat) (x : B) : itN g (m + 1) i x = itN g m (i + 1) (g i x) := rfl
theorem itN_last {B : Type} (g : Nat → B → B) : ∀ (m i : Nat) (x : B), itN g (m + 1) i x = g (i + m) (itN g m i x) := by
  intro m
  induction m with
  | zero => intro i x; rfl
  | succ m ih => intro i x; rw [itN_s, ih, itN_s, show i + 1 + m = i + (m + 1) by omega]
theorem lo_2_ac {A1 B R : Type} {b : (A1 → Int32 → Option R) → A1 → Int32 → Option R} {N : Nat} (ρ1 : B → A1) (I : Nat → B → Prop) (g : Nat → B → B) (ex : B → Option R) (hs : ∀ (k : A1 → Int32 → Option R) (i : Nat) (x : B), i < N → I i x → b k (ρ1 x) (nI i) = k (ρ1 (g i x)) (nI (i + 1)) ∧ I (i + 1) (g i x)) (hx : ∀ (k : A1 → Int32 → Option R) (x : B), I N x → b k (ρ1 x) (nI N) = ex x) : ∀ (m n i : Nat) (x : B), i + m = N → m < n → I i x → lo_2 b n (ρ1 x) (nI i) = ex (itN g m i x) ∧ I N (itN g m i x) := by
  intro m
  induction m with
  | zero =>
    intro n i x h1 h2 hI
    obtain ⟨n, rfl⟩ : ∃ q, n = q + 1 := ⟨n - 1, by omega⟩
    have : i = N := by omega
    subst this
    exact ⟨hx _ x hI, hI⟩
  | succ m ih =>
    intro n i x h1 h2 hI
    obtain ⟨n, rfl⟩ : ∃ q, n = q + 1 := ⟨n - 1, by omega⟩
    obtain ⟨e1, e2⟩ := hs (lo_2 b n) i x (by omega) hI
    obtain ⟨e3, e4⟩ := ih n (i + 1) (g i x) (by omega) (by omega) e2
    exact ⟨e1.trans e3, e4⟩
theorem lo_2_cs {A1 B R : Type} {b : (Int32 → A1 → Option R) → Int32 → A1 → Option R} {N : Nat} (ρ1 : B → A1) (I : Nat → B → Prop) (g : Nat → B → B) (ex : B → Option R) (hs : ∀ (k : Int32 → A1 → Option R) (i : Nat) (x : B), i < N → I i x → b k (nI i) (ρ1 x) = k (nI (i + 1)) (ρ1 (g i x)) ∧ I (i + 1) (g i x)) (hx : ∀ (k : Int32 → A1 → Option R) (x : B), I N x → b k (nI N) (ρ1 x) = ex x) : ∀ (m n i : Nat) (x : B), i + m = N → m < n → I i x → lo_2 b n (nI i) (ρ1 x) = ex (itN g m i x) ∧ I N (itN g m i x) := by
  intro m
  induction m with
  | zero =>
    intro n i x h1 h2 hI
    obtain ⟨n, rfl⟩ : ∃ q, n = q + 1 := ⟨n - 1, by omega⟩
    have : i = N := by omega
    subst this
    exact ⟨hx _ x hI, hI⟩
  | succ m ih =>
    intro n i x h1 h2 hI
    obtain ⟨n, rfl⟩ : ∃ q, n = q + 1 := ⟨n - 1, by omega⟩
    obtain ⟨e1, e2⟩ := hs (lo_2 b n) i x (by omega) hI
    obtain ⟨e3, e4⟩ := ih n (i + 1) (g i x) (by omega) (by omega) e2
    exact ⟨e1.trans e3, e4⟩
theorem lo_3_aac {A1 A2 B R : Type} {b : (A1 → A2 → Int32 → Option R) → A1 → A2 → Int32 → Option R} {N : Nat} (ρ1 : B → A1) (ρ2 : B → A2) (I : Nat → B → Prop) (g : Nat → B → B) (ex : B → Option R) (hs : ∀ (k : A1 → A2 → Int32 → Option R) (i : Nat) (x : B), i < N → I i x → b k (ρ1 x) (ρ2 x) (nI i) = k (ρ1 (g i x)) (ρ2 (g i x)) (nI (i + 1)) ∧ I (i + 1) (g i x)) (hx : ∀ (k : A1 → A2 → Int32 → Option R) (x : B), I N x → b k (ρ1 x) (ρ2 x) (nI N) = ex x) : ∀ (m n i : Nat) (x : B), i + m = N → m < n → I i x → lo_3 b n (ρ1 x) (ρ2 x) (nI i) = ex (itN g m i x) ∧ I N (itN g m i x) := by
  intro m
  induction m with
  | zero =>
    intro n i x h1 h2 hI
    obtain ⟨n, rfl⟩ : ∃ q, n = q + 1 := ⟨n - 1, by omega⟩
    have : i = N := by omega
    subst this
    exact ⟨hx _ x hI, hI⟩
  | succ m ih =>
    intro n i x h1 h2 hI
    obtain ⟨n, rfl⟩ : ∃ q, n = q + 1 := ⟨n - 1, by omega⟩
    obtain ⟨e1, e2⟩ := hs (lo_3 b n) i x (by omega) hI
    obtain ⟨e3, e4⟩ := ih n (i + 1) (g i x) (by omega) (by omega) e2
    exact ⟨e1.trans e3, e4⟩
theorem lo_3_acs {A1 A2 B R : Type} {b : (A1 → Int32 → A2 → Option R) → A1 → Int32 → A2 → Option R} {N : Nat} (ρ1 : B → A1) (ρ2 : B → A2) (I : Nat → B → Prop) (g : Nat → B → B) (ex : B → Option R) (hs : ∀ (k : A1 → Int32 → A2 → Option R) (i : Nat) (x : B), i < N → I i x → b k (ρ1 x) (nI i) (ρ2 x) = k (ρ1 (g i x)) (nI (i + 1)) (ρ2 (g i x)) ∧ I (i + 1) (g i x)) (hx : ∀ (k : A1 → Int32 → A2 → Option R) (x : B), I N x → b k (ρ1 x) (nI N) (ρ2 x) = ex x) : ∀ (m n i : Nat) (x : B), i + m = N → m < n → I i x → lo_3 b n (ρ1 x) (nI i) (ρ2 x) = ex (itN g m i x) ∧ I N (itN g m i x) := by
  intro m
  induction m with
  | zero =>
    intro n i x h1 h2 hI
    obtain ⟨n, rfl⟩ : ∃ q, n = q + 1 := ⟨n - 1, by omega⟩
    have : i = N := by omega
    subst this
    exact ⟨hx _ x hI, hI⟩
  | succ m ih =>
    intro n i x h1 h2 hI
    obtain ⟨n, rfl⟩ : ∃ q, n = q + 1 := ⟨n - 1, by omega⟩
    obtain ⟨e1, e2⟩ := hs (lo_3 b n) i x (by omega) hI
    obtain ⟨e3, e4⟩ := ih n (i + 1) (g i x) (by omega) (by omega) e2
    exact ⟨e1.trans e3, e4⟩
theorem lo_4_aacs {A1 A2 A3 B R : Type} {b : (A1 → A2 → Int32 → A3 → Option R) → A1 → A2 → Int32 → A3 → Option R} {N : Nat} (ρ1 : B → A1) (ρ2 : B → A2) (ρ3 : B → A3) (I : Nat → B → Prop) (g : Nat → B → B) (ex : B → Option R) (hs : ∀ (k : A1 → A2 → Int32 → A3 → Option R) (i : Nat) (x : B), i < N → I i x → b k (ρ1 x) (ρ2 x) (nI i) (ρ3 x) = k (ρ1 (g i x)) (ρ2 (g i x)) (nI (i + 1)) (ρ3 (g i x)) ∧ I (i + 1) (g i x)) (hx : ∀ (k : A1 → A2 → Int32 → A3 → Option R) (x : B), I N x → b k (ρ1 x) (ρ2 x) (nI N) (ρ3 x) = ex x) : ∀ (m n i : Nat) (x : B), i + m = N → m < n → I i x → lo_4 b n (ρ1 x) (ρ2 x) (nI i) (ρ3 x) = ex (itN g m i x) ∧ I N (itN g m i x) := by
  intro m
  induction m with
  | zero =>
    intro n i x h1 h2 hI
    obtain ⟨n, rfl⟩ : ∃ q, n = q + 1 := ⟨n - 1, by omega⟩
    have : i = N := by omega
    subst this
    exact ⟨hx _ x hI, hI⟩
  | succ m ih =>
    intro n i x h1 h2 hI
    obtain ⟨n, rfl⟩ : ∃ q, n = q + 1 := ⟨n - 1, by omega⟩
    obtain ⟨e1, e2⟩ := hs (lo_4 b n) i x (by omega) hI
    obtain ⟨e3, e4⟩ := ih n (i + 1) (g i x) (by omega) (by omega) e2
    exact ⟨e1.trans e3, e4⟩
theorem lo_1_c {B R : Type} {b : (Int32 → Option R) → Int32 → Option R} {N : Nat}  (I : Nat → B → Prop) (g : Nat → B → B) (ex : B → Option R) (hs : ∀ (k : Int32 → Option R) (i : Nat) (x : B), i < N → I i x → b k (nI i) = k (nI (i + 1)) ∧ I (i + 1) (g i x)) (hx : ∀ (k : Int32 → Option R) (x : B), I N x → b k (nI N) = ex x) : ∀ (m n i : Nat) (x : B), i + m = N → m < n → I i x → lo_1 b n (nI i) = ex (itN g m i x) ∧ I N (itN g m i x) := by
  intro m
  induction m with
  | zero =>
    intro n i x h1 h2 hI
    obtain ⟨n, rfl⟩ : ∃ q, n = q + 1 := ⟨n - 1, by omega⟩
    have : i = N := by omega
    subst this
    exact ⟨hx _ x hI, hI⟩
  | succ m ih =>
    intro n i x h1 h2 hI
    obtain ⟨n, rfl⟩ : ∃ q, n = q + 1 := ⟨n - 1, by omega⟩
    obtain ⟨e1, e2⟩ := hs (lo_1 b n) i x (by omega) hI
    obtain ⟨e3, e4⟩ := ih n (i + 1) (g i x) (by omega) (by omega) e2
    exact ⟨e1.trans e3, e4⟩
theorem lo_4_acss {A1 A2 A3 B R : Type} {b : (A1 → Int32 → A2 → A3 → Option R) → A1 → Int32 → A2 → A3 → Option R} {N : Nat} (ρ1 : B → A1) (ρ2 : B → A2) (ρ3 : B → A3) (I : Nat → B → Prop) (g : Nat → B → B) (ex : B → Option R) (hs : ∀ (k : A1 → Int32 → A2 → A3 → Option R) (i : Nat) (x : B), i < N → I i x → b k (ρ1 x) (nI i) (ρ2 x) (ρ3 x) = k (ρ1 (g i x)) (nI (i + 1)) (ρ2 (g i x)) (ρ3 (g i x)) ∧ I (i + 1) (g i x)) (hx : ∀ (k : A1 → Int32 → A2 → A3 → Option R) (x : B), I N x → b k (ρ1 x) (nI N) (ρ2 x) (ρ3 x) = ex x) : ∀ (m n i : Nat) (x : B), i + m = N → m < n → I i x → lo_4 b n (ρ1 x) (nI i) (ρ2 x) (ρ3 x) = ex (itN g m i x) ∧ I N (itN g m i x) := by
  intro m
  induction m with
  | zero =>
    intro n i x h1 h2 hI
    obtain ⟨n, rfl⟩ : ∃ q, n = q + 1 := ⟨n - 1, by omega⟩
    have : i = N := by omega
    subst this
    exact ⟨hx _ x hI, hI⟩
  | succ m ih =>
    intro n i x h1 h2 hI
    obtain ⟨n, rfl⟩ : ∃ q, n = q + 1 := ⟨n - 1, by omega⟩
    obtain ⟨e1, e2⟩ := hs (lo_4 b n) i x (by omega) hI
    obtain ⟨e3, e4⟩ := ih n (i + 1) (g i x) (by omega) (by omega) e2
    exact ⟨e1.trans e3, e4⟩
theorem lo_5_aacss {A1 A2 A3 A4 B R : Type} {b : (A1 → A2 → Int32 → A3 → A4 → Option R) → A1 → A2 → Int32 → A3 → A4 → Option R} {N : Nat} (ρ1 : B → A1) (ρ2 : B → A2) (ρ3 : B → A3) (ρ4 : B → A4) (I : Nat → B → Prop) (g : Nat → B → B) (ex : B → Option R) (hs : ∀ (k : A1 → A2 → Int32 → A3 → A4 → Option R) (i : Nat) (x : B), i < N → I i x → b k (ρ1 x) (ρ2 x) (nI i) (ρ3 x) (ρ4 x) = k (ρ1 (g i x)) (ρ2 (g i x)) (nI (i + 1)) (ρ3 (g i x)) (ρ4 (g i x)) ∧ I (i + 1) (g i x)) (hx : ∀ (k : A1 → A2 → Int32 → A3 → A4 → Option R) (x : B), I N x → b k (ρ1 x) (ρ2 x) (nI N) (ρ3 x) (ρ4 x) = ex x) : ∀ (m n i : Nat) (x : B), i + m = N → m < n → I i x → lo_5 b n (ρ1 x) (ρ2 x) (nI i) (ρ3 x) (ρ4 x) = ex (itN g m i x) ∧ I N (itN g m i x) := by
  intro m
  induction m with
  | zero =>
    intro n i x h1 h2 hI
    obtain ⟨n, rfl⟩ : ∃ q, n = q + 1 := ⟨n - 1, by omega⟩
    have : i = N := by omega
    subst this
    exact ⟨hx _ x hI, hI⟩
  | succ m ih =>
    intro n i x h1 h2 hI
    obtain ⟨n, rfl⟩ : ∃ q, n = q + 1 := ⟨n - 1, by omega⟩
    obtain ⟨e1, e2⟩ := hs (lo_5 b n) i x (by omega) hI
    obtain ⟨e3, e4⟩ := ih n (i + 1) (g i x) (by omega) (by omega) e2
    exact ⟨e1.trans e3, e4⟩
-- bit sets
def orN (p : Nat → Bool) : Nat → Nat
  | 0 => 0
  | n + 1 => orN p n ||| (if p n = true then 2 ^ n else 0)
theorem orN_s (p : Nat → Bool) (n : Nat) : orN p (n + 1) = orN p n ||| (if p n = true then 2 ^ n else 0) := rfl
theorem orN_lt (p : Nat → Bool) : ∀ n, orN p n < 2 ^ n := by
  intro n
  induction n with
  | zero => exact Nat.one_pos
  | succ n ih =>
    rw [orN_s]
    apply Nat.or_lt_two_pow
    · exact Nat.lt_of_lt_of_le ih (Nat.pow_le_pow_right (by decide) (by omega))
    · split
      · exact Nat.pow_lt_pow_right (by decide) (by omega)
      · exact Nat.two_pow_pos _
theorem orN_bit (p : Nat → Bool) (i : Nat) : ∀ n, (orN p n).testBit i = (decide (i < n) && p i) := by
  intro n
  induction n with
  | zero => simp [orN]
  | succ n ih =>
    rw [orN_s, Nat.testBit_or, ih]
    by_cases h : i = n
    · subst h
      cases hp : p i <;> simp [hp, Nat.testBit_two_pow_self]
    · have h2 : (if p n = true then 2 ^ n else 0).testBit i = false := by
        split
        · rw [Nat.testBit_two_pow]; simp; omega
        · simp
      rw [h2, Bool.or_false]
      by_cases h3 : i < n
      · simp [h3, show i < n + 1 by omega]
      · simp [h3, show ¬ i < n + 1 by omega]
theorem orN_congr {p q : Nat → Bool} {n : Nat} (h : ∀ i, i < n → p i = q i) : orN p n = orN q n := by
  apply Nat.eq_of_testBit_eq
  intro i
  rw [orN_bit, orN_bit]
  by_cases hi : i < n
  · rw [h i hi]
  · simp [hi]
theorem nx_or (a b : Nat) : nI a ||| nI b = nI (a ||| b) := by
  apply Int32.toBitVec_inj.1
  show BitVec.ofNat 32 a ||| BitVec.ofNat 32 b = BitVec.ofNat 32 (a ||| b)
  apply BitVec.eq_of_getLsbD_eq
  intro i hi
  simp [hi]
theorem nx_and (a b : Nat) : nI a &&& nI b = nI (a &&& b) := by
  apply Int32.toBitVec_inj.1
  show BitVec.ofNat 32 a &&& BitVec.ofNat 32 b = BitVec.ofNat 32 (a &&& b)
  apply BitVec.eq_of_getLsbD_eq
  intro i hi
  simp [hi]
theorem nx_xor (a b : Nat) : nI a ^^^ nI b = nI (a ^^^ b) := by
  apply Int32.toBitVec_inj.1
  show BitVec.ofNat 32 a ^^^ BitVec.ofNat 32 b = BitVec.ofNat 32 (a ^^^ b)
  apply BitVec.eq_of_getLsbD_eq
  intro i hi
  simp [hi]
theorem e_sh1 : ∀ n, n < 31 → e_shl 1 (nI n) = nI (2 ^ n) := by decide +kernel
-- the loops 'those |= test ? 1 << i : 0'
theorem lo_2_or {R : Type} {b : (Int32 → Int32 → Option R) → Int32 → Int32 → Option R} {N : Nat} {p : Nat → Bool} {ex : Int32 → Option R} (hN : N < 31) (hs : ∀ k a i, i < N → b k a (nI i) = k (if p i = true then a ||| e_shl 1 (nI i) else a) (nI (i + 1))) (hx : ∀ k a, b k a (nI N) = ex a) : lo_2 b 1000 0 0 = ex (nI (orN p N)) := by
  have key : ∀ (m n i : Nat), N = i + m → m < n → lo_2 b n (nI (orN p i)) (nI i) = ex (nI (orN p N)) := by
    intro m
    induction m with
    | zero =>
      intro n i h1 h2
      obtain ⟨n, rfl⟩ : ∃ q, n = q + 1 := ⟨n - 1, by omega⟩
      have : N = i := by omega
      subst this
      rw [lo_2_step]; exact hx _ _
    | succ m ih =>
      intro n i h1 h2
      obtain ⟨n, rfl⟩ : ∃ q, n = q + 1 := ⟨n - 1, by omega⟩
      rw [lo_2_step, hs _ _ i (by omega)]
      have e : (if p i = true then nI (orN p i) ||| e_shl 1 (nI i) else nI (orN p i)) = nI (orN p (i + 1)) := by
        rw [orN_s]
        split
        · rw [e_sh1 i (by omega), nx_or]
        · rw [Nat.or_zero]
      rw [e]
      exact ih n (i + 1) (by omega) (by omega)
  exact key N 1000 0 (by omega) (by omega)
-- filling a row: cell c gets v 0 .. v (i - 1)
def filS (σ : eSt) (c : Nat) (v : Nat → Int32) (i : Nat) : eSt := fun k => if k = c then (fun j => if j < i then v j else σ c j) else σ k
theorem filS_0 (σ : eSt) (c : Nat) (v : Nat → Int32) : filS σ c v 0 = σ := by
  funext k
  unfold filS
  split
  · rename_i h; subst h; funext j; simp
  · rfl
theorem filS_s (σ : eSt) (c : Nat) (v : Nat → Int32) (i : Nat) : e_up (filS σ c v i) c i (v i) = filS σ c v (i + 1) := by
  funext k
  unfold e_up filS
  by_cases h : k = c
  · rw [if_pos h, if_pos h, if_pos rfl]
    funext j
    unfold upd
    by_cases hj : j = i
    · subst hj; simp
    · rw [if_neg hj]
      show (if j < i then v j else σ c j) = _
      by_cases h2 : j < i
      · rw [if_pos h2, if_pos (by omega)]
      · rw [if_neg h2, if_neg (by omega)]
  · rw [if_neg h, if_neg h, if_neg h]
theorem filS_c (σ : eSt) (c : Nat) (v : Nat → Int32) (i j : Nat) : filS σ c v i c j = if j < i then v j else σ c j := by unfold filS; rw [if_pos rfl]
theorem filS_n (σ : eSt) (c : Nat) (v : Nat → Int32) (i : Nat) {k : Nat} (h : k ≠ c) : filS σ c v i k = σ k := by unfold filS; rw [if_neg h]
theorem lo_2_fil {R : Type} {b : (Int32 → eSt → Option R) → Int32 → eSt → Option R} {N c : Nat} {v : Nat → Int32} {σ : eSt} {ex : eSt → Option R} (hN : N < 999) (hs : ∀ k i, i < N → b k (nI i) (filS σ c v i) = k (nI (i + 1)) (e_up (filS σ c v i) c i (v i))) (hx : ∀ k, b k (nI N) (filS σ c v N) = ex (filS σ c v N)) : lo_2 b 1000 0 σ = ex (filS σ c v N) := by
  have key : ∀ (m n i : Nat), N = i + m → m < n → lo_2 b n (nI i) (filS σ c v i) = ex (filS σ c v N) := by
    intro m
    induction m with
    | zero =>
      intro n i h1 h2
      obtain ⟨n, rfl⟩ : ∃ q, n = q + 1 := ⟨n - 1, by omega⟩
      have : N = i := by omega
      subst this
      rw [lo_2_step]; exact hx _
    | succ m ih =>
      intro n i h1 h2
      obtain ⟨n, rfl⟩ : ∃ q, n = q + 1 := ⟨n - 1, by omega⟩
      rw [lo_2_step, hs _ i (by omega), filS_s]
      exact ih n (i + 1) (by omega) (by omega)
  have := key N 1000 0 (by omega) (by omega)
  rw [filS_0] at this
  exact this
-- reading an updated state
theorem up_n (σ : eSt) {c k : Nat} (j : Nat) (v : Int32) (h : k ≠ c) : e_up σ c j v k = σ k := by unfold e_up; rw [if_neg h]
theorem up_s (σ : eSt) (c j : Nat) (v : Int32) : e_up σ c j v c j = v := by unfold e_up upd; simp
theorem up_o (σ : eSt) (c : Nat) {i j : Nat} (v : Int32) (h : i ≠ j) : e_up σ c j v c i = σ c i := by unfold e_up upd; simp [h]

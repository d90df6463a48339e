/-! math 3: which cells are sure: both sides are one number sureS -/
def allN (p : Nat → Bool) : Nat → Bool
  | 0 => true
  | n + 1 => allN p n && p n
theorem allN_s (p : Nat → Bool) (n : Nat) : allN p (n + 1) = (allN p n && p n) := rfl
theorem allN_iff (p : Nat → Bool) : ∀ n, allN p n = true ↔ ∀ i, i < n → p i = true := by
  intro n
  induction n with
  | zero => exact ⟨fun _ i h => by omega, fun _ => rfl⟩
  | succ n ih =>
    rw [allN_s, Bool.and_eq_true, ih]
    constructor
    · intro h i hi
      by_cases e : i = n
      · rw [e]; exact h.2
      · exact h.1 i (by omega)
    · intro h
      exact ⟨fun i hi => h i (by omega), h n (by omega)⟩
theorem lo_2_all {R : Type} {b : (Int32 → Int32 → Option R) → Int32 → Int32 → Option R} {N : Nat} {p : Nat → Bool} {ex : Bool → Option R} (hN : N < 999) (hs : ∀ k a i, i < N → b k (eB a) (nI i) = k (eB (a && p i)) (nI (i + 1))) (hx : ∀ k a, b k (eB a) (nI N) = ex a) : lo_2 b 1000 1 0 = ex (allN p N) := by
  have key : ∀ (m n i : Nat), N = i + m → m < n → lo_2 b n (eB (allN p i)) (nI i) = ex (allN p N) := by
    intro m
    induction m with
    | zero =>
      intro n i h1 h2
      obtain ⟨n, rfl⟩ : ∃ q, n = q + 1 := ⟨n - 1, by omega⟩
      have : N = i := by omega
      subst this
      rw [lo_2_step]; exact hx _ _
    | succ m ih =>
      intro n i h1 h2
      obtain ⟨n, rfl⟩ : ∃ q, n = q + 1 := ⟨n - 1, by omega⟩
      rw [lo_2_step, hs _ _ i (by omega), ← allN_s]
      exact ih n (i + 1) (by omega) (by omega)
  exact key N 1000 0 (by omega) (by omega)
def alone (f : Nat → Nat) (c : Nat) : Bool := allN (fun d => decide (c = d) || !decide (f c = f d)) 10
def sureS (f : Nat → Nat) : Nat := orN (alone f) 10
theorem sureS_lt (f : Nat → Nat) : sureS f < 1024 := orN_lt _ 10
theorem sureS_congr {f g : Nat → Nat} (h : ∀ c, c < 10 → f c = g c) : sureS f = sureS g := by
  apply orN_congr
  intro c hc
  rw [Bool.eq_iff_iff]
  unfold alone
  rw [allN_iff, allN_iff]
  constructor
  · intro q d hd; rw [← h c hc, ← h d hd]; exact q d hd
  · intro q d hd; rw [h c hc, h d hd]; exact q d hd
theorem sureS_bit (f : Nat → Nat) (c : Nat) : (sureS f).testBit c = (decide (c < 10) && alone f c) := orN_bit _ _ _
/-- what the reference changes in no call that only asks -/
def YSame (τ τ' : eSt) : Prop := (τ' 0 2 = τ 0 2 ∧ τ' 0 4 = τ 0 4 ∧ τ' 0 14 = τ 0 14 ∧ τ' 0 17 = τ 0 17) ∧ ∀ k, k ≠ 0 → k ≠ 3 → k ≠ 5 → k < 13 → τ' k = τ k
def XSame (σ σ' : eSt) : Prop := ∀ k, k < 17 → σ' k = σ k
theorem YSame.rfl' (τ : eSt) : YSame τ τ := ⟨⟨rfl, rfl, rfl, rfl⟩, fun _ _ _ _ _ => rfl⟩
theorem YSame.trans' {a b c : eSt} (h1 : YSame a b) (h2 : YSame b c) : YSame a c := ⟨⟨h2.1.1.trans h1.1.1, h2.1.2.1.trans h1.1.2.1, h2.1.2.2.1.trans h1.1.2.2.1, h2.1.2.2.2.trans h1.1.2.2.2⟩, fun k h3 h4 h5 h6 => (h2.2 k h3 h4 h5 h6).trans (h1.2 k h3 h4 h5 h6)⟩
theorem XSame.trans' {a b c : eSt} (h1 : XSame a b) (h2 : XSame b c) : XSame a c := fun k h => (h2 k h).trans (h1 k h)
theorem YSame.up0 (τ : eSt) {j : Nat} (v : Int32) (h2 : j ≠ 2) (h4 : j ≠ 4) (h14 : j ≠ 14) (h17 : j ≠ 17) : YSame τ (e_up τ 0 j v) := ⟨⟨up_o _ _ _ (Ne.symm h2), up_o _ _ _ (Ne.symm h4), up_o _ _ _ (Ne.symm h14), up_o _ _ _ (Ne.symm h17)⟩, fun k h _ _ _ => up_n _ _ _ h⟩
theorem YSame.upk (τ : eSt) {c : Nat} (j : Nat) (v : Int32) (h : c = 3 ∨ c = 5 ∨ 13 ≤ c) : YSame τ (e_up τ c j v) := by
  have h0 : (0 : Nat) ≠ c := by omega
  exact ⟨⟨by rw [up_n _ _ _ h0], by rw [up_n _ _ _ h0], by rw [up_n _ _ _ h0], by rw [up_n _ _ _ h0]⟩, fun k _ h3 h5 hk => up_n _ _ _ (by omega)⟩
theorem YSame.fil (τ : eSt) {c : Nat} (v : Nat → Int32) (i : Nat) (h : c = 3 ∨ c = 5 ∨ 13 ≤ c) : YSame τ (filS τ c v i) := by
  have h0 : (0 : Nat) ≠ c := by omega
  exact ⟨⟨by rw [filS_n _ _ _ _ h0], by rw [filS_n _ _ _ _ h0], by rw [filS_n _ _ _ _ h0], by rw [filS_n _ _ _ _ h0]⟩, fun k _ h3 h5 hk => filS_n _ _ _ _ (by omega)⟩
theorem XSame.fil (σ : eSt) {c : Nat} (v : Nat → Int32) (i : Nat) (h : 17 ≤ c) : XSame σ (filS σ c v i) := fun k hk => filS_n _ _ _ _ (by omega)
theorem XSame.up (σ : eSt) {c : Nat} (j : Nat) (v : Int32) (h : 17 ≤ c) : XSame σ (e_up σ c j v) := fun k hk => up_n _ _ _ (by omega)
theorem RSX.same {σ σ' : eSt} {cnt : Nat} {sn : Nat → Nat → Nat} (H : RSX σ cnt sn) (h : XSame σ σ') : RSX σ' cnt sn := by
  refine ⟨by rw [h 3 (by omega)]; exact H.1, H.2.1, fun s hs => ?_⟩
  rw [h 4 (by omega), h 5 (by omega), h 6 (by omega), h 7 (by omega), h 8 (by omega)]
  exact H.2.2 s hs
theorem RPX.same {σ σ' : eSt} {sc : Nat → Nat} (H : RPX σ sc) (h : XSame σ σ') : RPX σ' sc := by
  unfold RPX; rw [h 9 (by omega)]; exact H
theorem RSY.same {τ τ' : eSt} {cnt : Nat} {sn : Nat → Nat → Nat} (H : RSY τ cnt sn) (h : YSame τ τ') : RSY τ' cnt sn := by
  refine ⟨by rw [h.1.2.1]; exact H.1, H.2.1, fun s hs => ?_⟩
  rw [h.2 2 (by omega) (by omega) (by omega) (by omega)]
  exact H.2.2 s hs
-- the reference: sureAt
theorem y_sureAt {τ : eSt} {cnt : Nat} {sn : Nat → Nat → Nat} (H : RSY τ cnt sn) {q hu h1 h2 ra wi h : Nat} (hq : q = 4 ∨ q = 5) (Q : HQ τ q hu h1 h2 ra wi) (hh : h < 10) : fX5_sureAt τ q (nI h) = some (nI (sureS (fun c => setN cnt sn hu h1 h2 ra wi c h)), filS τ 13 (fun c => nI (setN cnt sn hu h1 h2 ra wi c h)) 10) := by
  have hcn := H.2.1
  have hlt : ∀ c, setN cnt sn hu h1 h2 ra wi c h < 256 := fun c => setN_lt hcn sn hu h1 h2 ra wi c h
  unfold fX5_sureAt
  rw [lo_2_fil (N := 10) (c := 13) (v := fun c => nI (setN cnt sn hu h1 h2 ra wi c h)) (ex := fun σ' => lo_2 (bX5_sureAt_36 σ' q) 1000 0 0) (by omega)]
  · generalize hτ : filS τ 13 (fun c => nI (setN cnt sn hu h1 h2 ra wi c h)) 10 = τ'
    have hset : ∀ c, c < 10 → τ' 13 c = nI (setN cnt sn hu h1 h2 ra wi c h) := by
      intro c hc; rw [← hτ, filS_c, if_pos hc]
    show lo_2 (bX5_sureAt_36 τ' q) 1000 0 0 = _
    rw [lo_2_or (N := 10) (p := alone (fun c => setN cnt sn hu h1 h2 ra wi c h)) (ex := fun a => some (a, τ')) (by omega)]
    · rfl
    · intro k a c hc
      unfold bX5_sureAt_36
      rw [show (10 : Int32) = nI 10 from rfl, if_neg (by rw [e_le (by omega) (by omega)]; omega)]
      rw [lo_2_all (N := 10) (p := fun d => decide (c = d) || !decide (setN cnt sn hu h1 h2 ra wi c h = setN cnt sn hu h1 h2 ra wi d h)) (ex := fun r => k (if r = true then a ||| e_shl 1 (nI c) else a) (nI (c + 1))) (by omega)]
      · rfl
      · intro k2 r d hd
        unfold bX5_sureAt_49 fX5_sureAt_89 fX5_sureAt_85 fX5_sureAt_90
        have hlc := hlt c
        have hld := hlt d
        simp only [show (10 : Int32) = nI 10 from rfl, e_le (show 10 < 2 ^ 31 by omega) (show d < 2 ^ 31 by omega), e_eq (show c < 2 ^ 31 by omega) (show d < 2 ^ 31 by omega), e_inN (show c < 2 ^ 31 by omega), e_inN (show d < 2 ^ 31 by omega), hc, hd, if_true, nI_clamp (show c < 2 ^ 31 by omega), nI_clamp (show d < 2 ^ 31 by omega), hset c hc, hset d hd, e_eq (show setN cnt sn hu h1 h2 ra wi c h < 2 ^ 31 by omega) (show setN cnt sn hu h1 h2 ra wi d h < 2 ^ 31 by omega), eB_z, e_bnd_def, nI_1]
        rw [if_neg (by omega)]
        cases r
        · rfl
        · by_cases e : c = d
          · simp [e, eB]
          · by_cases e2 : setN cnt sn hu h1 h2 ra wi c h = setN cnt sn hu h1 h2 ra wi d h
            · simp [e, e2, eB]
            · simp [e, e2, eB]
      · intro k2 r
        unfold bX5_sureAt_49 fX5_sureAt_112
        simp only [show (10 : Int32) = nI 10 from rfl, e_le (show 10 < 2 ^ 31 by omega) (show 10 < 2 ^ 31 by omega), eB_z, e_bnd_def, nI_1]
        rw [if_pos (by omega)]
        cases r <;> simp
    · intro k a
      unfold bX5_sureAt_36
      rw [if_pos (by decide)]
  · intro k c hc
    have hs : YSame τ (filS τ 13 (fun c => nI (setN cnt sn hu h1 h2 ra wi c h)) c) := YSame.fil τ _ _ (by omega)
    have HQ' : HQ (filS τ 13 (fun c => nI (setN cnt sn hu h1 h2 ra wi c h)) c) q hu h1 h2 ra wi := by
      unfold HQ
      rw [filS_n _ _ _ _ (show q ≠ 13 by omega)]
      exact Q
    unfold bX5_sureAt_5
    rw [show (10 : Int32) = nI 10 from rfl, if_neg (by rw [e_le (by omega) (by omega)]; omega), y_heardAt (H.same hs) HQ' hc hh]
    simp only [Option.bind_some, e_inN (show c < 2 ^ 31 by omega), hc, if_true, e_bnd_def, nI_1, nI_clamp (show c < 2 ^ 31 by omega)]
  · intro k
    unfold bX5_sureAt_5
    rw [if_pos (by decide)]
-- the class: sureCells
theorem or_bit (g : Nat → Nat) (i : Nat) : ∀ m lo acc, (itN (fun d a => a ||| g d) m lo acc).testBit i = true ↔ acc.testBit i = true ∨ ∃ d, lo ≤ d ∧ d < lo + m ∧ (g d).testBit i = true := by
  intro m
  induction m with
  | zero =>
    intro lo acc
    constructor
    · intro h; exact Or.inl h
    · intro h
      rcases h with h | ⟨d, h1, h2, _⟩
      · exact h
      · omega
  | succ m ih =>
    intro lo acc
    rw [itN_s, ih, Nat.testBit_or, Bool.or_eq_true]
    constructor
    · intro h
      rcases h with (h | h) | ⟨d, h1, h2, h3⟩
      · exact Or.inl h
      · exact Or.inr ⟨lo, Nat.le_refl _, by omega, h⟩
      · exact Or.inr ⟨d, by omega, by omega, h3⟩
    · intro h
      rcases h with h | ⟨d, h1, h2, h3⟩
      · exact Or.inl (Or.inl h)
      · by_cases e : d = lo
        · subst e; exact Or.inl (Or.inr h3)
        · exact Or.inr ⟨d, by omega, by omega, h3⟩
theorem or_lt (g : Nat → Nat) (hg : ∀ d, d < 10 → g d < 1024) : ∀ m lo acc, acc < 1024 → lo + m ≤ 10 → itN (fun d a => a ||| g d) m lo acc < 1024 := by
  intro m
  induction m with
  | zero => intro lo acc h _; exact h
  | succ m ih => intro lo acc h h2; exact ih _ _ (Nat.or_lt_two_pow (n := 10) h (hg lo (by omega))) (by omega)
/-- the pairs of like cells from cell c on -/
def pairG (E : Nat → Nat → Bool) (c d : Nat) : Nat := if E c d = true then (2 ^ c ||| 2 ^ d) else 0
def alikeN (E : Nat → Nat → Bool) : Nat → Nat
  | 0 => 0
  | c + 1 => itN (fun d a => a ||| pairG E c d) (9 - c) (c + 1) (alikeN E c)
theorem alikeN_lt (E : Nat → Nat → Bool) : ∀ n, n ≤ 10 → alikeN E n < 1024 := by
  intro n
  induction n with
  | zero => intro _; exact (by decide : (0 : Nat) < 1024)
  | succ c ih =>
    intro h
    refine or_lt _ (fun d hd => ?_) _ _ _ (ih (by omega)) (by omega)
    unfold pairG
    split
    · exact Nat.or_lt_two_pow (n := 10) (Nat.pow_lt_pow_right (by decide) (by omega)) (Nat.pow_lt_pow_right (by decide) (by omega))
    · decide
theorem alikeN_bit (E : Nat → Nat → Bool) (i : Nat) : ∀ n, n ≤ 10 → ((alikeN E n).testBit i = true ↔ ∃ c d, c < n ∧ c < d ∧ d < 10 ∧ E c d = true ∧ (i = c ∨ i = d)) := by
  intro n
  induction n with
  | zero =>
    intro _
    constructor
    · intro h; simp [alikeN] at h
    · intro ⟨c, d, h, _⟩; omega
  | succ n ih =>
    intro hn
    show (itN (fun d a => a ||| pairG E n d) (9 - n) (n + 1) (alikeN E n)).testBit i = true ↔ _
    rw [or_bit, ih (by omega)]
    have hp : ∀ d, (pairG E n d).testBit i = true ↔ E n d = true ∧ (i = n ∨ i = d) := by
      intro d
      unfold pairG
      cases E n d
      · simp
      · rw [if_pos rfl, Nat.testBit_or, Nat.testBit_two_pow, Nat.testBit_two_pow]
        simp only [Bool.or_eq_true, decide_eq_true_eq, true_and]
        constructor
        · intro h; omega
        · intro h; omega
    constructor
    · intro h
      rcases h with ⟨c, d, h1, h2, h3, h4, h5⟩ | ⟨d, h1, h2, h3⟩
      · exact ⟨c, d, by omega, h2, h3, h4, h5⟩
      · have := (hp d).mp h3
        exact ⟨n, d, by omega, by omega, by omega, this.1, this.2⟩
    · intro ⟨c, d, h1, h2, h3, h4, h5⟩
      by_cases e : c = n
      · subst e; exact Or.inr ⟨d, by omega, by omega, (hp d).mpr ⟨h4, h5⟩⟩
      · exact Or.inl ⟨c, d, by omega, h2, h3, h4, h5⟩
theorem alike_dec : ∀ a, a < 1024 → 1023 &&& ((nI a) ^^^ (-1)) = nI (1023 ^^^ a) := by decide +kernel
theorem b1023 : ∀ i, (1023 : Nat).testBit i = decide (i < 10) := by
  intro i
  have := Nat.testBit_two_pow_sub_one 10 i
  exact this
theorem alike_sure {f : Nat → Nat} : 1023 ^^^ alikeN (fun c d => decide (f c = f d)) 10 = sureS f := by
  apply Nat.eq_of_testBit_eq
  intro i
  rw [Nat.testBit_xor, b1023, sureS_bit]
  by_cases hi : i < 10
  · have key : (alikeN (fun c d => decide (f c = f d)) 10).testBit i = !alone f i := by
      rw [Bool.eq_iff_iff, alikeN_bit _ _ 10 (by omega)]
      rw [Bool.not_eq_true']
      constructor
      · intro ⟨c, d, h1, h2, h3, h4, h5⟩
        have h4 : f c = f d := by simpa using h4
        cases ha : alone f i with
        | false => rfl
        | true =>
          exfalso
          unfold alone at ha
          rw [allN_iff] at ha
          rcases h5 with h5 | h5
          · subst h5
            have := ha d h3
            simp [h4] at this
            omega
          · subst h5
            have := ha c h1
            simp [h4] at this
            omega
      · intro ha
        have : ¬ (∀ d, d < 10 → (decide (i = d) || !decide (f i = f d)) = true) := by
          intro q
          have : alone f i = true := by unfold alone; rw [allN_iff]; exact q
          rw [this] at ha; cases ha
        obtain ⟨d, hd⟩ := Classical.not_forall.mp this
        have hd10 : d < 10 := by
          rcases Nat.lt_or_ge d 10 with h | h
          · exact h
          · exact absurd (fun q => absurd q (by omega)) hd
        have hd2 : ¬ (decide (i = d) || !decide (f i = f d)) = true := fun q => hd (fun _ => q)
        simp only [Bool.or_eq_true, decide_eq_true_eq, Bool.not_eq_true', decide_eq_false_iff_not, not_or, Classical.not_not] at hd2
        rcases Nat.lt_or_ge i d with h | h
        · exact ⟨i, d, hi, h, hd10, by simp [hd2.2], Or.inl rfl⟩
        · exact ⟨d, i, hd10, by omega, hi, by simp [hd2.2], Or.inr rfl⟩
    rw [key]
    simp [hi]
  · have : (alikeN (fun c d => decide (f c = f d)) 10).testBit i = false := Nat.testBit_lt_two_pow (Nat.lt_of_lt_of_le (alikeN_lt _ 10 (by omega)) (show 2 ^ 10 ≤ 2 ^ i from Nat.pow_le_pow_right (by decide) (by omega)))
    rw [this]
    simp [hi]
theorem xor_and (a b M : Nat) : ((a ^^^ b) &&& M = 0) = (a &&& M = b &&& M) := by
  apply propext
  constructor
  · intro h
    apply Nat.eq_of_testBit_eq
    intro i
    have h1 : ((a ^^^ b) &&& M).testBit i = false := by rw [h]; simp
    rw [Nat.testBit_and, Nat.testBit_xor] at h1
    rw [Nat.testBit_and, Nat.testBit_and]
    revert h1
    cases a.testBit i <;> cases b.testBit i <;> cases M.testBit i <;> simp
  · intro h
    apply Nat.eq_of_testBit_eq
    intro i
    have h1 : (a &&& M).testBit i = (b &&& M).testBit i := by rw [h]
    rw [Nat.testBit_and, Nat.testBit_and] at h1
    rw [Nat.testBit_and, Nat.testBit_xor]
    revert h1
    cases a.testBit i <;> cases b.testBit i <;> cases M.testBit i <;> simp
theorem x_sureCells {σ : eSt} {F : Nat → Nat} {M : Nat} (hF : ∀ c, c < 10 → σ 18 c = nI (F c)) (hl : ∀ c, c < 10 → F c < 256) (hM : M < 256) : fX4_sureCells σ (nI M) = some (nI (sureS (fun c => F c &&& M))) := by
  have hE : ∀ c d, c < 10 → d < 10 → ((((σ 18 c) ^^^ (σ 18 d)) &&& nI M) = 0) = (F c &&& M = F d &&& M) := by
    intro c d hc hd
    rw [hF c hc, hF d hd, nx_xor, nx_and, show (0 : Int32) = nI 0 from rfl, e_eq, xor_and]
    · have : (F c ^^^ F d) &&& M ≤ M := Nat.and_le_right
      omega
    · omega
  have inner : ∀ (k4 : Int32 → Int32 → Option Int32) (c : Nat), c < 10 → ∀ (m d acc : Nat), d + m = 10 → lo_2 (bX4_sureCells_15 k4 σ (nI M) (nI c)) 1000 (nI acc) (nI d) = k4 (nI (itN (fun d a => a ||| pairG (fun c d => decide (F c &&& M = F d &&& M)) c d) m d acc)) (nI (c + 1)) := by
    intro k4 c hc m d acc h1
    refine (lo_2_ac (N := 10) nI (fun _ _ => True) (fun d a => a ||| pairG (fun c d => decide (F c &&& M = F d &&& M)) c d) (fun a => k4 (nI a) (nI (c + 1))) (fun k d a hd _ => ⟨?_, trivial⟩) (fun k a _ => ?_) m 1000 d acc h1 (by omega) trivial).1
    · unfold bX4_sureCells_15 fX4_sureCells_52
      simp only [show (10 : Int32) = nI 10 from rfl, e_le (show 10 < 2 ^ 31 by omega) (show d < 2 ^ 31 by omega), e_inN (show c < 2 ^ 31 by omega), e_inN (show d < 2 ^ 31 by omega), hc, hd, if_true, nI_clamp (show c < 2 ^ 31 by omega), nI_clamp (show d < 2 ^ 31 by omega), hE c d hc hd, e_sh1 c (by omega), e_sh1 d (by omega), nx_or, e_bnd_def, nI_1]
      rw [if_neg (by omega)]
      by_cases e : F c &&& M = F d &&& M
      · rw [if_pos e]; simp [pairG, e]
      · rw [if_neg e]; simp [pairG, e]
    · unfold bX4_sureCells_15
      rw [if_pos (by decide), e_bnd_def, nI_1]
  have outer := (lo_2_ac (b := bX4_sureCells_4 σ (nI M)) (N := 10) (fun c : Nat => nI (alikeN (fun c d => decide (F c &&& M = F d &&& M)) c)) (fun i c => i = c) (fun i c => c + 1) (fun c => some (1023 &&& ((nI (alikeN (fun c d => decide (F c &&& M = F d &&& M)) c)) ^^^ (-1)))) (fun k i c hi hc => by
      subst hc
      refine ⟨?_, rfl⟩
      unfold bX4_sureCells_4
      rw [show (10 : Int32) = nI 10 from rfl, if_neg (by rw [e_le (by omega) (by omega)]; omega), e_bnd_def, nI_1, inner _ i (by omega) (9 - i) (i + 1) _ (by omega)]
      rfl) (fun k c hc => by
      subst hc
      unfold bX4_sureCells_4
      rw [if_pos (by decide)]) 10 1000 0 0 rfl (by omega) rfl)
  have e10 : itN (fun _ c : Nat => c + 1) 10 0 0 = 10 := rfl
  rw [e10] at outer
  have := outer.1
  rw [alike_dec _ (alikeN_lt _ 10 (by omega)), alike_sure] at this
  exact this
-- how many bits
def pcN (n : Nat) : Nat := n % 2 + n / 2 % 2 + n / 4 % 2 + n / 8 % 2 + n / 16 % 2 + n / 32 % 2 + n / 64 % 2 + n / 128 % 2 + n / 256 % 2 + n / 512 % 2
theorem pcN_le (n : Nat) : pcN n ≤ 10 := by unfold pcN; omega
theorem bc_x : ∀ n, n < 1024 → fJ6_bitCount_0f7a4 (nI n) = some (nI (pcN n)) := by decide +kernel
theorem bits_y {n : Nat} (hn : n < 1024) : fX5_bits (nI n) = some (nI (pcN n)) := by
  have key : ∀ n, n < 1024 → ∀ i, i < 10 → (e_shr (nI n) (nI i)) &&& 1 = nI (n / 2 ^ i % 2) := by decide +kernel
  have := (lo_2_ac (b := bX5_bits_4 (nI n)) (N := 10) nI (fun _ _ => True) (fun i a => a + n / 2 ^ i % 2) (fun a => some (nI a)) (fun k i a hi _ => ⟨by
      unfold bX5_bits_4
      rw [show (10 : Int32) = nI 10 from rfl, if_neg (by rw [e_le (by omega) (by omega)]; omega), key n hn i hi, nI_add, e_bnd_def, e_bnd_def, nI_1], trivial⟩) (fun k a _ => by unfold bX5_bits_4; rw [if_pos (by decide)]) 10 1000 0 0 rfl (by omega) trivial).1
  refine this.trans ?_
  simp [itN, pcN]

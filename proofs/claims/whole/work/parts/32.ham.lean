/-! math 13: hammers -/
def fstF (p : Nat → Bool) : Nat → Nat → Option Nat
  | 0, _ => none
  | m + 1, i => if p i = true then some i else fstF p m (i + 1)
theorem fstF_0 (p : Nat → Bool) (i : Nat) : fstF p 0 i = none := rfl
theorem fstF_t {p : Nat → Bool} {m i : Nat} (h : p i = true) : fstF p (m + 1) i = some i := if_pos h
theorem fstF_f {p : Nat → Bool} {m i : Nat} (h : p i = false) : fstF p (m + 1) i = fstF p m (i + 1) := if_neg (by rw [h]; exact fun q => by cases q)
theorem fstF_lt {p : Nat → Bool} : ∀ m i r, fstF p m i = some r → r < i + m := by
  intro m
  induction m with
  | zero => intro i r h; cases h
  | succ m ih =>
    intro i r h
    by_cases e : p i = true
    · rw [fstF_t e] at h
      have := Option.some.inj h
      omega
    · rw [fstF_f (b_nt e)] at h
      have := ih (i + 1) r h
      omega
theorem fstF_add {p : Nat → Bool} : ∀ m1 m2 i, fstF p (m1 + m2) i = match fstF p m1 i with | some r => some r | none => fstF p m2 (i + m1) := by
  intro m1
  induction m1 with
  | zero => intro m2 i; rw [Nat.zero_add, fstF_0, Nat.add_zero]
  | succ m ih =>
    intro m2 i
    rw [show m + 1 + m2 = (m + m2) + 1 by omega]
    by_cases e : p i = true
    · rw [fstF_t e, fstF_t e]
    · rw [fstF_f (b_nt e), fstF_f (b_nt e), ih m2 (i + 1), show i + 1 + m = i + (m + 1) by omega]
theorem fstF_none {p : Nat → Bool} : ∀ m i, (∀ j, i ≤ j → j < i + m → p j = false) → fstF p m i = none := by
  intro m
  induction m with
  | zero => intro i _; rfl
  | succ m ih =>
    intro i h
    rw [fstF_f (h i (by omega) (by omega))]
    exact ih (i + 1) (fun j h1 h2 => h j (by omega) (by omega))
def p1F (V : Nat → Nat → Nat) (n a : Nat) : Bool := decide (n ≤ V a 10)
def p2F (V : Nat → Nat → Nat) (n r : Nat) : Bool := decide (r / 10 < r % 10) && decide (n ≤ V (r / 10) (r % 10))
theorem p2F_e {V : Nat → Nat → Nat} {n a b : Nat} (hb : b < 10) : p2F V n (10 * a + b) = (decide (a < b) && decide (n ≤ V a b)) := by
  unfold p2F
  rw [show (10 * a + b) / 10 = a by omega, show (10 * a + b) % 10 = b by omega]
def XS (σ ρ : eSt) : Prop := XSame σ ρ ∧ ρ 17 = σ 17
theorem s56 {K k : Int32 → eSt → Option (Int32 × eSt)} {ρ ρ1 : eSt} {n a b v : Nat} (hn : n ≤ 10) (hb : b < 10) (hv : v ≤ 10) (hs : fX4_sureCountWith ρ (nI a) (nI b) = some (nI v, ρ1)) : bX4_fewestHammers_56 K (nI n) (nI a) k (nI b) ρ = if n ≤ v then some (nI (200 + (10 * a + b)), ρ1) else k (nI (b + 1)) ρ1 := by
  unfold bX4_fewestHammers_56
  rw [show (10 : Int32) = nI 10 from rfl, if_neg (by rw [e_le (by omega) (by omega)]; omega), hs]
  simp only [Option.bind_some]
  by_cases c : n ≤ v
  · rw [if_neg (by rw [e_lt (by omega) (by omega)]; omega), if_pos c, pk_mul, show (200 : Int32) = nI 200 from rfl, nI_add, nI_add, Nat.add_assoc]
  · rw [if_pos (by rw [e_lt (by omega) (by omega)]; omega), if_neg c, e_bnd_def, nI_1]
theorem f56 {K k : Int32 → eSt → Option (Int32 × eSt)} {ρ : eSt} {n a : Nat} : bX4_fewestHammers_56 K (nI n) (nI a) k (nI 10) ρ = K (nI (a + 1)) ρ := by
  unfold bX4_fewestHammers_56
  rw [if_pos (by decide), e_bnd_def, nI_1]
theorem x_few2i {σ : eSt} {V : Nat → Nat → Nat} {n : Nat} (hn : n ≤ 10) (hV : ∀ a b, V a b ≤ 10) (hst : ∀ ρ, XS σ ρ → ∀ a b, a ≤ 10 → b ≤ 10 → ∃ ρ', XS σ ρ' ∧ fX4_sureCountWith ρ (nI a) (nI b) = some (nI (V a b), ρ')) {a : Nat} (ha : a < 10) : ∀ m b, b + m = 10 → a < b → ∀ q, m < q → ∀ ρ, XS σ ρ → ∃ ρ', XS σ ρ' ∧ ∀ K, lo_2 (bX4_fewestHammers_56 K (nI n) (nI a)) q (nI b) ρ = match fstF (p2F V n) m (10 * a + b) with | some r => some (nI (200 + r), ρ') | none => K (nI (a + 1)) ρ' := by
  intro m
  induction m with
  | zero =>
    intro b hb hab q hq ρ hρ
    obtain ⟨q, rfl⟩ : ∃ r, q = r + 1 := ⟨q - 1, by omega⟩
    have : b = 10 := by omega
    subst this
    exact ⟨ρ, hρ, fun K => by rw [lo_2_step, f56, fstF_0]⟩
  | succ m ih =>
    intro b hb hab q hq ρ hρ
    obtain ⟨q, rfl⟩ : ∃ r, q = r + 1 := ⟨q - 1, by omega⟩
    obtain ⟨ρ1, h1, h2⟩ := hst ρ hρ a b (by omega) (by omega)
    have pe : p2F V n (10 * a + b) = decide (n ≤ V a b) := by rw [p2F_e (by omega), decide_eq_true hab]; rfl
    by_cases c : n ≤ V a b
    · refine ⟨ρ1, h1, fun K => ?_⟩
      rw [lo_2_step, s56 hn (by omega) (hV a b) h2, if_pos c, fstF_t (by rw [pe]; exact decide_eq_true c)]
    · obtain ⟨ρ', i1, i2⟩ := ih (b + 1) (by omega) (by omega) q (by omega) ρ1 h1
      refine ⟨ρ', i1, fun K => ?_⟩
      rw [lo_2_step, s56 hn (by omega) (hV a b) h2, if_neg c, fstF_f (by rw [pe]; exact decide_eq_false c), i2 K, Nat.add_assoc]
theorem x_few2 {σ : eSt} {V : Nat → Nat → Nat} {n : Nat} (hn : n ≤ 10) (hV : ∀ a b, V a b ≤ 10) (hst : ∀ ρ, XS σ ρ → ∀ a b, a ≤ 10 → b ≤ 10 → ∃ ρ', XS σ ρ' ∧ fX4_sureCountWith ρ (nI a) (nI b) = some (nI (V a b), ρ')) : ∀ m a, a + m = 10 → ∀ q, m < q → ∀ ρ, XS σ ρ → ∃ ρ', XS σ ρ' ∧ lo_2 (bX4_fewestHammers_46 (nI n)) q (nI a) ρ = match fstF (p2F V n) (10 * m) (10 * a) with | some r => some (nI (200 + r), ρ') | none => some (-9, ρ') := by
  have op : ∀ (k : Int32 → eSt → Option (Int32 × eSt)) (a : Nat) (ρ : eSt), a < 10 → bX4_fewestHammers_46 (nI n) k (nI a) ρ = lo_2 (bX4_fewestHammers_56 k (nI n) (nI a)) 1000 (nI (a + 1)) ρ := by
    intro k a ρ ha
    unfold bX4_fewestHammers_46
    rw [show (10 : Int32) = nI 10 from rfl, if_neg (by rw [e_le (by omega) (by omega)]; omega), e_bnd_def, nI_1]
  have fin : ∀ (k : Int32 → eSt → Option (Int32 × eSt)) (ρ : eSt), bX4_fewestHammers_46 (nI n) k (nI 10) ρ = some (-9, ρ) := by
    intro k ρ
    unfold bX4_fewestHammers_46
    rw [if_pos (by decide)]
  intro m
  induction m with
  | zero =>
    intro a ha q hq ρ hρ
    obtain ⟨q, rfl⟩ : ∃ r, q = r + 1 := ⟨q - 1, by omega⟩
    have : a = 10 := by omega
    subst this
    exact ⟨ρ, hρ, by rw [lo_2_step, fin, Nat.mul_zero, fstF_0]⟩
  | succ m ih =>
    intro a ha q hq ρ hρ
    obtain ⟨q, rfl⟩ : ∃ r, q = r + 1 := ⟨q - 1, by omega⟩
    obtain ⟨ρ1, h1, h2⟩ := x_few2i hn hV hst (a := a) (by omega) (9 - a) (a + 1) (by omega) (by omega) 1000 (by omega) ρ hρ
    have nn : fstF (p2F V n) (a + 1) (10 * a) = none := fstF_none _ _ (fun j j1 j2 => by
      have : p2F V n (10 * a + (j - 10 * a)) = false := by
        rw [p2F_e (by omega), decide_eq_false (by omega)]; rfl
      rw [show j = 10 * a + (j - 10 * a) by omega]; exact this)
    have sp : fstF (p2F V n) (10 * (m + 1)) (10 * a) = match fstF (p2F V n) (9 - a) (10 * a + (a + 1)) with | some r => some r | none => fstF (p2F V n) (10 * m) (10 * (a + 1)) := by
      rw [show 10 * (m + 1) = (a + 1) + ((9 - a) + 10 * m) by omega, fstF_add, nn, fstF_add]
      show (match fstF (p2F V n) (9 - a) (10 * a + (a + 1)) with | some r => some r | none => fstF (p2F V n) (10 * m) (10 * a + (a + 1) + (9 - a))) = _
      rw [show 10 * a + (a + 1) + (9 - a) = 10 * (a + 1) by omega]
    rw [lo_2_step, op _ a ρ (by omega), h2, sp]
    cases fstF (p2F V n) (9 - a) (10 * a + (a + 1)) with
    | some r => exact ⟨ρ1, h1, rfl⟩
    | none => exact ih (a + 1) (by omega) q (by omega) ρ1 h1
theorem x_few1 {σ : eSt} {V : Nat → Nat → Nat} {n : Nat} (hn : n ≤ 10) (hV : ∀ a b, V a b ≤ 10) (hst : ∀ ρ, XS σ ρ → ∀ a b, a ≤ 10 → b ≤ 10 → ∃ ρ', XS σ ρ' ∧ fX4_sureCountWith ρ (nI a) (nI b) = some (nI (V a b), ρ')) : ∀ m a, a + m = 10 → ∀ q, m < q → ∀ ρ, XS σ ρ → ∃ ρ', XS σ ρ' ∧ lo_2 (bX4_fewestHammers_16 (nI n)) q (nI a) ρ = match fstF (p1F V n) m a with | some r => some (nI (100 + r), ρ') | none => lo_2 (bX4_fewestHammers_46 (nI n)) 1000 0 ρ' := by
  have fin : ∀ (k : Int32 → eSt → Option (Int32 × eSt)) (ρ : eSt), bX4_fewestHammers_16 (nI n) k (nI 10) ρ = lo_2 (bX4_fewestHammers_46 (nI n)) 1000 0 ρ := by
    intro k ρ
    unfold bX4_fewestHammers_16
    rw [if_pos (by decide)]
  have step : ∀ (k : Int32 → eSt → Option (Int32 × eSt)) (a v : Nat) (ρ ρ1 : eSt), a < 10 → v ≤ 10 → fX4_sureCountWith ρ (nI a) (nI 10) = some (nI v, ρ1) → bX4_fewestHammers_16 (nI n) k (nI a) ρ = if n ≤ v then some (nI (100 + a), ρ1) else k (nI (a + 1)) ρ1 := by
    intro k a v ρ ρ1 ha hv hs
    have hs : fX4_sureCountWith ρ (nI a) 10 = some (nI v, ρ1) := hs
    unfold bX4_fewestHammers_16
    rw [hs, if_neg (show ¬ (10 : Int32) ≤ nI a by rw [show (10 : Int32) = nI 10 from rfl, e_le (by omega) (by omega)]; omega)]
    simp only [Option.bind_some]
    by_cases c : n ≤ v
    · rw [if_neg (by rw [e_lt (by omega) (by omega)]; omega), if_pos c, show (100 : Int32) = nI 100 from rfl, nI_add]
    · rw [if_pos (by rw [e_lt (by omega) (by omega)]; omega), if_neg c, e_bnd_def, nI_1]
  intro m
  induction m with
  | zero =>
    intro a ha q hq ρ hρ
    obtain ⟨q, rfl⟩ : ∃ r, q = r + 1 := ⟨q - 1, by omega⟩
    have : a = 10 := by omega
    subst this
    exact ⟨ρ, hρ, by rw [lo_2_step, fin, fstF_0]⟩
  | succ m ih =>
    intro a ha q hq ρ hρ
    obtain ⟨q, rfl⟩ : ∃ r, q = r + 1 := ⟨q - 1, by omega⟩
    obtain ⟨ρ1, h1, h2⟩ := hst ρ hρ a 10 (by omega) (by omega)
    rw [lo_2_step, step _ a (V a 10) ρ ρ1 (by omega) (hV a 10) h2]
    by_cases c : n ≤ V a 10
    · exact ⟨ρ1, h1, by rw [if_pos c, fstF_t (decide_eq_true c)]⟩
    · rw [if_neg c, fstF_f (show p1F V n a = false from decide_eq_false c)]
      exact ih (a + 1) (by omega) q (by omega) ρ1 h1
/-- how many hammers, and which -/
def hamR (V : Nat → Nat → Nat) (n : Nat) : Option (Nat × Nat) :=
  if n ≤ V 10 10 then some (0, 0) else match fstF (p1F V n) 10 0 with
    | some a => some (1, a)
    | none => match fstF (p2F V n) 100 0 with
      | some r => some (2, r)
      | none => none
theorem hamR_lt {V : Nat → Nat → Nat} {n c r : Nat} (h : hamR V n = some (c, r)) : c < 3 ∧ r < 100 := by
  unfold hamR at h
  by_cases q : n ≤ V 10 10
  · rw [if_pos q] at h; cases h; omega
  · rw [if_neg q] at h
    cases h1 : fstF (p1F V n) 10 0 with
    | some a => rw [h1] at h; cases h; have := fstF_lt _ _ _ h1; omega
    | none =>
      rw [h1] at h
      cases h2 : fstF (p2F V n) 100 0 with
      | some r' => rw [h2] at h; cases h; have := fstF_lt _ _ _ h2; omega
      | none => rw [h2] at h; cases h
theorem x_few {σ : eSt} {V : Nat → Nat → Nat} {n : Nat} (hn : n ≤ 10) (hV : ∀ a b, V a b ≤ 10) (hst : ∀ ρ, XS σ ρ → ∀ a b, a ≤ 10 → b ≤ 10 → ∃ ρ', XS σ ρ' ∧ fX4_sureCountWith ρ (nI a) (nI b) = some (nI (V a b), ρ')) : ∃ ρ', XS σ ρ' ∧ fX4_fewestHammers σ (nI n) = some (match hamR V n with | some p => nI (100 * p.1 + p.2) | none => -9, ρ') := by
  obtain ⟨ρ1, h1, h2⟩ := hst σ ⟨XSame.rfl' σ, rfl⟩ 10 10 (by omega) (by omega)
  have h2 : fX4_sureCountWith σ 10 10 = some (nI (V 10 10), ρ1) := h2
  have hv := hV 10 10
  unfold fX4_fewestHammers hamR
  rw [h2]
  simp only [Option.bind_some]
  by_cases c : n ≤ V 10 10
  · rw [if_neg (by rw [e_lt (by omega) (by omega)]; omega), if_pos c]
    exact ⟨ρ1, h1, rfl⟩
  · rw [if_pos (by rw [e_lt (by omega) (by omega)]; omega), if_neg c]
    obtain ⟨ρ2, i1, i2⟩ := x_few1 hn hV hst 10 0 (by omega) 1000 (by omega) ρ1 h1
    have i2 : lo_2 (bX4_fewestHammers_16 (nI n)) 1000 0 ρ1 = _ := i2
    rw [i2]
    cases fstF (p1F V n) 10 0 with
    | some a => exact ⟨ρ2, i1, rfl⟩
    | none =>
      obtain ⟨ρ3, j1, j2⟩ := x_few2 hn hV hst 10 0 (by omega) 1000 (by omega) ρ2 i1
      have j2 : lo_2 (bX4_fewestHammers_46 (nI n)) 1000 0 ρ2 = match fstF (p2F V n) 100 0 with | some r => some (nI (200 + r), ρ3) | none => some (-9, ρ3) := j2
      refine ⟨ρ3, j1, ?_⟩
      show lo_2 (bX4_fewestHammers_46 (nI n)) 1000 0 ρ2 = _
      rw [j2]
      cases fstF (p2F V n) 100 0 with
      | some r => rfl
      | none => rfl

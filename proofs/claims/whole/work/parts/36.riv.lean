/-! math 17: rivals -/
theorem itN_add {B : Type} (g : Nat → B → B) : ∀ (m1 m2 i : Nat) (x : B), itN g (m1 + m2) i x = itN g m2 (i + m1) (itN g m1 i x) := by
  intro m1
  induction m1 with
  | zero => intro m2 i x; rw [Nat.zero_add, itN_0, Nat.add_zero]
  | succ m ih =>
    intro m2 i x
    rw [show m + 1 + m2 = (m + m2) + 1 by omega, itN_s, itN_s, ih, show i + 1 + m = i + (m + 1) by omega]
theorem itN_shift {B : Type} (g : Nat → B → B) (c : Nat) : ∀ (m i : Nat) (x : B), itN (fun b => g (c + b)) m i x = itN g m (c + i) x := by
  intro m
  induction m with
  | zero => intro i x; rw [itN_0, itN_0]
  | succ m ih => intro i x; rw [itN_s, itN_s, ih, Nat.add_assoc]
theorem itN_flat {B : Type} (g : Nat → B → B) (w : Nat) : ∀ (m : Nat) (x : B), itN (fun a => itN (fun b => g (w * a + b)) w 0) m 0 x = itN g (w * m) 0 x := by
  intro m
  induction m with
  | zero => intro x; rw [itN_0, Nat.mul_zero, itN_0]
  | succ m ih =>
    intro x
    rw [itN_last, ih, Nat.mul_succ, itN_add, Nat.zero_add, itN_shift, Nat.zero_add, Nat.add_zero]
def gR (R : Nat → Nat → Bool) (row : Nat) (x : Int32 × Int32) : Int32 × Int32 := if R (row / 11) (row % 11) = true then (x.1 + 1, if x.1 = 0 then nI row else x.2) else x
theorem x_rIn {σ : eSt} {a2 : Int32} {R : Nat → Nat → Bool} (RX : ∀ a b, a < 11 → b < 11 → fX4_isAtRest σ (nI a) (nI b) = some (eB (R a b))) (K : Int32 → Int32 → Int32 → Option (Int32 × eSt)) {a : Nat} (ha : a < 11) (x : Int32 × Int32) : lo_3 (bX4_rivals_45 K σ a2 (nI a)) 1000 x.1 x.2 0 = K (itN (fun b => gR R (11 * a + b)) 11 0 x).1 (itN (fun b => gR R (11 * a + b)) 11 0 x).2 (nI (a + 1)) := by
  refine (lo_3_aac (b := bX4_rivals_45 K σ a2 (nI a)) (N := 11) (fun x : Int32 × Int32 => x.1) (fun x => x.2) (fun _ _ => True) (fun b => gR R (11 * a + b)) (fun x => K x.1 x.2 (nI (a + 1))) (fun k b x hb _ => ⟨?_, trivial⟩) (fun k x _ => ?_) 11 1000 0 x (by omega) (by omega) trivial).1
  · have r85 : ∀ u v : Int32, fX4_rivals_85 K k σ a2 u v (nI a) (nI b) = k u v (nI (b + 1)) := fun u v => by
      unfold fX4_rivals_85
      rw [e_bnd_def, nI_1]
    have r80 : ∀ u v : Int32, fX4_rivals_80 K k σ a2 u (nI a) (nI b) v = k (u + 1) v (nI (b + 1)) := fun u v => by
      unfold fX4_rivals_80
      rw [e_bnd_def, r85]
    unfold bX4_rivals_45 gR
    rw [show (11 : Int32) = nI 11 from rfl, if_neg (by rw [e_le (by omega) (by omega)]; omega), RX a b ha hb, show (11 * a + b) / 11 = a by omega, show (11 * a + b) % 11 = b by omega, pk_mul, nI_add, Option.bind_some, r80, r80, r85]
    cases R a b with
    | false => rw [if_pos (show eB false = 0 from rfl)]; rfl
    | true =>
      rw [if_neg (show ¬ eB true = 0 by decide), if_pos rfl]
      by_cases e : x.1 = 0
      · rw [if_pos e, if_pos e]
      · rw [if_neg e, if_neg e]
  · unfold bX4_rivals_45
    rw [if_pos (by decide), e_bnd_def, nI_1]
theorem x_rOut {σ : eSt} {a2 : Int32} {R : Nat → Nat → Bool} (RX : ∀ a b, a < 11 → b < 11 → fX4_isAtRest σ (nI a) (nI b) = some (eB (R a b))) : lo_3 (bX4_rivals_35 σ a2) 1000 0 (-9) 0 = some (if a2 = 0 then (itN (gR R) 121 0 (0, -9)).1 else (itN (gR R) 121 0 (0, -9)).2, σ) := by
  rw [show 121 = 11 * 11 from rfl, ← itN_flat (gR R) 11 11]
  refine (lo_3_aac (b := bX4_rivals_35 σ a2) (N := 11) (fun x : Int32 × Int32 => x.1) (fun x => x.2) (fun _ _ => True) (fun a => itN (fun b => gR R (11 * a + b)) 11 0) (fun x => some (if a2 = 0 then x.1 else x.2, σ)) (fun k a x ha _ => ⟨?_, trivial⟩) (fun k x _ => ?_) 11 1000 0 (0, -9) (by omega) (by omega) trivial).1
  · unfold bX4_rivals_35
    rw [show (11 : Int32) = nI 11 from rfl, if_neg (by rw [e_le (by omega) (by omega)]; omega), x_rIn RX k ha x]
  · unfold bX4_rivals_35
    rw [if_pos (by decide)]
    by_cases e : a2 = 0
    · rw [if_pos e, if_pos e]
    · rw [if_neg e, if_neg e]
theorem y_rOut {τ : eSt} {a2 : Int32} {R : Nat → Nat → Bool} (RY : ∀ a b, a < 11 → b < 11 → fX5_doRest τ (nI a) (nI b) = some (eB (R a b))) : lo_3 (bX5_rivals_99 τ a2) 1000 0 (-9) 0 = some (if a2 = 0 then (itN (gR R) 121 0 (0, -9)).1 else (itN (gR R) 121 0 (0, -9)).2, τ) := by
  refine (lo_3_aac (b := bX5_rivals_99 τ a2) (N := 121) (fun x : Int32 × Int32 => x.1) (fun x => x.2) (fun _ _ => True) (gR R) (fun x => some (if a2 = 0 then x.1 else x.2, τ)) (fun k r x hr _ => ⟨?_, trivial⟩) (fun k x _ => ?_) 121 1000 0 (0, -9) (by omega) (by omega) trivial).1
  · have r139 : ∀ u v : Int32, fX5_rivals_139 k τ a2 u v (nI r) = k u v (nI (r + 1)) := fun u v => by
      unfold fX5_rivals_139
      rw [e_bnd_def, nI_1]
    have r134 : ∀ u v : Int32, fX5_rivals_134 k τ a2 u (nI r) v = k (u + 1) v (nI (r + 1)) := fun u v => by
      unfold fX5_rivals_134
      rw [e_bnd_def, r139]
    unfold bX5_rivals_99 gR
    rw [show (121 : Int32) = nI 121 from rfl, if_neg (by rw [e_le (by omega) (by omega)]; omega), show nI r / 11 = nI (r / 11) from pk_div (by omega) (by decide) (by decide), show e_rem (nI r) 11 = nI (r % 11) from pk_rem (by omega) (by decide) (by decide), RY _ _ (by omega) (by omega), Option.bind_some, r134, r134, r139]
    cases R (r / 11) (r % 11) with
    | false => rw [if_pos (show eB false = 0 from rfl)]; rfl
    | true =>
      rw [if_neg (show ¬ eB true = 0 by decide), if_pos rfl]
      by_cases e : x.1 = 0
      · rw [if_pos e, if_pos e]
      · rw [if_neg e, if_neg e]
  · unfold bX5_rivals_99
    rw [if_pos (by decide)]
    by_cases e : a2 = 0
    · rw [if_pos e, if_pos e]
    · rw [if_neg e, if_neg e]
/-- the class's table up to place k -/
def Fil (V : Nat → Nat → Nat) (k : Nat) (ρ : eSt) : Prop := ∀ a b, a < 11 → b < 11 → 11 * a + b < k → canB a b = true → ρ 20 (11 * a + b) = nI (V a b)
theorem x_fillIn {σ : eSt} {V : Nat → Nat → Nat} (hst : ∀ ρ, XS σ ρ → ∀ a b, a ≤ 10 → b ≤ 10 → ∃ ρ', (XS σ ρ' ∧ ρ' 20 = ρ 20) ∧ fX4_sureCountWith ρ (nI a) (nI b) = some (nI (V a b), ρ')) {a : Nat} (ha : a < 11) : ∀ m b, b + m = 11 → ∀ q, m < q → ∀ ρ, XS σ ρ → Fil V (11 * a + b) ρ → ∃ ρ', (XS σ ρ' ∧ Fil V (11 * (a + 1)) ρ') ∧ ∀ K, lo_2 (bX4_fillSureByChoice_10 K (nI a)) q (nI b) ρ = K (nI (a + 1)) ρ' := by
  have fin : ∀ (K k : Int32 → eSt → Option eSt) (ρ : eSt), bX4_fillSureByChoice_10 K (nI a) k (nI 11) ρ = K (nI (a + 1)) ρ := by
    intro K k ρ
    unfold bX4_fillSureByChoice_10
    rw [if_pos (by decide), e_bnd_def, nI_1]
  have skip : ∀ (K k : Int32 → eSt → Option eSt) (b : Nat) (ρ : eSt), b < 11 → canB a b = false → bX4_fillSureByChoice_10 K (nI a) k (nI b) ρ = k (nI (b + 1)) ρ := by
    intro K k b ρ hb hc
    unfold bX4_fillSureByChoice_10 fX4_fillSureByChoice_41
    rw [if_neg (show ¬ (11 : Int32) ≤ nI b by rw [show (11 : Int32) = nI 11 from rfl, e_le (by omega) (by omega)]; omega), x_can (by omega) (by omega), Option.bind_some, hc, if_pos (show eB false = 0 from rfl), e_bnd_def, nI_1]
  have step : ∀ (K k : Int32 → eSt → Option eSt) (b : Nat) (ρ ρ1 : eSt), b < 11 → canB a b = true → fX4_sureCountWith ρ (nI a) (nI b) = some (nI (V a b), ρ1) → bX4_fillSureByChoice_10 K (nI a) k (nI b) ρ = k (nI (b + 1)) (e_up ρ1 20 (11 * a + b) (nI (V a b))) := by
    intro K k b ρ ρ1 hb hc hs
    have e11 : (11 : Int32) * nI a + nI b = nI (11 * a + b) := by rw [show (11 : Int32) = nI 11 from rfl, pk_mul, nI_add]
    unfold bX4_fillSureByChoice_10 fX4_fillSureByChoice_41
    rw [if_neg (show ¬ (11 : Int32) ≤ nI b by rw [show (11 : Int32) = nI 11 from rfl, e_le (by omega) (by omega)]; omega), x_can (by omega) (by omega), Option.bind_some, hc, if_neg (show ¬ eB true = 0 by decide), hs, Option.bind_some, e11, if_pos (by rw [e_inN (by omega)]; omega), nI_clamp (by omega), e_bnd_def, e_bnd_def, nI_1]
  intro m
  induction m with
  | zero =>
    intro b hb q hq ρ hρ hF
    obtain ⟨q, rfl⟩ : ∃ r, q = r + 1 := ⟨q - 1, by omega⟩
    have : b = 11 := by omega
    subst this
    exact ⟨ρ, ⟨hρ, hF⟩, fun K => by rw [lo_2_step, fin]⟩
  | succ m ih =>
    intro b hb q hq ρ hρ hF
    obtain ⟨q, rfl⟩ : ∃ r, q = r + 1 := ⟨q - 1, by omega⟩
    cases hc : canB a b with
    | false =>
      obtain ⟨ρ', i1, i2⟩ := ih (b + 1) (by omega) q (by omega) ρ hρ (fun c d h1 h2 h3 h4 => by
        by_cases e : 11 * c + d < 11 * a + b
        · exact hF c d h1 h2 e h4
        · have e1 : c = a := by omega
          have e2 : d = b := by omega
          rw [e1, e2, hc] at h4
          cases h4)
      exact ⟨ρ', i1, fun K => by rw [lo_2_step, skip _ _ b ρ (by omega) hc]; exact i2 K⟩
    | true =>
      obtain ⟨ρ1, ⟨h1, h20⟩, h2⟩ := hst ρ hρ a b (by omega) (by omega)
      obtain ⟨ρ', i1, i2⟩ := ih (b + 1) (by omega) q (by omega) (e_up ρ1 20 (11 * a + b) (nI (V a b))) ⟨h1.1.trans' (XSame.up _ _ _ (by omega)), by rw [up_n _ _ _ (by omega)]; exact h1.2⟩ (fun c d g1 g2 g3 g4 => by
        by_cases e : 11 * c + d = 11 * a + b
        · have e1 : c = a := by omega
          have e2 : d = b := by omega
          rw [e1, e2]; exact up_s _ _ _ _
        · rw [up_o _ _ _ e, h20]; exact hF c d g1 g2 (by omega) g4)
      exact ⟨ρ', i1, fun K => by rw [lo_2_step, step _ _ b ρ ρ1 (by omega) hc h2]; exact i2 K⟩
theorem x_fill {σ : eSt} {V : Nat → Nat → Nat} (hst : ∀ ρ, XS σ ρ → ∀ a b, a ≤ 10 → b ≤ 10 → ∃ ρ', (XS σ ρ' ∧ ρ' 20 = ρ 20) ∧ fX4_sureCountWith ρ (nI a) (nI b) = some (nI (V a b), ρ')) : ∃ ρ', (XS σ ρ' ∧ Fil V 121 ρ') ∧ fX4_fillSureByChoice σ = some ρ' := by
  have op : ∀ (k : Int32 → eSt → Option eSt) (a : Nat) (ρ : eSt), a < 11 → bX4_fillSureByChoice_2 k (nI a) ρ = lo_2 (bX4_fillSureByChoice_10 k (nI a)) 1000 0 ρ := by
    intro k a ρ ha
    unfold bX4_fillSureByChoice_2
    rw [show (11 : Int32) = nI 11 from rfl, if_neg (by rw [e_le (by omega) (by omega)]; omega)]
  obtain ⟨ρ', g1, g2⟩ := re_cs (b := bX4_fillSureByChoice_2) (N := 11) (fun a ρ => XS σ ρ ∧ Fil V (11 * a) ρ) (fun ρ => some ρ) (by
    intro a ρ ha hJ
    obtain ⟨ρ1, h1, h2⟩ := x_fillIn hst ha 11 0 (by omega) 1000 (by omega) ρ hJ.1 hJ.2
    exact ⟨ρ1, fun k => (op k a ρ ha).trans (h2 k), h1⟩) (by
    intro k ρ _
    unfold bX4_fillSureByChoice_2
    rw [if_pos (by decide)]) 11 1000 0 σ (by omega) (by omega) ⟨⟨XSame.rfl' σ, rfl⟩, fun a b _ _ h _ => by omega⟩
  exact ⟨ρ', g1, g2⟩

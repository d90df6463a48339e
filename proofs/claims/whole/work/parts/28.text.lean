/-! math 9: the text: write, wipe, fault, river -/
theorem eI_text {σ τ σ' τ' : eSt} {z y : Int64} (hI : eI σ z τ y) (hT : RT σ' τ') (fx : ∀ c, c ≠ 1 → c ≠ 2 → σ' c = σ c) (fy : ∀ c, c ≠ 0 → c ≠ 1 → τ' c = τ c) (f0 : ∀ j, j ≠ 2 → j ≠ 0 → τ' 0 j = τ 0 j) : eI σ' z τ' y := by
  obtain ⟨h0, h1, h2, h3, h4, h5, h6⟩ := hI
  exact ⟨h0, hT, h2.same (fun k _ _ => fx k (by omega) (by omega)) (f0 4 (by omega) (by omega)) (fy 2 (by omega) (by omega)), h3.same (fx 9 (by omega) (by omega)) (fy 4 (by omega) (by omega)), h4.same (by rw [fx 0 (by omega) (by omega)]) (fx 15 (by omega) (by omega)) (f0 14 (by omega) (by omega)) (fy 6 (by omega) (by omega)), h5.same (fx 16 (by omega) (by omega)) (fy 8 (by omega) (by omega)) (fy 7 (by omega) (by omega)), h6.same (by rw [fx 10 (by omega) (by omega)]) (fun k _ _ => fx k (by omega) (by omega)) (f0 17 (by omega) (by omega)) (fun k _ _ => fy k (by omega) (by omega))⟩
theorem st_write : ES_write eI := by
  intro σ z τ y a1 hI
  have bad : eI σ z (e_up τ 0 0 0) y := hI.same (XSame.rfl' σ) (y00 τ)
  obtain ⟨n, hn, h1, h2, h3⟩ := hI.2.1
  have h2' : (e_up τ 0 0 0) 0 2 = nI n := by rw [up_o _ _ _ (by omega)]; exact h2
  unfold fX4_write fX5_write fX3_add
  simp only [e_in0_255, e_bnd_def, Option.bind_some, eB_z, h1, h2']
  by_cases g1 : a1 < 0
  · exact ⟨-2, σ, _, by rw [if_pos g1], by rw [inI_lo g1]; rfl, bad⟩
  rw [if_neg g1]
  by_cases g2 : ¬ a1 ≤ 255
  · exact ⟨-2, σ, _, by rw [if_neg g2], by rw [inI_hi (by rw [e_nle] at g2; exact g2)]; rfl, bad⟩
  replace g2 := Classical.not_not.mp g2
  rw [if_pos g2, inI_t g1 (by rw [e_nlt]; exact g2), if_neg b_tf]
  simp only [show (40 : Int32) = nI 40 from rfl, e_lt (show n < 2 ^ 31 by omega) (show 40 < 2 ^ 31 by omega), e_le (show 40 < 2 ^ 31 by omega) (show n < 2 ^ 31 by omega), e_eq (show n < 2 ^ 31 by omega) (show 40 < 2 ^ 31 by omega), e_inN (show n < 2 ^ 31 by omega), nI_clamp (show n < 2 ^ 31 by omega)]
  by_cases full : n = 40
  · exact ⟨-4, σ, _, by rw [if_neg (by omega)], by rw [if_pos full], bad⟩
  have hlt : n < 40 := by omega
  rw [if_pos hlt, if_neg (show ¬ 40 ≤ n by omega), if_pos hlt, if_neg full, if_pos hlt]
  simp only [Option.bind_some]
  have x1 : (e_up σ 2 n a1) 1 1 = nI n := by rw [up_n _ _ _ (by omega)]; exact h1
  have y1 : (e_up (e_up τ 0 0 0) 1 n a1) 0 2 = nI n := by rw [up_n _ _ _ (by omega)]; exact h2'
  rw [x1, y1, nI_1, up_s, up_s]
  refine ⟨_, _, _, rfl, rfl, eI_text hI ⟨n + 1, by omega, up_s _ _ _ _, up_s _ _ _ _, fun i hi => ?_⟩ (fun c c1 c2 => by rw [up_n _ _ _ c1, up_n _ _ _ c2]) (fun c c0 c1 => by rw [up_n _ _ _ c0, up_n _ _ _ c1, up_n _ _ _ c0]) (fun j j2 j0 => by rw [up_o _ _ _ j2, up_n _ _ _ (by omega), up_o _ _ _ j0])⟩
  rw [up_n _ _ _ (show 2 ≠ 1 by omega), up_n _ _ _ (show 1 ≠ 0 by omega)]
  by_cases e : i = n
  · subst e; rw [up_s, up_s]
  · rw [up_o _ _ _ e, up_o _ _ _ e, up_n _ _ _ (show 1 ≠ 0 by omega)]; exact h3 i (by omega)
theorem st_wipe : ES_wipe eI := by
  intro σ z τ y hI
  obtain ⟨n, hn, h1, h2, h3⟩ := hI.2.1
  have h2' : (e_up τ 0 0 0) 0 2 = nI n := by rw [up_o _ _ _ (by omega)]; exact h2
  unfold fX4_wipe fX5_wipe
  simp only [e_bnd_def, h1, h2']
  refine ⟨_, _, _, rfl, rfl, eI_text hI ⟨0, by omega, up_s _ _ _ _, up_s _ _ _ _, fun i hi => by omega⟩ (fun c c1 c2 => up_n _ _ _ c1) (fun c c0 c1 => by rw [up_n _ _ _ c0, up_n _ _ _ c0]) (fun j j2 j0 => by rw [up_o _ _ _ j2, up_o _ _ _ j0])⟩
-- which bytes fit
def dgI (t : Nat → Int32) (p : Nat) : Int32 := t p - 48
def fitB (t : Nat → Int32) (p : Nat) : Bool :=
  if p = 0 then decide (t 0 = 82) else if p = 1 then inI (dgI t 1) 0 9 else if p = 2 then inI (dgI t 2) 0 4 else if p = 3 then inI (dgI t 3) 0 2
  else if (p - 4) % 6 = 0 then decide (t p = 83) else if (p - 4) % 6 = 1 then inI (dgI t p) 0 9 else if (p - 4) % 6 = 2 then inI (dgI t p) 1 9 else if (p - 4) % 6 = 3 then inI (dgI t p) 0 9 else if (p - 4) % 6 = 4 then inI (dgI t p) (dgI t (p - 1)) 9 else inI (dgI t p) 0 3
def whB (n : Nat) : Bool := decide (4 ≤ n) && decide ((n - 4) % 6 = 0)
def scanM (t : Nat → Int32) (n : Nat) : Nat → Nat → Int32
  | 0, _ => if whB n = true then -9 else nI n
  | m + 1, p => if fitB t p = true then scanM t n m (p + 1) else nI p
def scn (t : Nat → Int32) (n p : Nat) : Int32 := scanM t n (n - p) p
theorem scn_fit {t : Nat → Int32} {n p : Nat} (hp : p < n) (h : fitB t p = true) : scn t n p = scn t n (p + 1) := by
  unfold scn
  obtain ⟨m, hm⟩ : ∃ m, n - p = m + 1 := ⟨n - p - 1, by omega⟩
  rw [hm, show n - (p + 1) = m by omega]
  show (if fitB t p = true then scanM t n m (p + 1) else nI p) = _
  rw [if_pos h]
theorem scn_no {t : Nat → Int32} {n p : Nat} (hp : p < n) (h : fitB t p = false) : scn t n p = nI p := by
  unfold scn
  obtain ⟨m, hm⟩ : ∃ m, n - p = m + 1 := ⟨n - p - 1, by omega⟩
  rw [hm]
  show (if fitB t p = true then scanM t n m (p + 1) else nI p) = _
  rw [h]; rfl
theorem scn_end (t : Nat → Int32) (n : Nat) : scn t n n = if whB n = true then -9 else nI n := by
  unfold scn
  rw [Nat.sub_self]; rfl
theorem nI_m9 {p : Nat} (h : p < 2 ^ 31) : ¬ nI p = -9 := by
  intro q
  have := congrArg Int32.toInt q
  rw [nI_toInt h] at this
  exact absurd this (by simp)
theorem scn_ok {t : Nat → Int32} {n : Nat} (hn : n ≤ 40) : ∀ m p, p + m = n → scn t n p = -9 → (∀ q, p ≤ q → q < n → fitB t q = true) ∧ whB n = true := by
  intro m
  induction m with
  | zero =>
    intro p hp h
    have : p = n := by omega
    subst this
    rw [scn_end] at h
    by_cases w : whB p = true
    · exact ⟨fun q h1 h2 => by omega, w⟩
    · rw [if_neg w] at h; exact absurd h (nI_m9 (by omega))
  | succ m ih =>
    intro p hp h
    by_cases f : fitB t p = true
    · rw [scn_fit (by omega) f] at h
      obtain ⟨h1, h2⟩ := ih (p + 1) (by omega) h
      exact ⟨fun q q1 q2 => by
        by_cases e : q = p
        · rw [e]; exact f
        · exact h1 q (by omega) q2, h2⟩
    · rw [scn_no (by omega) (b_nt f)] at h; exact absurd h (nI_m9 (by omega))
-- the class
theorem x_digit {σ : eSt} {n p : Nat} (hn : n ≤ 40) (h1 : σ 1 1 = nI n) (hp : p < n) : fX3_digit σ (nI p) = some (dgI (σ 2) p) := by
  unfold fX3_digit
  rw [if_neg (nI_pos (by omega)), h1, if_neg (by rw [e_le (by omega) (by omega)]; omega), if_pos (by rw [e_inN (by omega)]; omega), nI_clamp (by omega)]
  rfl
theorem x_isDigit {σ : eSt} {n p : Nat} (hn : n ≤ 40) (h1 : σ 1 1 = nI n) (hp : p < n) (lo hi : Int32) : fX3_isDigit σ (nI p) lo hi = some (eB (inI (dgI (σ 2) p) lo hi)) := by
  unfold fX3_isDigit
  rw [x_digit hn h1 hp]
  simp only [Option.bind_some, e_r0, e_r1]
  by_cases q1 : dgI (σ 2) p < lo
  · rw [if_pos q1, inI_lo q1]; rfl
  · rw [if_neg q1]
    by_cases q2 : hi < dgI (σ 2) p
    · rw [if_pos q2, inI_hi q2]; rfl
    · rw [if_neg q2, inI_t q1 q2]; rfl
theorem x_fits {σ : eSt} {n p : Nat} (hn : n ≤ 40) (h1 : σ 1 1 = nI n) (hp : p < n) : fX3_fits σ (nI p) = some (eB (fitB (σ 2) p)) := by
  unfold fX3_fits
  rw [show (4 : Int32) = nI 4 from rfl]
  by_cases h4 : 4 ≤ p
  · rw [if_pos (by rw [e_le (by omega) (by omega)]; exact h4)]
    unfold fX3_fitsPart fitB
    have er : e_rem (nI p - 4) 6 = nI ((p - 4) % 6) := by
      rw [show (4 : Int32) = nI 4 from rfl, pk_sub h4]; exact pk_rem (by omega) (by decide) (by decide)
    have e1 : nI p - 1 = nI (p - 1) := by rw [show (1 : Int32) = nI 1 from rfl, pk_sub (by omega)]
    have hm : (p - 4) % 6 < 6 := Nat.mod_lt _ (by decide)
    rw [er, e1, x_digit hn h1 (show p - 1 < n by omega)]
    simp only [show (0 : Int32) = nI 0 from rfl, show (2 : Int32) = nI 2 from rfl, show (3 : Int32) = nI 3 from rfl, show (4 : Int32) = nI 4 from rfl, e_eq (show (p - 4) % 6 < 2 ^ 31 by omega) (show 0 < 2 ^ 31 by omega), e_eq (show (p - 4) % 6 < 2 ^ 31 by omega) (show 2 < 2 ^ 31 by omega), e_eq (show (p - 4) % 6 < 2 ^ 31 by omega) (show 3 < 2 ^ 31 by omega), e_eq (show (p - 4) % 6 < 2 ^ 31 by omega) (show 4 < 2 ^ 31 by omega)]
    have e11 : (nI ((p - 4) % 6) = 1) = ((p - 4) % 6 = 1) := e_eq (b := 1) (by omega) (by omega)
    simp only [e11, x_isDigit hn h1 hp, Option.bind_some, e_rB, e_inN (show p < 2 ^ 31 by omega), show p < 40 by omega, if_true, nI_clamp (show p < 2 ^ 31 by omega)]
    rw [if_neg (show ¬ p = 0 by omega), if_neg (show ¬ p = 1 by omega), if_neg (show ¬ p = 2 by omega), if_neg (show ¬ p = 3 by omega)]
    by_cases m0 : (p - 4) % 6 = 0
    · rw [if_pos m0, if_pos m0]
      have r0 : (if e_isb (nI 0) then some (nI 0) else none) = some 0 := if_pos (Or.inl rfl)
      simp only [r0, e_r1]
      by_cases e : σ 2 p = 83
      · rw [if_pos e]; simp [e, eB]
      · rw [if_neg e]; simp [e, eB]
    · rw [if_neg m0, if_neg m0]
      by_cases m1 : (p - 4) % 6 = 1
      · rw [if_pos m1, if_pos m1]; simp only [Option.bind_some, e_rB]
      · rw [if_neg m1, if_neg m1]
        by_cases m2 : (p - 4) % 6 = 2
        · rw [if_pos m2, if_pos m2]; simp only [Option.bind_some, e_rB]
        · rw [if_neg m2, if_neg m2]
          by_cases m3 : (p - 4) % 6 = 3
          · rw [if_pos m3, if_pos m3]; simp only [Option.bind_some, e_rB]
          · rw [if_neg m3, if_neg m3]
            by_cases m4 : (p - 4) % 6 = 4
            · rw [if_pos m4, if_pos m4]; simp only [Option.bind_some, e_rB]
            · rw [if_neg m4, if_neg m4]; simp only [Option.bind_some, e_rB]
  · rw [if_neg (by rw [e_le (by omega) (by omega)]; exact h4)]
    unfold fX3_fitsHead fitB
    simp only [x_isDigit hn h1 hp, Option.bind_some, e_rB, e_r0, e_r1]
    rcases (show p = 0 ∨ p = 1 ∨ p = 2 ∨ p = 3 by omega) with rfl | rfl | rfl | rfl
    · rw [if_pos (by decide), if_pos rfl]
      by_cases e : σ 2 0 = 82
      · rw [if_pos e]; simp [e, eB]
      · rw [if_neg e]; simp [e, eB]
    · rw [if_neg (by decide), if_pos (by decide), if_neg (by decide), if_pos rfl]; simp only [Option.bind_some, e_rB]
    · rw [if_neg (by decide), if_neg (by decide), if_pos (by decide), if_neg (by decide), if_neg (by decide), if_pos rfl]; simp only [Option.bind_some, e_rB]
    · rw [if_neg (by decide), if_neg (by decide), if_neg (by decide), if_neg (by decide), if_neg (by decide), if_neg (by decide), if_pos rfl]; simp only [Option.bind_some, e_rB]
theorem x_firstFault {σ : eSt} {n : Nat} (hn : n ≤ 40) (h1 : σ 1 1 = nI n) : fX3_firstFault σ = some (scn (σ 2) n 0) := by
  have step : ∀ (k : Int32 → Option Int32) (p : Nat), p < n → bX3_firstFault_2 σ k (nI p) = if fitB (σ 2) p = true then k (nI (p + 1)) else some (nI p) := by
    intro k p hp
    unfold bX3_firstFault_2
    rw [h1, if_neg (by rw [e_le (by omega) (by omega)]; omega), x_fits hn h1 hp]
    simp only [Option.bind_some, eB_z, e_bnd_def, nI_1]
    cases fitB (σ 2) p <;> rfl
  have fin : ∀ (k : Int32 → Option Int32), bX3_firstFault_2 σ k (nI n) = some (if whB n = true then -9 else nI n) := by
    intro k
    unfold bX3_firstFault_2 fX3_firstFault_50 fX3_firstFault_51
    rw [h1, if_pos (by rw [e_le (by omega) (by omega)]; omega), show (4 : Int32) = nI 4 from rfl]
    by_cases h4 : n < 4
    · rw [if_pos (by rw [e_lt (by omega) (by omega)]; exact h4), if_pos rfl]
      have : whB n = false := by simp [whB, show ¬ 4 ≤ n by omega]
      rw [this]; rfl
    · rw [if_neg (by rw [e_lt (by omega) (by omega)]; exact h4), pk_sub (by omega), show e_rem (nI (n - 4)) 6 = nI ((n - 4) % 6) from pk_rem (by omega) (by decide) (by decide)]
      by_cases h6 : (n - 4) % 6 = 0
      · rw [if_pos (by rw [h6]; rfl), if_neg (by decide)]
        have : whB n = true := by simp [whB, h6, show 4 ≤ n by omega]
        rw [this]; rfl
      · rw [if_neg (by rw [show (0 : Int32) = nI 0 from rfl, e_eq (by omega) (by omega)]; exact h6), if_pos rfl]
        have : whB n = false := by simp [whB, h6]
        rw [this]; rfl
  have key : ∀ m q p, p + m = n → m < q → lo_1 (bX3_firstFault_2 σ) q (nI p) = some (scn (σ 2) n p) := by
    intro m
    induction m with
    | zero =>
      intro q p hp hq
      obtain ⟨q, rfl⟩ : ∃ r, q = r + 1 := ⟨q - 1, by omega⟩
      have : p = n := by omega
      subst this
      rw [lo_1_step, fin, scn_end]
    | succ m ih =>
      intro q p hp hq
      obtain ⟨q, rfl⟩ : ∃ r, q = r + 1 := ⟨q - 1, by omega⟩
      rw [lo_1_step, step _ p (by omega)]
      by_cases f : fitB (σ 2) p = true
      · rw [if_pos f, ih q (p + 1) (by omega) (by omega), scn_fit (by omega) f]
      · rw [if_neg f, scn_no (by omega) (b_nt f)]
  exact key n 1000 0 (by omega) (by omega)
-- the reference
theorem y_fig_no {τ : eSt} {n p : Nat} {lo hi : Int32} (hn : n ≤ 40) (h2 : τ 0 2 = nI n) (h3 : τ 0 3 = nI p) (hp : p ≤ n) (h : p = n ∨ inI (dgI (τ 1) p) lo hi = false) : fX5_figure τ lo hi = some (-9, τ) := by
  unfold fX5_figure
  rw [h2, h3]
  by_cases e : p = n
  · rw [if_pos (by rw [e])]
  · have h := h.resolve_left e
    rw [if_neg (by rw [e_eq (by omega) (by omega)]; exact e), if_pos (by rw [e_inN (by omega)]; omega), nI_clamp (by omega), e_in32]
    show (some (eB (inI (dgI (τ 1) p) lo hi))).bind _ = _
    rw [h]; rfl
theorem y_fig_ok {τ : eSt} {n p : Nat} {lo hi : Int32} (hn : n ≤ 40) (h2 : τ 0 2 = nI n) (h3 : τ 0 3 = nI p) (hp : p < n) (h : inI (dgI (τ 1) p) lo hi = true) : fX5_figure τ lo hi = some (dgI (τ 1) p, e_up τ 0 3 (nI (p + 1))) := by
  unfold fX5_figure
  rw [h2, h3, if_neg (by rw [e_eq (by omega) (by omega)]; omega), if_pos (by rw [e_inN (by omega)]; omega), nI_clamp (by omega), e_in32]
  show (some (eB (inI (dgI (τ 1) p) lo hi))).bind _ = _
  rw [h]
  simp only [Option.bind_some, eB_z, e_bnd_def, nI_1]
  rw [if_neg b_tf, up_s, show nI (p + 1) - 1 = nI p from nI_pred p, if_pos (by rw [e_inN (by omega)]; omega), nI_clamp (by omega), up_n _ _ _ (show 1 ≠ 0 by omega)]
  rfl
theorem dg_m9 {x hi lo : Int32} (h : inI x lo hi = true) (h0 : 0 ≤ lo) : ¬ x = -9 := by
  intro e
  simp only [inI, Bool.and_eq_true, decide_eq_true_eq] at h
  have q1 := Int32.le_iff_toInt_le.mp h.1
  have q2 := Int32.le_iff_toInt_le.mp h0
  rw [e] at q1
  simp at q1 q2
  omega
/-- what the reference's reader leaves alone -/
def YR (τ τ' : eSt) : Prop := (∀ c, c ≠ 0 → c ≠ 3 → τ' c = τ c) ∧ ∀ j, j ≠ 3 → j ≠ 6 → j ≠ 7 → j ≠ 8 → j ≠ 9 → τ' 0 j = τ 0 j
theorem YR.rfl' (τ : eSt) : YR τ τ := ⟨fun _ _ _ => rfl, fun _ _ _ _ _ _ => rfl⟩
theorem YR.trans' {a b c : eSt} (h1 : YR a b) (h2 : YR b c) : YR a c := ⟨fun k q0 q3 => (h2.1 k q0 q3).trans (h1.1 k q0 q3), fun j a1 a2 a3 a4 a5 => (h2.2 j a1 a2 a3 a4 a5).trans (h1.2 j a1 a2 a3 a4 a5)⟩
theorem YR.up0 (τ : eSt) {j : Nat} (v : Int32) (h : j = 3 ∨ j = 6 ∨ j = 7 ∨ j = 8 ∨ j = 9) : YR τ (e_up τ 0 j v) := ⟨fun c h0 _ => up_n _ _ _ h0, fun i q1 q2 q3 q4 q5 => up_o _ _ _ (by omega)⟩
theorem YR.up3 (τ : eSt) (j : Nat) (v : Int32) : YR τ (e_up τ 3 j v) := ⟨fun c _ h3 => up_n _ _ _ h3, fun i _ _ _ _ _ => by rw [up_n _ _ _ (by omega)]⟩
theorem YR.same {τ τ' : eSt} (h : YR τ τ') : YSame τ τ' := ⟨⟨h.2 2 (by omega) (by omega) (by omega) (by omega) (by omega), h.2 4 (by omega) (by omega) (by omega) (by omega) (by omega), h.2 14 (by omega) (by omega) (by omega) (by omega) (by omega), h.2 17 (by omega) (by omega) (by omega) (by omega) (by omega)⟩, fun k h0 h3 h5 hk => h.1 k h0 h3⟩
theorem fit_1 (t : Nat → Int32) : fitB t 1 = inI (dgI t 1) 0 9 := rfl
theorem fit_2 (t : Nat → Int32) : fitB t 2 = inI (dgI t 2) 0 4 := rfl
theorem fit_3 (t : Nat → Int32) : fitB t 3 = inI (dgI t 3) 0 2 := rfl
/-- a fault at p: the text ends there in the middle, or the byte doesn't fit -/
theorem scn_at {t : Nat → Int32} {n p : Nat} (hp : p ≤ n) (h : p = n ∨ fitB t p = false) (hw : whB p = false) : scn t n p = nI p := by
  by_cases e : p = n
  · subst e; rw [scn_end, hw]; rfl
  · exact scn_no (by omega) (h.resolve_left e)
theorem scn9 {x y : Int32} (h : x = y) (h9 : ¬ y = -9) : x = y ∧ ¬ y = -9 := ⟨h, h9⟩
theorem y_readHead {τ : eSt} {n : Nat} (hn : n ≤ 40) (h1n : 1 ≤ n) (h2 : τ 0 2 = nI n) (h3 : τ 0 3 = nI 1) : ∃ (r : Bool) (τ' : eSt), fX5_readHead τ = some (eB r, τ') ∧ YR τ τ' ∧ τ' 0 6 = τ 0 6 ∧ (r = false → scn (τ 1) n 1 = τ' 0 3 ∧ ¬ τ' 0 3 = -9) ∧ (r = true → 4 ≤ n ∧ τ' 0 3 = nI 4 ∧ scn (τ 1) n 1 = scn (τ 1) n 4 ∧ τ' 0 7 = dgI (τ 1) 1 ∧ τ' 0 8 = dgI (τ 1) 2 ∧ τ' 0 9 = dgI (τ 1) 3) := by
  have m9 : ∀ τ1 : eSt, fX5_readHead_56 τ1 (-9) = some (eB false, e_up τ1 0 9 (-9)) := by
    intro τ1
    unfold fX5_readHead_56
    rw [e_bnd_def, if_pos (up_s _ _ _ _), e_r0]; rfl
  have m8 : ∀ τ1 : eSt, fX5_readHead_32 τ1 (-9) = some (eB false, e_up (e_up τ1 0 8 (-9)) 0 9 (-9)) := by
    intro τ1
    unfold fX5_readHead_32
    rw [e_bnd_def, if_pos (up_s _ _ _ _), m9]
  unfold fX5_readHead
  by_cases f1 : 1 = n ∨ inI (dgI (τ 1) 1) 0 9 = false
  · rw [y_fig_no hn h2 h3 h1n f1]
    simp only [Option.bind_some, e_bnd_def]
    rw [if_pos (up_s _ _ _ _), m8]
    refine ⟨false, _, rfl, (YR.up0 _ _ (by omega)).trans' ((YR.up0 _ _ (by omega)).trans' (YR.up0 _ _ (by omega))), by rw [up_o _ _ _ (by omega), up_o _ _ _ (by omega), up_o _ _ _ (by omega)], fun _ => scn9 ?_ (by rw [up_o _ _ _ (by omega), up_o _ _ _ (by omega), up_o _ _ _ (by omega), h3]; exact nI_m9 (by omega)), fun q => by cases q⟩
    rw [up_o _ _ _ (by omega), up_o _ _ _ (by omega), up_o _ _ _ (by omega), h3]
    exact scn_at h1n (by rw [fit_1]; exact f1) (by decide)
  have n1 : 1 < n := by omega
  have f1 : inI (dgI (τ 1) 1) 0 9 = true := b_nf (fun q => f1 (Or.inr q))
  rw [y_fig_ok hn h2 h3 n1 f1]
  simp only [Option.bind_some, e_bnd_def]
  rw [if_neg (by rw [up_s]; exact dg_m9 f1 (by decide))]
  have hA : YR τ (e_up (e_up τ 0 3 (nI 2)) 0 7 (dgI (τ 1) 1)) := (YR.up0 _ _ (by omega)).trans' (YR.up0 _ _ (by omega))
  generalize hτA : e_up (e_up τ 0 3 (nI 2)) 0 7 (dgI (τ 1) 1) = τA at hA ⊢
  have a3 : τA 0 3 = nI 2 := by rw [← hτA, up_o _ _ _ (by omega), up_s]
  have a7 : τA 0 7 = dgI (τ 1) 1 := by rw [← hτA, up_s]
  have a6 : τA 0 6 = τ 0 6 := by rw [← hτA, up_o _ _ _ (by omega), up_o _ _ _ (by omega)]
  have a2 : τA 0 2 = nI n := by rw [hA.2 2 (by omega) (by omega) (by omega) (by omega) (by omega)]; exact h2
  have at1 : τA 1 = τ 1 := hA.1 1 (by omega) (by omega)
  have sc1 : scn (τ 1) n 1 = scn (τ 1) n 2 := scn_fit n1 (by rw [fit_1]; exact f1)
  by_cases f2 : 2 = n ∨ inI (dgI (τ 1) 2) 0 4 = false
  · rw [y_fig_no hn a2 a3 n1 (by rw [at1]; exact f2)]
    simp only [Option.bind_some]
    rw [m8]
    refine ⟨false, _, rfl, hA.trans' ((YR.up0 _ _ (by omega)).trans' (YR.up0 _ _ (by omega))), by rw [up_o _ _ _ (by omega), up_o _ _ _ (by omega), a6], fun _ => scn9 ?_ (by rw [up_o _ _ _ (by omega), up_o _ _ _ (by omega), a3]; exact nI_m9 (by omega)), fun q => by cases q⟩
    rw [up_o _ _ _ (by omega), up_o _ _ _ (by omega), a3, sc1]
    exact scn_at n1 (by rw [fit_2]; exact f2) (by decide)
  have n2 : 2 < n := by omega
  have f2 : inI (dgI (τ 1) 2) 0 4 = true := b_nf (fun q => f2 (Or.inr q))
  rw [y_fig_ok hn a2 a3 n2 (by rw [at1]; exact f2)]
  simp only [Option.bind_some]
  unfold fX5_readHead_32
  rw [e_bnd_def, if_neg (by rw [up_s, at1]; exact dg_m9 f2 (by decide)), at1]
  have hB : YR τ (e_up (e_up τA 0 3 (nI (2 + 1))) 0 8 (dgI (τ 1) 2)) := hA.trans' ((YR.up0 _ _ (by omega)).trans' (YR.up0 _ _ (by omega)))
  generalize hτB : e_up (e_up τA 0 3 (nI (2 + 1))) 0 8 (dgI (τ 1) 2) = τB at hB ⊢
  have b3 : τB 0 3 = nI 3 := by rw [← hτB, up_o _ _ _ (by omega), up_s]
  have b7 : τB 0 7 = dgI (τ 1) 1 := by rw [← hτB, up_o _ _ _ (by omega), up_o _ _ _ (by omega)]; exact a7
  have b8 : τB 0 8 = dgI (τ 1) 2 := by rw [← hτB, up_s]
  have b6 : τB 0 6 = τ 0 6 := by rw [← hτB, up_o _ _ _ (by omega), up_o _ _ _ (by omega), a6]
  have b2 : τB 0 2 = nI n := by rw [hB.2 2 (by omega) (by omega) (by omega) (by omega) (by omega)]; exact h2
  have bt1 : τB 1 = τ 1 := hB.1 1 (by omega) (by omega)
  have sc2 : scn (τ 1) n 1 = scn (τ 1) n 3 := sc1.trans (scn_fit n2 (by rw [fit_2]; exact f2))
  by_cases f3 : 3 = n ∨ inI (dgI (τ 1) 3) 0 2 = false
  · rw [y_fig_no hn b2 b3 n2 (by rw [bt1]; exact f3)]
    simp only [Option.bind_some]
    rw [m9]
    refine ⟨false, _, rfl, hB.trans' (YR.up0 _ _ (by omega)), by rw [up_o _ _ _ (by omega), b6], fun _ => scn9 ?_ (by rw [up_o _ _ _ (by omega), b3]; exact nI_m9 (by omega)), fun q => by cases q⟩
    rw [up_o _ _ _ (by omega), b3, sc2]
    exact scn_at n2 (by rw [fit_3]; exact f3) (by decide)
  have n3 : 3 < n := by omega
  have f3 : inI (dgI (τ 1) 3) 0 2 = true := b_nf (fun q => f3 (Or.inr q))
  rw [y_fig_ok hn b2 b3 n3 (by rw [bt1]; exact f3)]
  simp only [Option.bind_some]
  unfold fX5_readHead_56
  rw [e_bnd_def, if_neg (by rw [up_s, bt1]; exact dg_m9 f3 (by decide)), e_r1, bt1]
  refine ⟨true, _, rfl, hB.trans' ((YR.up0 _ _ (by omega)).trans' (YR.up0 _ _ (by omega))), by rw [up_o _ _ _ (by omega), up_o _ _ _ (by omega), b6], (fun q => by cases q), fun _ => ⟨by omega, by rw [up_o _ _ _ (by omega), up_s], sc2.trans (scn_fit n3 (by rw [fit_3]; exact f3)), by rw [up_o _ _ _ (by omega), up_o _ _ _ (by omega)]; exact b7, by rw [up_o _ _ _ (by omega), up_o _ _ _ (by omega)]; exact b8, up_s _ _ _ _⟩⟩

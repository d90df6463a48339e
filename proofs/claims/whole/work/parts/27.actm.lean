/-! math 8: row, hush, hammer, change, hour, undo, keep, again -/
def upN (sc : Nat → Nat) (j v : Nat) : Nat → Nat := fun i => if i = j then v else sc i
theorem eI_act {σ τ σ' τ' : eSt} {z y : Int64} (hI : eI σ z τ y) (hA : RA σ' τ') (hP : RP σ' τ') (fx : ∀ c, c ≠ 0 → c ≠ 15 → c ≠ 9 → σ' c = σ c) (fy : ∀ c, c ≠ 0 → c ≠ 6 → c ≠ 4 → τ' c = τ c) (f0 : ∀ j, j ≠ 14 → j ≠ 0 → τ' 0 j = τ 0 j) : eI σ' z τ' y := by
  obtain ⟨h0, h1, h2, h3, h4, h5, h6⟩ := hI
  exact ⟨h0, h1.same (fx 1 (by omega) (by omega) (by omega)) (fx 2 (by omega) (by omega) (by omega)) (f0 2 (by omega) (by omega)) (fy 1 (by omega) (by omega) (by omega)), h2.same (fun k _ _ => fx k (by omega) (by omega) (by omega)) (f0 4 (by omega) (by omega)) (fy 2 (by omega) (by omega) (by omega)), hP, hA, h5.same (fx 16 (by omega) (by omega) (by omega)) (fy 8 (by omega) (by omega) (by omega)) (fy 7 (by omega) (by omega) (by omega)), h6.same (by rw [fx 10 (by omega) (by omega) (by omega)]) (fun k _ _ => fx k (by omega) (by omega) (by omega)) (f0 17 (by omega) (by omega)) (fun k _ _ => fy k (by omega) (by omega) (by omega))⟩
theorem RA.y0 {σ τ : eSt} (H : RA σ τ) : RA σ (e_up τ 0 0 0) := H.same rfl rfl (up_o _ _ _ (by omega)) (up_n _ _ _ (by omega))
-- what note leaves, and what is written behind it
theorem st_note0 {σ τ : eSt} {z y : Int64} (hI : eI σ z τ y) : ∃ sc σ1 τ1, ScOk sc ∧ RPX σ sc ∧ PgY ((e_up τ 0 0 0) 4) sc ∧ RPX σ1 sc ∧ PgY (τ1 4) sc ∧ fX4_rememberAct σ = some σ1 ∧ fX5_note (e_up τ 0 0 0) = some τ1 ∧ ∀ σ' τ' : eSt, (∀ c, c ≠ 9 → σ' c = σ1 c) → (∀ c, c ≠ 4 → τ' c = τ1 c) → RP σ' τ' → eI σ' z τ' y := by
  obtain ⟨sc, S, PX, PY⟩ := hI.2.2.2.1
  have PY' := PY.same (y00 τ)
  obtain ⟨σ1, τ1, e1, e2, e3, e4, e5, e6⟩ := st_note S PX PY' hI.2.2.2.2.1.y0
  refine ⟨sc, σ1, τ1, S, PX, PY', by unfold RPX; rw [e4 9 (by omega) (by omega)]; exact PX, by rw [e5 4 (by omega) (by omega)]; exact PY', e1, e2, fun σ' τ' hx hy hP => ?_⟩
  refine eI_act hI (e3.same (by rw [hx 0 (by omega)]) (hx 15 (by omega)) (by rw [hy 0 (by omega)]) (hy 6 (by omega))) hP (fun c h0 h15 h9 => by rw [hx c h9, e4 c h0 h15]) (fun c h0 h6 h4 => by rw [hy c h4, e5 c h0 h6, up_n _ _ _ h0]) (fun j hj hj0 => by rw [hy 0 (by omega), e6 j hj, up_o _ _ _ hj0])
theorem row_go {σ τ : eSt} {z y : Int64} (hI : eI σ z τ y) (nx s0 s1 : Int32) (h : s1 + s0 = nx) : ∃ (v : Int32) (σ1 τ1 : eSt), fX4_row_39 σ nx = some (v, σ1) ∧ fX5_row_36 (e_up τ 0 0 0) s0 s1 = some (v, τ1) ∧ eI σ1 z τ1 y := by
  unfold fX4_row_39 fX5_row_36
  simp only [x_isCell, y_noCell, e_bnd_def, Option.bind_some, eB_z, h]
  by_cases h1 : inI nx 0 9 = false
  · exact ⟨-3, σ, _, by rw [h1]; rfl, by rw [h1]; rfl, hI.same (XSame.rfl' σ) (y00 τ)⟩
  replace h1 := b_nf h1
  obtain ⟨n, hn, rfl⟩ := e_inI9 h1
  rw [h1, if_neg b_tf, if_pos b_ntf]
  obtain ⟨sc, σ1, τ1, S, -, -, PX1, PY1, e1, e2, fin⟩ := st_note0 hI
  rw [e1, e2]
  simp only [Option.bind_some]
  obtain ⟨p0, p1, p2, p3, p4, p5, p6⟩ := PX1
  obtain ⟨y0, y1, y2, y3, y4, y5, y6, y7⟩ := PY1
  obtain ⟨s0, s1', s2, s3, s4, s5, s6, s7⟩ := S
  have S' : ScOk (upN sc 0 n) := ⟨hn, s1', s2, s3, s4, s5, s6, s7⟩
  have PX' : RPX (e_up σ1 9 0 (nI n)) (upN sc 0 n) := ⟨up_s _ _ _ _, by rw [up_o _ _ _ (by omega)]; exact p1, by rw [up_o _ _ _ (by omega)]; exact p2, by rw [up_o _ _ _ (by omega)]; exact p3, by rw [up_o _ _ _ (by omega)]; exact p4, by rw [up_o _ _ _ (by omega)]; exact p5, by rw [up_o _ _ _ (by omega)]; exact p6⟩
  have PY' : PgY ((e_up τ1 4 0 (nI n)) 4) (upN sc 0 n) := ⟨up_s _ _ _ _, by rw [up_o _ _ _ (by omega)]; exact y1, by rw [up_o _ _ _ (by omega)]; exact y2, by rw [up_o _ _ _ (by omega)]; exact y3, by rw [up_o _ _ _ (by omega)]; exact y4, by rw [up_o _ _ _ (by omega)]; exact y5, by rw [up_o _ _ _ (by omega)]; exact y6, by rw [up_o _ _ _ (by omega)]; exact y7⟩
  have hE : eI (e_up σ1 9 0 (nI n)) z (e_up τ1 4 0 (nI n)) y := fin _ _ (fun c hc => up_n _ _ _ hc) (fun c hc => up_n _ _ _ hc) ⟨upN sc 0 n, S', PX', PY'⟩
  obtain ⟨cnt, sn, HX, HY⟩ := hE.2.2.1
  refine ⟨nI (setN cnt sn (sc 2) (sc 3) (sc 4) (sc 5) (sc 6) n (sc 1)), _, _, ?_, ?_, hE⟩
  · have q : (e_up σ1 9 0 (nI n)) 9 1 = nI (sc 1) := PX'.2.1
    rw [q, x_setNow HX S' PX' s1']
    rfl
  · have q : (e_up τ1 4 0 (nI n)) 4 1 = nI (sc 1) := PY'.2.1
    rw [q, y_heardAt HY (PY'.hq S') hn s1']
    rfl
theorem st_row : ES_row eI := by
  intro σ z τ y a1 hI
  obtain ⟨sc, S, PX, PY⟩ := hI.2.2.2.1
  have p0 := PX.1
  have y0 : (e_up τ 0 0 0) 4 0 = nI (sc 0) := (PY.same (y00 τ)).1
  unfold fX4_row fX5_row
  simp only [e_in1_2, e_bnd_def, Option.bind_some, eB_z, p0, y0]
  by_cases h1 : a1 = 1
  · subst h1
    rw [if_pos rfl, show inI 1 1 2 = true from by decide, if_neg b_tf, if_pos rfl]
    unfold fX4_row_13
    rw [if_pos rfl, p0]
    exact row_go hI _ _ _ rfl
  · by_cases h2 : a1 = 2
    · subst h2
      rw [if_neg h1, if_pos rfl, show inI 2 1 2 = true from by decide, if_neg b_tf, if_neg h1]
      unfold fX4_row_13
      rw [if_neg h1, p0]
      exact row_go hI _ _ _ (Int32.sub_eq_add_neg _ _).symm
    · rw [if_neg h1, if_neg h2]
      have : inI a1 1 2 = false := by
        cases hh : inI a1 1 2 with
        | false => rfl
        | true =>
          simp only [inI, Bool.and_eq_true, decide_eq_true_eq] at hh
          have q1 := Int32.le_iff_toInt_le.mp hh.1
          have q2 := Int32.le_iff_toInt_le.mp hh.2
          have : a1.toInt = 1 ∨ a1.toInt = 2 := by simp at q1 q2; omega
          rcases this with q | q
          · exact absurd (Int32.toInt_inj.mp (q.trans (by decide))) h1
          · exact absurd (Int32.toInt_inj.mp (q.trans (by decide))) h2
      exact ⟨-2, σ, _, rfl, by rw [this]; rfl, hI.same (XSame.rfl' σ) (y00 τ)⟩
theorem st_hush : ES_hush eI := by
  intro σ z τ y a1 hI
  obtain ⟨cnt, sn, HX, HY⟩ := hI.2.2.1
  have HY' := HY.same (y00 τ)
  have hcn := HX.2.1
  unfold fX4_hush fX5_hush
  simp only [x_has HX, y_noSound HY', e_bnd_def, Option.bind_some, eB_z]
  by_cases h1 : (decide (0 ≤ a1) && decide (a1 < nI cnt)) = false
  · exact ⟨-1, σ, _, by rw [h1]; rfl, by rw [h1]; rfl, hI.same (XSame.rfl' σ) (y00 τ)⟩
  replace h1 := b_nf h1
  obtain ⟨s, hs, rfl⟩ := e_has hcn h1
  rw [h1, if_neg b_tf, if_pos b_ntf]
  obtain ⟨sc, σ1, τ1, S, -, -, PX1, PY1, e1, e2, fin⟩ := st_note0 hI
  rw [e1, e2]
  simp only [Option.bind_some]
  obtain ⟨p0, p1, p2, p3, p4, p5, p6⟩ := PX1
  obtain ⟨y0, y1, y2, y3, y4, y5, y6, y7⟩ := PY1
  obtain ⟨s0, s1, s2, s3, s4, s5, s6, s7⟩ := S
  have h64 : sc 2 ^^^ 2 ^ s < 64 := Nat.xor_lt_two_pow (n := 6) s2 (Nat.pow_lt_pow_right (by decide) (by omega))
  have S' : ScOk (upN sc 2 (sc 2 ^^^ 2 ^ s)) := ⟨s0, s1, h64, s3, s4, s5, s6, s7⟩
  rw [p2, y2, e_sh1 s (by omega), nx_xor]
  have PX' : RPX (e_up σ1 9 2 (nI (sc 2 ^^^ 2 ^ s))) (upN sc 2 (sc 2 ^^^ 2 ^ s)) := ⟨by rw [up_o _ _ _ (by omega)]; exact p0, by rw [up_o _ _ _ (by omega)]; exact p1, up_s _ _ _ _, by rw [up_o _ _ _ (by omega)]; exact p3, by rw [up_o _ _ _ (by omega)]; exact p4, by rw [up_o _ _ _ (by omega)]; exact p5, by rw [up_o _ _ _ (by omega)]; exact p6⟩
  have PY' : PgY ((e_up τ1 4 2 (nI (sc 2 ^^^ 2 ^ s))) 4) (upN sc 2 (sc 2 ^^^ 2 ^ s)) := ⟨by rw [up_o _ _ _ (by omega)]; exact y0, by rw [up_o _ _ _ (by omega)]; exact y1, up_s _ _ _ _, by rw [up_o _ _ _ (by omega)]; exact y3, by rw [up_o _ _ _ (by omega)]; exact y4, by rw [up_o _ _ _ (by omega)]; exact y5, by rw [up_o _ _ _ (by omega)]; exact y6, by rw [up_o _ _ _ (by omega)]; exact y7⟩
  refine ⟨_, _, _, rfl, ?_, fin _ _ (fun c hc => up_n _ _ _ hc) (fun c hc => up_n _ _ _ hc) ⟨_, S', PX', PY'⟩⟩
  rw [up_s, up_s]
theorem st_change : ES_change eI := by
  intro σ z τ y a1 a2 hI
  obtain ⟨sc0, S0, PX0, PY0⟩ := hI.2.2.2.1
  have bad : eI σ z (e_up τ 0 0 0) y := hI.same (XSame.rfl' σ) (y00 τ)
  unfold fX4_change fX5_change
  simp only [e_in0_4, e_in0_2, e_bnd_def, Option.bind_some, eB_z]
  by_cases h1 : a1 < 0
  · exact ⟨-2, σ, _, by rw [if_pos h1], by rw [inI_lo h1]; rfl, bad⟩
  rw [if_neg h1]
  by_cases h2 : 4 < a1
  · exact ⟨-2, σ, _, by rw [if_pos h2], by rw [inI_hi h2]; rfl, bad⟩
  have h12 := inI_t h1 h2
  rw [if_neg h2, h12, if_neg b_tf]
  by_cases h3 : a2 < 0
  · exact ⟨-2, σ, _, by rw [if_pos h3], by rw [inI_lo h3]; rfl, bad⟩
  rw [if_neg h3]
  by_cases h4 : ¬ a2 ≤ 2
  · exact ⟨-2, σ, _, by rw [if_neg h4], by rw [inI_hi (by rw [e_nle] at h4; exact h4)]; rfl, bad⟩
  replace h4 := Classical.not_not.mp h4
  have h34 := inI_t h3 (by rw [e_nlt]; exact h4)
  rw [if_pos h4, h34, if_neg b_tf]
  obtain ⟨r, hr, rfl⟩ := inI_nI (n := 4) (by decide) h12
  obtain ⟨w, hw, rfl⟩ := inI_nI (n := 2) (by decide) h34
  obtain ⟨sc, σ1, τ1, S, PX, PY, PX1, PY1, e1, e2, fin⟩ := st_note0 hI
  obtain ⟨p0, p1, p2, p3, p4, p5, p6⟩ := PX1
  obtain ⟨y0, y1, y2, y3, y4, y5, y6, y7⟩ := PY1
  obtain ⟨s0, s1, s2, s3, s4, s5, s6, s7⟩ := S
  have x5 : σ 9 5 = nI (sc 5) := PX.2.2.2.2.2.1
  have x6 : σ 9 6 = nI (sc 6) := PX.2.2.2.2.2.2
  have z6 : (e_up τ 0 0 0) 4 6 = nI (sc 5) := PY.2.2.2.2.2.2.1
  have z7 : (e_up τ 0 0 0) 4 7 = nI (sc 6) := PY.2.2.2.2.2.2.2
  have e10 : ∀ a b : Nat, (10 : Int32) * nI a + nI b = nI (10 * a + b) := fun a b => by rw [show (10 : Int32) = nI 10 from rfl, pk_mul, nI_add]
  have S' : ScOk (upN (upN sc 5 r) 6 w) := ⟨s0, s1, s2, s3, s4, s5, hr, hw⟩
  simp only [x5, x6, z6, z7, e10, e_eq (show r < 2 ^ 31 by omega) (show sc 5 < 2 ^ 31 by omega), e_eq (show w < 2 ^ 31 by omega) (show sc 6 < 2 ^ 31 by omega), e_eq (show 10 * sc 5 + sc 6 < 2 ^ 31 by omega) (show 10 * r + w < 2 ^ 31 by omega)]
  have go : ∃ (v : Int32) (σ1 τ1 : eSt), fX4_change_46 σ (nI r) (nI w) = some (v, σ1) ∧ ((fX5_note (e_up τ 0 0 0)).bind fun σ5 => some (nI (10 * sc 5 + sc 6), e_up (e_up σ5 4 6 (nI r)) 4 7 (nI w))) = some (v, τ1) ∧ eI σ1 z τ1 y := by
    unfold fX4_change_46
    rw [e1, e2]
    simp only [Option.bind_some, e_bnd_def, p5, p6, e10]
    have PX' : RPX (e_up (e_up σ1 9 5 (nI r)) 9 6 (nI w)) (upN (upN sc 5 r) 6 w) := ⟨by rw [up_o _ _ _ (by omega), up_o _ _ _ (by omega)]; exact p0, by rw [up_o _ _ _ (by omega), up_o _ _ _ (by omega)]; exact p1, by rw [up_o _ _ _ (by omega), up_o _ _ _ (by omega)]; exact p2, by rw [up_o _ _ _ (by omega), up_o _ _ _ (by omega)]; exact p3, by rw [up_o _ _ _ (by omega), up_o _ _ _ (by omega)]; exact p4, by rw [up_o _ _ _ (by omega), up_s]; rfl, up_s _ _ _ _⟩
    have PY' : PgY ((e_up (e_up τ1 4 6 (nI r)) 4 7 (nI w)) 4) (upN (upN sc 5 r) 6 w) := ⟨by rw [up_o _ _ _ (by omega), up_o _ _ _ (by omega)]; exact y0, by rw [up_o _ _ _ (by omega), up_o _ _ _ (by omega)]; exact y1, by rw [up_o _ _ _ (by omega), up_o _ _ _ (by omega)]; exact y2, by rw [up_o _ _ _ (by omega), up_o _ _ _ (by omega)]; exact y3, by rw [up_o _ _ _ (by omega), up_o _ _ _ (by omega)]; exact y4, by rw [up_o _ _ _ (by omega), up_o _ _ _ (by omega)]; exact y5, by rw [up_o _ _ _ (by omega), up_s]; rfl, up_s _ _ _ _⟩
    exact ⟨_, _, _, rfl, rfl, fin _ _ (fun c hc => by rw [up_n _ _ _ hc, up_n _ _ _ hc]) (fun c hc => by rw [up_n _ _ _ hc, up_n _ _ _ hc]) ⟨_, S', PX', PY'⟩⟩
  by_cases q1 : r = sc 5
  · by_cases q2 : w = sc 6
    · exact ⟨-3, σ, _, by rw [if_pos q1, if_pos q2], by rw [if_pos (by omega)], bad⟩
    · rw [if_pos q1, if_neg q2, if_neg (by omega)]
      exact go
  · rw [if_neg q1, if_neg (by omega)]
    exact go
theorem rem10 {a : Nat} (h : a < 2 ^ 31) : e_rem (nI a) 10 = nI (a % 10) := pk_rem h (by decide) (by decide)
theorem st_hour : ES_hour eI := by
  intro σ z τ y hI
  obtain ⟨sc, σ1, τ1, S, -, -, PX1, PY1, e1, e2, fin⟩ := st_note0 hI
  unfold fX4_hour fX5_hour fX4_hourBehind
  rw [e1]
  simp only [e_bnd_def, e2, Option.bind_some]
  obtain ⟨p0, p1, p2, p3, p4, p5, p6⟩ := PX1
  obtain ⟨y0, y1, y2, y3, y4, y5, y6, y7⟩ := PY1
  obtain ⟨s0, s1, s2, s3, s4, s5, s6, s7⟩ := S
  have S' : ScOk (upN sc 1 ((sc 1 + 1) % 10)) := ⟨s0, Nat.mod_lt _ (by decide), s2, s3, s4, s5, s6, s7⟩
  rw [p1, y1, nI_1, rem10 (by omega)]
  have PX' : RPX (e_up σ1 9 1 (nI ((sc 1 + 1) % 10))) (upN sc 1 ((sc 1 + 1) % 10)) := ⟨by rw [up_o _ _ _ (by omega)]; exact p0, up_s _ _ _ _, by rw [up_o _ _ _ (by omega)]; exact p2, by rw [up_o _ _ _ (by omega)]; exact p3, by rw [up_o _ _ _ (by omega)]; exact p4, by rw [up_o _ _ _ (by omega)]; exact p5, by rw [up_o _ _ _ (by omega)]; exact p6⟩
  have PY' : PgY ((e_up τ1 4 1 (nI ((sc 1 + 1) % 10))) 4) (upN sc 1 ((sc 1 + 1) % 10)) := ⟨by rw [up_o _ _ _ (by omega)]; exact y0, up_s _ _ _ _, by rw [up_o _ _ _ (by omega)]; exact y2, by rw [up_o _ _ _ (by omega)]; exact y3, by rw [up_o _ _ _ (by omega)]; exact y4, by rw [up_o _ _ _ (by omega)]; exact y5, by rw [up_o _ _ _ (by omega)]; exact y6, by rw [up_o _ _ _ (by omega)]; exact y7⟩
  refine ⟨_, _, _, rfl, ?_, fin _ _ (fun c hc => up_n _ _ _ hc) (fun c hc => up_n _ _ _ hc) ⟨_, S', PX', PY'⟩⟩
  rw [up_s, up_s]
theorem hv_eq {h c : Nat} (hh : h ≤ 10) (hc : c < 10) : (hv h = nI c) = (h = c) := by
  apply propext
  unfold hv
  by_cases e : h = 10
  · rw [if_pos e]
    constructor
    · intro q
      have := congrArg Int32.toInt q
      rw [nI_toInt (by omega)] at this
      exact absurd this (by simp)
    · intro q; omega
  · rw [if_neg e, e_eq (by omega) (by omega)]
theorem st_hammer : ES_hammer eI := by
  intro σ z τ y a1 hI
  have bad : eI σ z (e_up τ 0 0 0) y := hI.same (XSame.rfl' σ) (y00 τ)
  unfold fX4_hammer fX5_hammer
  simp only [x_isCell, y_noCell, e_bnd_def, Option.bind_some, eB_z]
  by_cases h1 : inI a1 0 9 = false
  · exact ⟨-2, σ, _, by rw [h1]; rfl, by rw [h1]; rfl, bad⟩
  replace h1 := b_nf h1
  obtain ⟨c, hc, rfl⟩ := e_inI9 h1
  rw [h1, if_neg b_tf, if_pos b_ntf]
  obtain ⟨sc, σ1, τ1, S, PX, PY, PX1, PY1, e1, e2, fin⟩ := st_note0 hI
  have S0 := S
  have PX0 := PX
  obtain ⟨-, -, -, x3, x4, -, -⟩ := PX
  obtain ⟨-, -, -, z3, z4, z5, -, -⟩ := PY
  obtain ⟨p0, p1, p2, p3, p4, p5, p6⟩ := PX1
  obtain ⟨y0, y1, y2, y3, y4, y5, y6, y7⟩ := PY1
  obtain ⟨s0, s1, s2, s3, s4, s5, s6, s7⟩ := S
  simp only [x3, x4, z4, e_eq (show sc 3 < 2 ^ 31 by omega) (show c < 2 ^ 31 by omega), e_eq (show sc 4 < 2 ^ 31 by omega) (show c < 2 ^ 31 by omega), hv_eq s3 hc]
  -- the cells behind it, for a new scene
  have done : ∀ (h3 h4 : Nat) (v3 : Int32) (σ2 τ2 : eSt), h3 ≤ 10 → h4 ≤ 10 → (h3 = 10 → h4 = 10) → (∀ c, c ≠ 9 → σ2 c = σ1 c) → (∀ j, j ≠ 3 → j ≠ 4 → σ2 9 j = σ1 9 j) → σ2 9 3 = nI h3 → σ2 9 4 = nI h4 → (∀ c, c ≠ 4 → τ2 c = τ1 c) → (∀ j, j ≠ 3 → j ≠ 4 → j ≠ 5 → τ2 4 j = τ1 4 j) → τ2 4 4 = hv h3 → τ2 4 5 = hv h4 → τ2 4 3 = nI ((if h3 = 10 then 0 else 1) + (if h4 = 10 then 0 else 1)) → ∃ (v : Int32) (σ1 τ1 : eSt), fX4_hammer_83 σ2 = some (v, σ1) ∧ fX5_hammer_156 τ2 = some (v, τ1) ∧ eI σ1 z τ1 y := by
    intro h3 h4 v3 σ2 τ2 g1 g2 g3 g4 g5 g6 g7 g8 g9 g10 g11 g12
    have S' : ScOk (upN (upN sc 3 h3) 4 h4) := ⟨s0, s1, s2, g1, g2, g3, s6, s7⟩
    have PX' : RPX σ2 (upN (upN sc 3 h3) 4 h4) := ⟨by rw [g5 0 (by omega) (by omega)]; exact p0, by rw [g5 1 (by omega) (by omega)]; exact p1, by rw [g5 2 (by omega) (by omega)]; exact p2, g6, g7, by rw [g5 5 (by omega) (by omega)]; exact p5, by rw [g5 6 (by omega) (by omega)]; exact p6⟩
    have PY' : PgY (τ2 4) (upN (upN sc 3 h3) 4 h4) := ⟨by rw [g9 0 (by omega) (by omega) (by omega)]; exact y0, by rw [g9 1 (by omega) (by omega) (by omega)]; exact y1, by rw [g9 2 (by omega) (by omega) (by omega)]; exact y2, g12, g10, g11, by rw [g9 6 (by omega) (by omega) (by omega)]; exact y6, by rw [g9 7 (by omega) (by omega) (by omega)]; exact y7⟩
    unfold fX4_hammer_83 fX5_hammer_156
    rw [x_hc S' PX']
    refine ⟨nI (hcN (upN (upN sc 3 h3) 4 h4)), σ2, τ2, rfl, ?_, fin σ2 τ2 g4 g8 ⟨_, S', PX', PY'⟩⟩
    rw [g12]; rfl
  have z5c : ((e_up τ 0 0 0) 4 5 = nI c) = (sc 4 = c) := by rw [z5, hv_eq s4 hc]
  have hc2 : hcN sc = (if sc 3 = 10 then 0 else 1) + (if sc 4 = 10 then 0 else 1) := rfl
  by_cases q3 : sc 3 = c
  · -- the first one is gone
    rw [if_pos q3, if_pos q3]
    unfold fX4_hammer_32 fX4_hammer_37 fX4_hammer_56 fX5_hammer_30
    rw [if_neg (by decide), e1]
    simp only [Option.bind_some]
    rw [if_neg (by decide)]
    have hy : ∀ x : Int32, fX5_hammer_46 (e_up τ 0 0 0) (nI c) 1 x = fX5_hammer_104 τ1 (τ1 4 5) 4 := by
      intro x
      unfold fX5_hammer_46 fX5_hammer_68 fX5_hammer_80
      rw [if_neg (by decide), e2]
      simp only [Option.bind_some]
      rw [if_neg (by decide), if_neg (by decide)]
    rw [hy, hy, ite_self]
    unfold fX0_takeHammer fX0_takeHammer_16 fX5_hammer_104
    simp only [e_bnd_def, p3, e_eq (show sc 3 < 2 ^ 31 by omega) (show c < 2 ^ 31 by omega)]
    rw [if_pos q3, if_pos (show e_in 4 8 by decide), show (4 : Int32).toNatClampNeg = 4 from by decide]
    simp only [Option.bind_some]
    refine done (sc 4) 10 0 _ _ s4 (by omega) (fun _ => rfl) (fun c hc => by rw [up_n _ _ _ hc, up_n _ _ _ hc]) (fun j h3 h4 => by rw [up_o _ _ _ h4, up_o _ _ _ h3]) (by rw [up_o _ _ _ (by omega), up_s]; exact p4) (up_s _ _ _ _) (fun c hc => by rw [up_n _ _ _ hc, up_n _ _ _ hc, up_n _ _ _ hc]) (fun j h3 h4 h5 => by rw [up_o _ _ _ h3, up_o _ _ _ h5, up_o _ _ _ h4]) (by rw [up_o _ _ _ (by omega), up_o _ _ _ (by omega), up_s]; exact y5) (by rw [up_o _ _ _ (by omega), up_s]; rfl) ?_
    rw [up_s, up_o _ _ _ (by omega), up_o _ _ _ (by omega), y3, hc2, if_neg (by omega), if_pos rfl, show (1 : Int32) = nI 1 from rfl, pk_sub (by omega)]
    congr 1
    omega
  · rw [if_neg q3, if_neg q3]
    by_cases q4 : sc 4 = c
    · -- the second one is gone
      rw [if_pos q4]
      unfold fX4_hammer_32 fX4_hammer_37 fX4_hammer_56 fX5_hammer_30
      rw [if_neg (by decide), e1]
      simp only [Option.bind_some, z5c]
      rw [if_neg (by decide), if_pos q4]
      unfold fX5_hammer_46 fX5_hammer_68 fX5_hammer_80
      rw [if_pos rfl, if_neg (by decide), e2]
      simp only [Option.bind_some]
      rw [if_pos trivial, if_neg (by decide), if_pos trivial]
      unfold fX0_takeHammer fX0_takeHammer_16 fX5_hammer_104
      simp only [e_bnd_def, p3, e_eq (show sc 3 < 2 ^ 31 by omega) (show c < 2 ^ 31 by omega)]
      rw [if_neg q3, if_pos (show e_in 4 8 by decide), show (4 : Int32).toNatClampNeg = 4 from by decide]
      simp only [Option.bind_some]
      refine done (sc 3) 10 0 _ _ s3 (by omega) (fun _ => rfl) (fun c hc => by rw [up_n _ _ _ hc]) (fun j h3 h4 => by rw [up_o _ _ _ h4]) (by rw [up_o _ _ _ (by omega)]; exact p3) (up_s _ _ _ _) (fun c hc => by rw [up_n _ _ _ hc, up_n _ _ _ hc, up_n _ _ _ hc]) (fun j h3 h4 h5 => by rw [up_o _ _ _ h3, up_o _ _ _ h5, up_o _ _ _ h4]) (by rw [up_o _ _ _ (by omega), up_o _ _ _ (by omega), up_s]; exact y4) (by rw [up_o _ _ _ (by omega), up_s]; rfl) ?_
      have n3 : ¬ sc 3 = 10 := fun q => by have := s5 q; omega
      rw [up_s, up_o _ _ _ (by omega), up_o _ _ _ (by omega), y3, hc2, if_neg n3, if_neg (by omega), if_pos rfl]
      decide
    · -- one more
      rw [if_neg q4]
      unfold fX4_hammer_37 fX5_hammer_30
      rw [if_pos rfl, x_hc S0 PX0]
      simp only [Option.bind_some, z5c]
      rw [if_neg q4]
      unfold fX5_hammer_46
      rw [if_pos rfl, if_pos rfl, z3]
      by_cases full : hcN sc = 2
      · exact ⟨-4, σ, _, by rw [full]; rfl, by rw [full]; rfl, bad⟩
      · have hle : hcN sc < 2 := by
          rw [hc2] at full ⊢
          by_cases a : sc 3 = 10 <;> by_cases b : sc 4 = 10 <;> simp [a, b] at full ⊢
        have nf : ¬ nI (hcN sc) = 2 := by rw [show (2 : Int32) = nI 2 from rfl, e_eq (by omega) (by omega)]; exact full
        rw [if_neg nf, if_neg nf]
        unfold fX4_hammer_56 fX5_hammer_68
        rw [e1, e2]
        simp only [Option.bind_some]
        rw [if_pos trivial, if_pos trivial, if_pos trivial]
        unfold fX0_putHammer fX5_hammer_144
        simp only [e_bnd_def, p3, y3, show (10 : Int32) = nI 10 from rfl, e_eq (show sc 3 < 2 ^ 31 by omega) (show 10 < 2 ^ 31 by omega)]
        by_cases q10 : sc 3 = 10
        · have q10' := s5 q10
          have h0 : hcN sc = 0 := by rw [hc2, if_pos q10, if_pos q10']
          rw [if_pos q10, if_pos (show nI (hcN sc) = 0 by rw [h0]; rfl), if_pos (show e_in 4 8 by decide), show (4 : Int32).toNatClampNeg = 4 from by decide]
          simp only [Option.bind_some]
          refine done c 10 0 _ _ (by omega) (by omega) (fun _ => rfl) (fun c hc => by rw [up_n _ _ _ hc]) (fun j h3 h4 => by rw [up_o _ _ _ h3]) (up_s _ _ _ _) (by rw [up_o _ _ _ (by omega), p4, q10']) (fun c hc => by rw [up_n _ _ _ hc, up_n _ _ _ hc]) (fun j h3 h4 h5 => by rw [up_o _ _ _ h3, up_o _ _ _ h4]) (by rw [up_o _ _ _ (by omega), up_s]; unfold hv; rw [if_neg (by omega)]) (by rw [up_o _ _ _ (by omega), up_o _ _ _ (by omega), y5, q10']) ?_
          rw [up_s, up_o _ _ _ (by omega), y3, h0, if_neg (by omega), if_pos rfl]
          decide
        · have q10' : sc 4 = 10 := by
            rw [hc2, if_neg q10] at full
            by_cases b : sc 4 = 10
            · exact b
            · rw [if_neg b] at full; exact absurd rfl full
          have h0 : hcN sc = 1 := by rw [hc2, if_neg q10, if_pos q10']
          rw [if_neg q10, if_neg (show ¬ nI (hcN sc) = 0 by rw [h0]; decide), if_pos (show e_in 5 8 by decide), show (5 : Int32).toNatClampNeg = 5 from by decide]
          simp only [Option.bind_some]
          refine done (sc 3) c 0 _ _ s3 (by omega) (fun q => absurd q q10) (fun c hc => by rw [up_n _ _ _ hc]) (fun j h3 h4 => by rw [up_o _ _ _ h4]) (by rw [up_o _ _ _ (by omega)]; exact p3) (up_s _ _ _ _) (fun c hc => by rw [up_n _ _ _ hc, up_n _ _ _ hc]) (fun j h3 h4 h5 => by rw [up_o _ _ _ h3, up_o _ _ _ h5]) (by rw [up_o _ _ _ (by omega), up_o _ _ _ (by omega)]; exact y4) (by rw [up_o _ _ _ (by omega), up_s]; unfold hv; rw [if_neg (by omega)]) ?_
          rw [up_s, up_o _ _ _ (by omega), y3, h0, if_neg q10, if_neg (by omega)]
          decide
-- ===== undo =====
theorem st_undo : ES_undo eI := by
  intro σ z τ y hI
  have bad : eI σ z (e_up τ 0 0 0) y := hI.same (XSame.rfl' σ) (y00 τ)
  obtain ⟨k, hk, h1, h2, h3⟩ := hI.2.2.2.2.1
  have h2' : (e_up τ 0 0 0) 0 14 = nI k := by rw [up_o _ _ _ (by omega)]; exact h2
  unfold fX4_undo fX5_undo
  simp only [e_bnd_def, h1, h2']
  by_cases k0 : k = 0
  · exact ⟨-3, σ, _, by rw [k0]; rfl, by rw [k0]; rfl, bad⟩
  obtain ⟨m, rfl⟩ : ∃ m, k = m + 1 := ⟨k - 1, by omega⟩
  have em : nI (m + 1) - 1 = nI m := nI_pred m
  rw [if_pos (show (1 : Int32) ≤ nI (m + 1) by rw [show (1 : Int32) = nI 1 from rfl, e_le (by omega) (by omega)]; omega), if_neg (show ¬ nI (m + 1) = 0 by rw [show (0 : Int32) = nI 0 from rfl, e_eq (by omega) (by omega)]; omega), em]
  obtain ⟨sc, S, PY, e15⟩ := h3 m (by omega)
  obtain ⟨σ2, u1, u2, u3⟩ := x_unpack (σ := e_up σ 0 5 (nI m)) S
  have lx : (e_up σ 0 5 (nI m)) 0 5 = nI m := up_s _ _ _ _
  refine ⟨nI m, σ2, filS (e_up (e_up τ 0 0 0) 0 14 (nI m)) 4 (fun j => τ 6 (8 * m + j)) 8, ?_, ?_, ?_⟩
  · rw [lx, if_pos (by rw [e_inN (by omega)]; omega), nI_clamp (by omega), up_n _ _ _ (show 15 ≠ 0 by omega), e15, u1]
    simp only [Option.bind_some]
    rw [u3 0 (by omega), lx]
  · refine (lo_2_fil (N := 8) (c := 4) (v := fun j => τ 6 (8 * m + j)) (ex := fun τ' => some (τ' 0 14, τ')) (by omega) (fun kk i hi => ?_) (fun kk => ?_)).trans ?_
    · unfold bX5_undo_27
      rw [show (8 : Int32) = nI 8 from rfl, if_neg (by rw [e_le (by omega) (by omega)]; omega), filS_n _ _ _ _ (show 0 ≠ 4 by omega), up_s, pk_mul, nI_add]
      simp only [e_inN (show i < 2 ^ 31 by omega), e_inN (show 8 * m + i < 2 ^ 31 by omega), hi, show 8 * m + i < 112 by omega, if_true, e_bnd_def, nI_1, nI_clamp (show i < 2 ^ 31 by omega), nI_clamp (show 8 * m + i < 2 ^ 31 by omega)]
      rw [filS_n _ _ _ _ (show 6 ≠ 4 by omega), up_n _ _ _ (show 6 ≠ 0 by omega), up_n _ _ _ (show 6 ≠ 0 by omega)]
    · unfold bX5_undo_27
      rw [if_pos (by decide)]
    · rw [filS_n _ _ _ _ (show 0 ≠ 4 by omega), up_s]
  · refine eI_act hI ⟨m, by omega, by rw [u3 0 (by omega)]; exact lx, by rw [filS_n _ _ _ _ (by omega), up_s], fun i hi => ?_⟩ ⟨sc, S, u2, ?_⟩ (fun c h0 h15 h9 => by rw [u3 c h9, up_n _ _ _ h0]) (fun c h0 h6 h4 => by rw [filS_n _ _ _ _ h4, up_n _ _ _ h0, up_n _ _ _ h0]) (fun j hj hj0 => by rw [filS_n _ _ _ _ (by omega), up_o _ _ _ hj, up_o _ _ _ hj0])
    · rw [u3 15 (by omega), up_n _ _ _ (by omega), filS_n _ _ _ _ (by omega), up_n _ _ _ (by omega), up_n _ _ _ (by omega)]
      exact h3 i (by omega)
    · obtain ⟨q0, q1, q2, q3, q4, q5, q6, q7⟩ := PY
      refine ⟨?_, ?_, ?_, ?_, ?_, ?_, ?_, ?_⟩
      all_goals rw [filS_c, if_pos (by omega)]
      · exact q0
      · exact q1
      · exact q2
      · exact q3
      · exact q4
      · exact q5
      · exact q6
      · exact q7
-- ===== keep, again =====
theorem in01 {a : Int32} (h1 : ¬ a < 0) (h2 : a < 2) : ∃ s, s < 2 ∧ a = nI s := by
  obtain ⟨j, hj, e⟩ := nI_of h1
  refine ⟨j, ?_, e⟩
  rw [e, show (2 : Int32) = nI 2 from rfl, e_lt hj (by omega)] at h2
  exact h2
theorem in01b {a : Int32} : inI a 0 1 = (decide (¬ a < 0) && decide (a < 2)) := by
  by_cases h1 : a < 0
  · rw [inI_lo h1]; simp [h1]
  · by_cases h2 : a < 2
    · obtain ⟨s, hs, rfl⟩ := in01 h1 h2
      rcases (show s = 0 ∨ s = 1 by omega) with rfl | rfl <;> decide
    · have : (1 : Int32) < a := by
        rw [e_nlt] at h2
        rw [Int32.lt_iff_toInt_lt]; have := Int32.le_iff_toInt_le.mp h2; simp at this ⊢; omega
      rw [inI_hi this]; simp [h1, h2]
theorem eI_slot {σ τ σ' τ' : eSt} {z y : Int64} (hI : eI σ z τ y) (hK : RK σ' τ') (fx : ∀ c, c ≠ 16 → σ' c = σ c) (fy : ∀ c, c ≠ 0 → c ≠ 7 → c ≠ 8 → τ' c = τ c) (f0 : ∀ j, j ≠ 0 → τ' 0 j = τ 0 j) : eI σ' z τ' y := by
  obtain ⟨h0, h1, h2, h3, h4, h5, h6⟩ := hI
  exact ⟨h0, h1.same (fx 1 (by omega)) (fx 2 (by omega)) (f0 2 (by omega)) (fy 1 (by omega) (by omega) (by omega)), h2.same (fun k _ _ => fx k (by omega)) (f0 4 (by omega)) (fy 2 (by omega) (by omega) (by omega)), h3.same (fx 9 (by omega)) (fy 4 (by omega) (by omega) (by omega)), h4.same (by rw [fx 0 (by omega)]) (fx 15 (by omega)) (f0 14 (by omega)) (fy 6 (by omega) (by omega) (by omega)), hK, h6.same (by rw [fx 10 (by omega)]) (fun k _ _ => fx k (by omega)) (f0 17 (by omega)) (fun k _ _ => fy k (by omega) (by omega) (by omega))⟩
theorem st_keep : ES_keep eI := by
  intro σ z τ y a1 hI
  have bad : eI σ z (e_up τ 0 0 0) y := hI.same (XSame.rfl' σ) (y00 τ)
  obtain ⟨sc, S, PX, PY⟩ := hI.2.2.2.1
  unfold fX4_keep fX5_keep
  simp only [e_in0_1, e_bnd_def, Option.bind_some, eB_z, in01b]
  by_cases h1 : a1 < 0
  · exact ⟨-1, σ, _, by rw [if_pos h1], by simp [h1], bad⟩
  rw [if_neg h1]
  by_cases h2 : ¬ a1 < 2
  · exact ⟨-1, σ, _, by rw [if_neg h2], by simp [h2], bad⟩
  replace h2 := Classical.not_not.mp h2
  obtain ⟨s, hs, rfl⟩ := in01 h1 h2
  have hin : e_in (nI s) 2 := by rw [e_inN (by omega)]; exact hs
  have cl : (nI s).toNatClampNeg = s := nI_clamp (by omega)
  have b1 : vp_nar .boolean 1 = 1 := by decide +kernel
  have hcd : ¬ ((decide (¬ nI s < 0) && decide (nI s < 2)) = false) := by simp [h1, h2]
  rw [if_pos h2, if_neg hcd, x_packed S PX, b1]
  simp only [Option.bind_some]
  rw [if_pos hin, if_pos hin, cl]
  obtain ⟨τ2, ⟨j1, j2⟩, hl⟩ := re_cs (b := bX5_keep_26 (nI s)) (N := 8) (fun i τ' => (∀ c, c ≠ 7 → τ' c = (e_up (e_up τ 0 0 0) 8 s 1) c) ∧ ∀ j, τ' 7 j = if 8 * s ≤ j ∧ j < 8 * s + i then τ 4 (j - 8 * s) else τ 7 j) (fun τ' => some (τ' 4 1, τ')) (fun i τ' hi hJ => by
      obtain ⟨hJ1, hJ2⟩ := hJ
      refine ⟨e_up τ' 7 (8 * s + i) (τ 4 i), fun kk => ?_, fun c hc => by rw [up_n _ _ _ hc]; exact hJ1 c hc, fun j => ?_⟩
      · unfold bX5_keep_26
        rw [show (8 : Int32) = nI 8 from rfl, if_neg (by rw [e_le (by omega) (by omega)]; omega), hJ1 4 (by omega), up_n _ _ _ (show 4 ≠ 8 by omega), up_n _ _ _ (show 4 ≠ 0 by omega), pk_mul, nI_add]
        simp only [e_inN (show i < 2 ^ 31 by omega), e_inN (show 8 * s + i < 2 ^ 31 by omega), hi, show 8 * s + i < 16 by omega, if_true, e_bnd_def, nI_1, nI_clamp (show i < 2 ^ 31 by omega), nI_clamp (show 8 * s + i < 2 ^ 31 by omega)]
      · by_cases hj : j = 8 * s + i
        · rw [hj, up_s, if_pos (by omega), show 8 * s + i - 8 * s = i by omega]
        · rw [up_o _ _ _ hj, hJ2]
          by_cases h3 : 8 * s ≤ j ∧ j < 8 * s + i
          · rw [if_pos h3, if_pos (by omega)]
          · rw [if_neg h3, if_neg (by omega)]) (fun kk τ' _ => by
      unfold bX5_keep_26
      rw [if_pos (by decide)]) 8 1000 0 (e_up (e_up τ 0 0 0) 8 s 1) (by omega) (by omega) ⟨fun _ _ => rfl, fun j => by rw [if_neg (by omega), up_n _ _ _ (by omega), up_n _ _ _ (by omega)]⟩
  have t41 : τ2 4 1 = nI (sc 1) := by rw [j1 4 (by omega), up_n _ _ _ (by omega), up_n _ _ _ (by omega)]; exact PY.2.1
  refine ⟨nI (sc 1), e_up σ 16 s (nI (packN sc)), τ2, ?_, ?_, eI_slot hI ?_ (fun c hc => up_n _ _ _ hc) (fun c h0 h7 h8 => by rw [j1 c h7, up_n _ _ _ h8, up_n _ _ _ h0]) (fun j hj => by rw [j1 0 (by omega), up_n _ _ _ (by omega), up_o _ _ _ hj])⟩
  · rw [up_n _ _ _ (show 9 ≠ 16 by omega), PX.2.1]
  · exact hl.trans (by rw [t41])
  · intro r hr
    have t8 : τ2 8 = (e_up (e_up τ 0 0 0) 8 s 1) 8 := j1 8 (by omega)
    by_cases e : r = s
    · subst e
      refine Or.inr ⟨by rw [t8, up_s], sc, S, ?_, up_s _ _ _ _⟩
      have pg : ∀ j, j < 8 → τ2 7 (8 * r + j) = τ 4 j := fun j hj => by rw [j2, if_pos (by omega), show 8 * r + j - 8 * r = j by omega]
      obtain ⟨q0, q1, q2, q3, q4, q5, q6, q7⟩ := PY
      exact ⟨(pg 0 (by omega)).trans q0, (pg 1 (by omega)).trans q1, (pg 2 (by omega)).trans q2, (pg 3 (by omega)).trans q3, (pg 4 (by omega)).trans q4, (pg 5 (by omega)).trans q5, (pg 6 (by omega)).trans q6, (pg 7 (by omega)).trans q7⟩
    · rw [t8, up_o _ _ _ e, up_o _ _ _ e, up_n _ _ _ (show 8 ≠ 0 by omega)]
      have pg : ∀ j, j < 8 → τ2 7 (8 * r + j) = τ 7 (8 * r + j) := fun j hj => by rw [j2, if_neg (by omega)]
      rcases hI.2.2.2.2.2.1 r hr with hk | ⟨hk1, sc2, S2, P2, hk2⟩
      · exact Or.inl hk
      · obtain ⟨q0, q1, q2, q3, q4, q5, q6, q7⟩ := P2
        exact Or.inr ⟨hk1, sc2, S2, ⟨(pg 0 (by omega)).trans q0, (pg 1 (by omega)).trans q1, (pg 2 (by omega)).trans q2, (pg 3 (by omega)).trans q3, (pg 4 (by omega)).trans q4, (pg 5 (by omega)).trans q5, (pg 6 (by omega)).trans q6, (pg 7 (by omega)).trans q7⟩, hk2⟩
theorem st_again : ES_again eI := by
  intro σ z τ y a1 hI
  have bad : eI σ z (e_up τ 0 0 0) y := hI.same (XSame.rfl' σ) (y00 τ)
  unfold fX4_again fX5_again
  simp only [e_in0_1, e_bnd_def, Option.bind_some, eB_z, in01b]
  by_cases h1 : a1 < 0
  · exact ⟨-1, σ, _, by rw [if_pos h1], by simp [h1], bad⟩
  rw [if_neg h1]
  by_cases h2 : ¬ a1 < 2
  · exact ⟨-1, σ, _, by rw [if_neg h2], by simp [h2], bad⟩
  replace h2 := Classical.not_not.mp h2
  obtain ⟨s, hs, rfl⟩ := in01 h1 h2
  have hin : e_in (nI s) 2 := by rw [e_inN (by omega)]; exact hs
  have cl : (nI s).toNatClampNeg = s := nI_clamp (by omega)
  have t8 : (e_up τ 0 0 0) 8 s = τ 8 s := by rw [up_n _ _ _ (by omega)]
  have hcd : ¬ ((decide (¬ nI s < 0) && decide (nI s < 2)) = false) := by simp [h1, h2]
  rw [if_pos h2, if_neg hcd, if_pos hin, if_pos hin, if_pos hin, cl, t8]
  rcases hI.2.2.2.2.2.1 s hs with ⟨k1, k2⟩ | ⟨k1, sc, S, P, k2⟩
  · exact ⟨-3, σ, _, by rw [k1]; rfl, by rw [k2]; rfl, bad⟩
  · have pl := packN_lt S
    have hne : ¬ nI (packN sc) = -1 := by
      intro q
      have := congrArg Int32.toInt q
      rw [nI_toInt (by omega)] at this
      exact absurd this (by simp)
    obtain ⟨σ2, u1, u2, u3⟩ := x_unpack (σ := σ) S
    rw [k2, if_neg hne, u1, k1]
    simp only [Option.bind_some]
    rw [if_neg (by decide)]
    refine ⟨nI (sc 1), e_up σ2 0 5 0, e_up (filS (e_up τ 0 0 0) 4 (fun j => τ 7 (8 * s + j)) 8) 0 14 0, ?_, ?_, ?_⟩
    · rw [up_n _ _ _ (show 9 ≠ 0 by omega), u2.2.1]
    · refine (lo_2_fil (N := 8) (c := 4) (v := fun j => τ 7 (8 * s + j)) (ex := fun τ' => some ((e_up τ' 0 14 0) 4 1, e_up τ' 0 14 0)) (by omega) (fun kk i hi => ?_) (fun kk => ?_)).trans ?_
      · unfold bX5_again_31
        rw [show (8 : Int32) = nI 8 from rfl, if_neg (by rw [e_le (by omega) (by omega)]; omega), pk_mul, nI_add]
        simp only [e_inN (show i < 2 ^ 31 by omega), e_inN (show 8 * s + i < 2 ^ 31 by omega), hi, show 8 * s + i < 16 by omega, if_true, e_bnd_def, nI_1, nI_clamp (show i < 2 ^ 31 by omega), nI_clamp (show 8 * s + i < 2 ^ 31 by omega)]
        rw [filS_n _ _ _ _ (show 7 ≠ 4 by omega), up_n _ _ _ (show 7 ≠ 0 by omega)]
      · unfold bX5_again_31
        rw [if_pos (by decide)]
        rfl
      · rw [up_n _ _ _ (show 4 ≠ 0 by omega), filS_c, if_pos (by omega), show τ 7 (8 * s + 1) = nI (sc 1) from P.2.1]
    · refine eI_act hI ⟨0, by omega, up_s _ _ _ _, up_s _ _ _ _, fun i hi => by omega⟩ ⟨sc, S, ?_, ?_⟩ (fun c h0 h15 h9 => by rw [up_n _ _ _ h0, u3 c h9]) (fun c h0 h6 h4 => by rw [up_n _ _ _ h0, filS_n _ _ _ _ h4, up_n _ _ _ h0]) (fun j hj hj0 => by rw [up_o _ _ _ hj, filS_n _ _ _ _ (by omega), up_o _ _ _ hj0])
      · unfold RPX
        rw [up_n _ _ _ (show 9 ≠ 0 by omega)]
        exact u2
      · rw [up_n _ _ _ (show 4 ≠ 0 by omega)]
        obtain ⟨q0, q1, q2, q3, q4, q5, q6, q7⟩ := P
        refine ⟨?_, ?_, ?_, ?_, ?_, ?_, ?_, ?_⟩
        all_goals rw [filS_c, if_pos (by omega)]
        · exact q0
        · exact q1
        · exact q2
        · exact q3
        · exact q4
        · exact q5
        · exact q6
        · exact q7

/-! math 5: sure, spared, bestHours, days -/
def sndN (cnt : Nat) (sn : Nat → Nat → Nat) (hu ra wi c h : Nat) : Nat := orN (fun s => !hu.testBit s && hB sn ra wi s c h) cnt
theorem x_fillSoundSets {σ : eSt} {cnt : Nat} {sn : Nat → Nat → Nat} (H : RSX σ cnt sn) {hu ra wi h : Nat} (hh : hu < 64) (h2 : σ 9 2 = nI hu) (h5 : σ 9 5 = nI ra) (h6 : σ 9 6 = nI wi) (hh2 : h < 10) : fX4_fillSoundSets σ (nI h) = some (filS σ 17 (fun c => nI (sndN cnt sn hu ra wi c h)) 10) := by
  unfold fX4_fillSoundSets
  refine lo_2_fil (ex := fun σ' => some σ') (by omega) (fun k c hc => ?_) (fun k => ?_)
  · have hs : XSame σ (filS σ 17 (fun c => nI (sndN cnt sn hu ra wi c h)) c) := XSame.fil σ _ _ (by omega)
    unfold bX4_fillSoundSets_2
    rw [show (10 : Int32) = nI 10 from rfl, if_neg (by rw [e_le (by omega) (by omega)]; omega), x_soundSet (H.same hs) hh (by rw [hs 9 (by omega)]; exact h2) (by rw [hs 9 (by omega)]; exact h5) (by rw [hs 9 (by omega)]; exact h6) hh2]
    simp only [Option.bind_some, e_inN (show c < 2 ^ 31 by omega), hc, if_true, e_bnd_def, nI_1, nI_clamp (show c < 2 ^ 31 by omega)]
    rfl
  · unfold bX4_fillSoundSets_2
    rw [if_pos (by decide)]
theorem x_fillSets {σ : eSt} {Sd : Nat → Nat} {h1 h2 ra wi : Nat} (h17 : ∀ c, c < 10 → σ 17 c = nI (Sd c)) (h5 : σ 9 5 = nI ra) (h6 : σ 9 6 = nI wi) (q1 : h1 ≤ 10) (q2 : h2 ≤ 10) : fX4_fillSets σ (nI h1) (nI h2) = some (filS σ 18 (fun c => nI (Sd c ||| hmN h1 h2 c ra wi)) 10) := by
  unfold fX4_fillSets
  refine lo_2_fil (ex := fun σ' => some σ') (by omega) (fun k c hc => ?_) (fun k => ?_)
  · have hs : XSame σ (filS σ 18 (fun c => nI (Sd c ||| hmN h1 h2 c ra wi)) c) := XSame.fil σ _ _ (by omega)
    unfold bX4_fillSets_2
    rw [show (10 : Int32) = nI 10 from rfl, if_neg (by rw [e_le (by omega) (by omega)]; omega), x_hammerSet (by rw [hs 9 (by omega)]; exact h5) (by rw [hs 9 (by omega)]; exact h6) q1 q2]
    simp only [Option.bind_some, e_inN (show c < 2 ^ 31 by omega), hc, if_true, e_bnd_def, nI_1, nI_clamp (show c < 2 ^ 31 by omega)]
    rw [filS_n _ _ _ _ (show 17 ≠ 18 by omega), h17 c hc, nx_or]
  · unfold bX4_fillSets_2
    rw [if_pos (by decide)]
theorem x_fillSetsNow {σ : eSt} {cnt : Nat} {sn : Nat → Nat → Nat} (H : RSX σ cnt sn) {sc : Nat → Nat} (S : ScOk sc) (P : RPX σ sc) {h : Nat} (hh : h < 10) : ∃ σ2, fX4_fillSetsNow σ (nI h) = some σ2 ∧ XSame σ σ2 ∧ (∀ c, c < 10 → σ2 18 c = nI (setN cnt sn (sc 2) (sc 3) (sc 4) (sc 5) (sc 6) c h)) ∧ ∀ k, 19 ≤ k → σ2 k = σ k := by
  obtain ⟨p0, p1, p2, p3, p4, p5, p6⟩ := P
  obtain ⟨s0, s1, s2, s3, s4, s5, s6, s7⟩ := S
  unfold fX4_fillSetsNow
  rw [x_fillSoundSets H s2 p2 p5 p6 hh]
  simp only [Option.bind_some]
  have hs : XSame σ (filS σ 17 (fun c => nI (sndN cnt sn (sc 2) (sc 5) (sc 6) c h)) 10) := XSame.fil σ _ _ (by omega)
  have k9 := hs 9 (by omega)
  rw [k9, p3, p4, x_fillSets (Sd := fun c => sndN cnt sn (sc 2) (sc 5) (sc 6) c h) (ra := sc 5) (wi := sc 6) (fun c hc => by rw [filS_c, if_pos hc]) (by rw [k9]; exact p5) (by rw [k9]; exact p6) s3 s4]
  refine ⟨_, rfl, hs.trans' (XSame.fil _ _ _ (by omega)), fun c hc => ?_, fun k hk => ?_⟩
  · rw [filS_c, if_pos hc]; rfl
  · rw [filS_n _ _ _ _ (show k ≠ 18 by omega), filS_n _ _ _ _ (show k ≠ 17 by omega)]
theorem has1024 : ∀ n, n < 1024 → ∀ c, c < 10 → fX5_has (nI n) (nI c) = some (eB (n.testBit c)) := by decide +kernel
theorem m192 {M : Nat} (h : M < 256) : M ||| 192 < 256 := Nat.or_lt_two_pow (n := 8) h (by decide)
theorem x_sureCount {σ : eSt} {F : Nat → Nat} {M : Nat} (hF : ∀ c, c < 10 → σ 18 c = nI (F c)) (hl : ∀ c, c < 10 → F c < 256) (hM : M < 256) : fX4_sureCount σ (nI M) = some (nI (pcN (sureS (fun c => F c &&& (M ||| 192))))) := by
  unfold fX4_sureCount
  rw [show (192 : Int32) = nI 192 from rfl, nx_or, x_sureCells hF hl (m192 hM)]
  simp only [Option.bind_some]
  rw [bc_x _ (sureS_lt _)]
  rfl
theorem x_isSure {σ : eSt} {F : Nat → Nat} {M c : Nat} (hF : ∀ c, c < 10 → σ 18 c = nI (F c)) (hl : ∀ c, c < 10 → F c < 256) (hM : M < 256) (hc : c < 10) : fX4_isSure σ (nI c) (nI M) = some (eB ((sureS (fun c => F c &&& (M ||| 192))).testBit c)) := by
  unfold fX4_isSure
  rw [show (192 : Int32) = nI 192 from rfl, nx_or, x_sureCells hF hl (m192 hM)]
  exact has1024 _ (sureS_lt _) c hc
-- masks
theorem b192 : ∀ i, (192 : Nat).testBit i = decide (i = 6 ∨ i = 7) := by
  intro i
  rcases Nat.lt_or_ge i 8 with h | h
  · exact (by decide +kernel : ∀ i, i < 8 → (192 : Nat).testBit i = decide (i = 6 ∨ i = 7)) i h
  · rw [Nat.testBit_lt_two_pow (Nat.lt_of_lt_of_le (by decide : 192 < 2 ^ 8) (Nat.pow_le_pow_right (by decide) h))]
    simp; omega
theorem hmN_bit (h1 h2 c ra wi i : Nat) : (hmN h1 h2 c ra wi).testBit i = ((decide (i = 6) && hmB h1 c ra wi) || (decide (i = 7) && hmB h2 c ra wi)) := by
  unfold hmN
  rw [Nat.testBit_or]
  congr 1
  · cases hmB h1 c ra wi
    · simp
    · rw [if_pos rfl, show (64 : Nat) = 2 ^ 6 from rfl, Nat.testBit_two_pow]; simp; omega
  · cases hmB h2 c ra wi
    · simp
    · rw [if_pos rfl, show (128 : Nat) = 2 ^ 7 from rfl, Nat.testBit_two_pow]; simp; omega
theorem setN_bit {cnt : Nat} (sn : Nat → Nat → Nat) (hu h1 h2 ra wi c h i : Nat) : (setN cnt sn hu h1 h2 ra wi c h).testBit i = ((decide (i < cnt) && (!hu.testBit i && hB sn ra wi i c h)) || ((decide (i = 6) && hmB h1 c ra wi) || (decide (i = 7) && hmB h2 c ra wi))) := by
  unfold setN
  rw [Nat.testBit_or, orN_bit, hmN_bit]
theorem setN_congr {cnt : Nat} (sn : Nat → Nat → Nat) {hu hu' : Nat} (h1 h2 ra wi c h : Nat) (e : ∀ s, s < cnt → hu.testBit s = hu'.testBit s) : setN cnt sn hu h1 h2 ra wi c h = setN cnt sn hu' h1 h2 ra wi c h := by
  unfold setN
  rw [orN_congr (fun i hi => by rw [e i hi])]
theorem setN_mask {cnt : Nat} (hc : cnt ≤ 6) (sn : Nat → Nat → Nat) {hu hu' M : Nat} (h1 h2 ra wi c h : Nat) (e : ∀ s, s < cnt → (!hu'.testBit s) = (!hu.testBit s && M.testBit s)) : setN cnt sn hu h1 h2 ra wi c h &&& (M ||| 192) = setN cnt sn hu' h1 h2 ra wi c h := by
  apply Nat.eq_of_testBit_eq
  intro i
  rw [Nat.testBit_and, Nat.testBit_or, setN_bit, setN_bit, b192]
  by_cases h6 : i = 6 ∨ i = 7
  · simp [h6, show ¬ i < cnt by omega]
  · have e6 : ¬ i = 6 := by omega
    have e7 : ¬ i = 7 := by omega
    by_cases hi : i < cnt
    · rw [e i hi]
      simp [e6, e7, hi]
      cases hu.testBit i <;> cases hB sn ra wi i c h <;> cases M.testBit i <;> rfl
    · simp [e6, e7, hi]
theorem setN_255 {cnt : Nat} (hc : cnt ≤ 6) (sn : Nat → Nat → Nat) (hu h1 h2 ra wi c h : Nat) : setN cnt sn hu h1 h2 ra wi c h &&& 255 = setN cnt sn hu h1 h2 ra wi c h := Nat.and_two_pow_sub_one_of_lt_two_pow (n := 8) (setN_lt hc sn hu h1 h2 ra wi c h)
theorem liveN_bit (c hu i : Nat) : (liveN c hu).testBit i = (decide (i < c) && !hu.testBit i) := orN_bit _ _ _
theorem liveN_lt {c : Nat} (hc : c ≤ 6) (hu : Nat) : liveN c hu < 64 := Nat.lt_of_lt_of_le (orN_lt _ _) (Nat.pow_le_pow_right (n := 2) (by decide) hc)
theorem b63 (i : Nat) : (63 : Nat).testBit i = decide (i < 6) := Nat.testBit_two_pow_sub_one 6 i
theorem and_not : ∀ L, L < 64 → ∀ f, f < 64 → (nI L) &&& ((nI f) ^^^ (-1)) = nI (L &&& (63 ^^^ f)) := by decide +kernel
theorem live_or {c : Nat} (hc : c ≤ 6) (hu f : Nat) : liveN c hu &&& (63 ^^^ f) = liveN c (hu ||| f) := by
  apply Nat.eq_of_testBit_eq
  intro i
  rw [Nat.testBit_and, Nat.testBit_xor, liveN_bit, liveN_bit, b63, Nat.testBit_or]
  by_cases hi : i < c
  · simp [hi, show i < 6 by omega]
  · simp [hi]
/-- the class's mask of the sounds left: what is heard then -/
theorem setN_live {cnt : Nat} (hc : cnt ≤ 6) (sn : Nat → Nat → Nat) (hu f h1 h2 ra wi c h : Nat) : setN cnt sn hu h1 h2 ra wi c h &&& (liveN cnt (hu ||| f) ||| 192) = setN cnt sn (hu ||| f) h1 h2 ra wi c h := by
  apply setN_mask hc
  intro s hs
  rw [liveN_bit, Nat.testBit_or]
  simp [hs]
-- the reference: begin
theorem y_begin (τ : eSt) : fX5_begin τ = some (filS τ 5 (fun j => τ 4 j) 8) := by
  unfold fX5_begin
  refine lo_2_fil (ex := fun σ' => some σ') (by omega) (fun k i hi => ?_) (fun k => ?_)
  · unfold bX5_begin_2
    rw [show (8 : Int32) = nI 8 from rfl, if_neg (by rw [e_le (by omega) (by omega)]; omega)]
    simp only [e_inN (show i < 2 ^ 31 by omega), hi, if_true, e_bnd_def, nI_1, nI_clamp (show i < 2 ^ 31 by omega)]
    rw [filS_n _ _ _ _ (show 4 ≠ 5 by omega)]
  · unfold bX5_begin_2
    rw [if_pos (by decide)]
def yB (τ : eSt) : eSt := filS τ 5 (fun j => τ 4 j) 8
theorem y_begin' (τ : eSt) : fX5_begin τ = some (yB τ) := y_begin τ
theorem yB_same (τ : eSt) : YSame τ (yB τ) := YSame.fil τ _ _ (by omega)
theorem yB_5 (τ : eSt) {j : Nat} (hj : j < 8) : yB τ 5 j = τ 4 j := by unfold yB; rw [filS_c, if_pos hj]
theorem yB_4 (τ : eSt) : yB τ 4 = τ 4 := filS_n _ _ _ _ (by omega)
theorem yB_hq {τ : eSt} {sc : Nat → Nat} (S : ScOk sc) (PY : PgY (τ 4) sc) : HQ (yB τ) 5 (sc 2) (sc 3) (sc 4) (sc 5) (sc 6) := by
  obtain ⟨p0, p1, p2, p3, p4, p5, p6, p7⟩ := PY
  obtain ⟨s0, s1, s2, s3, s4, s5, s6, s7⟩ := S
  unfold HQ
  rw [yB_5 τ (by omega), yB_5 τ (by omega), yB_5 τ (by omega), yB_5 τ (by omega), yB_5 τ (by omega)]
  exact ⟨p2, p4, p5, p6, p7, s2, s3, s4, s7⟩
theorem y_trial {τ : eSt} {cnt : Nat} {sn : Nat → Nat → Nat} (HY : RSY τ cnt sn) {sc : Nat → Nat} (S : ScOk sc) (PY : PgY (τ 4) sc) {hu h : Nat} (hu6 : hu < 64) (hh : h < 10) : ∃ τ', YSame τ τ' ∧ fX5_sureAt (e_up (yB τ) 5 2 (nI hu)) 5 (nI h) = some (nI (sureS (fun c => setN cnt sn hu (sc 3) (sc 4) (sc 5) (sc 6) c h)), τ') := by
  have Q := yB_hq S PY
  have hs : YSame τ (e_up (yB τ) 5 2 (nI hu)) := (yB_same τ).trans' (YSame.upk _ _ _ (by omega))
  have Q' : HQ (e_up (yB τ) 5 2 (nI hu)) 5 hu (sc 3) (sc 4) (sc 5) (sc 6) := by
    obtain ⟨p2, p4, p5, p6, p7, s2, s3, s4, s7⟩ := Q
    unfold HQ
    rw [up_s, up_o _ _ _ (show 4 ≠ 2 by omega), up_o _ _ _ (show 5 ≠ 2 by omega), up_o _ _ _ (show 6 ≠ 2 by omega), up_o _ _ _ (show 7 ≠ 2 by omega)]
    exact ⟨rfl, p4, p5, p6, p7, hu6, s3, s4, s7⟩
  exact ⟨_, hs.trans' (YSame.fil _ _ _ (by omega)), y_sureAt (HY.same hs) (Or.inr rfl) Q' hh⟩
-- ===== sure =====
theorem st_sure : ES_sure eI := by
  intro σ z τ y a1 hI
  obtain ⟨cnt, sn, HX, HY⟩ := hI.2.2.1
  obtain ⟨sc, S, PX, PY⟩ := hI.2.2.2.1
  have hys := y00 τ
  have HY' := HY.same hys
  have PY' := PY.same hys
  unfold fX4_sure fX5_sure
  simp only [x_isHour, y_noHour, e_bnd_def, Option.bind_some, eB_z]
  by_cases h1 : inI a1 0 9 = true
  · obtain ⟨h, hh, rfl⟩ := e_inI9 h1
    obtain ⟨σ2, e1, e2, e3, -⟩ := x_fillSetsNow HX S PX hh
    refine ⟨nI (sureS (fun c => setN cnt sn (sc 2) (sc 3) (sc 4) (sc 5) (sc 6) c h)), σ2, filS (e_up τ 0 0 0) 13 (fun c => nI (setN cnt sn (sc 2) (sc 3) (sc 4) (sc 5) (sc 6) c h)) 10, ?_, ?_, hI.same e2 (hys.trans' (YSame.fil (c := 13) _ _ _ (by omega)))⟩
    · rw [h1, if_neg b_tf, e1]
      simp only [Option.bind_some]
      rw [show (255 : Int32) = nI 255 from rfl, x_sureCells e3 (fun c _ => setN_lt HX.2.1 sn _ _ _ _ _ c h) (by omega)]
      simp only [setN_255 HX.2.1, Option.bind_some]
    · rw [h1, if_pos b_ntf, y_sureAt HY' (Or.inl rfl) (PY'.hq S) hh]
      rfl
  · exact ⟨-2, σ, _, by rw [b_nt h1]; rfl, by rw [b_nt h1]; rfl, hI.same (XSame.rfl' σ) hys⟩
-- ===== spared =====
def spU (v : Nat → Nat) (s : Nat) (x : Option (Nat × Nat)) : Option (Nat × Nat) := match x with
  | none => some (s, v s)
  | some p => if v s < p.2 then some (s, v s) else some p
def spG (cnt : Nat) (v : Nat → Nat) (hu : Nat) (s : Nat) (x : Option (Nat × Nat)) : Option (Nat × Nat) := if hu.testBit s = true then x else spU v s x
theorem spG_t {cnt : Nat} {v : Nat → Nat} {hu s : Nat} {x : Option (Nat × Nat)} (h : hu.testBit s = true) : spG cnt v hu s x = x := if_pos h
theorem spG_f {cnt : Nat} {v : Nat → Nat} {hu s : Nat} {x : Option (Nat × Nat)} (h : hu.testBit s = false) : spG cnt v hu s x = spU v s x := if_neg (by rw [h]; simp)
theorem spU_n (v : Nat → Nat) (s : Nat) : spU v s none = some (s, v s) := rfl
theorem spU_s (v : Nat → Nat) (s : Nat) (p : Nat × Nat) : spU v s (some p) = if v s < p.2 then some (s, v s) else some p := rfl
theorem spU_le {v : Nat → Nat} {s : Nat} {x : Option (Nat × Nat)} (hv : v s ≤ 10) (hx : ∀ p, x = some p → p.2 ≤ 10) : ∀ p, spU v s x = some p → p.2 ≤ 10 := by
  intro p hp
  cases x with
  | none => rw [spU_n] at hp; cases hp; exact hv
  | some q =>
    rw [spU_s] at hp
    by_cases h : v s < q.2
    · rw [if_pos h] at hp; cases hp; exact hv
    · rw [if_neg h] at hp; exact hx p hp
def spF (x : Option (Nat × Nat)) : Int32 := match x with
  | none => -9
  | some p => nI p.1
def spL (top : Int32) (x : Option (Nat × Nat)) : Int32 := match x with
  | none => top
  | some p => nI p.2
theorem st_spared : ES_spared eI := by
  intro σ z τ y a1 hI
  obtain ⟨cnt, sn, HX, HY⟩ := hI.2.2.1
  obtain ⟨sc, S, PX, PY⟩ := hI.2.2.2.1
  have hys := y00 τ
  have HY' := HY.same hys
  have PY' := PY.same hys
  have hcn := HX.2.1
  have hu6 := S.2.2.1
  unfold fX4_spared fX5_spared
  simp only [x_isHour, y_noHour, e_bnd_def, Option.bind_some, eB_z]
  by_cases h1 : inI a1 0 9 = false
  · exact ⟨-2, σ, _, by rw [h1]; rfl, by rw [h1]; rfl, hI.same (XSame.rfl' σ) hys⟩
  replace h1 := b_nf h1
  obtain ⟨h, hh, rfl⟩ := e_inI9 h1
  obtain ⟨σ2, e1, e2, e3, -⟩ := x_fillSetsNow HX S PX hh
  have HX2 := HX.same e2
  have PX2 := PX.same e2
  generalize hv : (fun s => pcN (sureS (fun c => setN cnt sn (sc 2 ||| 2 ^ s) (sc 3) (sc 4) (sc 5) (sc 6) c h))) = v
  have hve : ∀ s, pcN (sureS (fun c => setN cnt sn (sc 2 ||| 2 ^ s) (sc 3) (sc 4) (sc 5) (sc 6) c h)) = v s := fun s => by rw [← hv]
  have hv10 : ∀ s, v s ≤ 10 := fun s => by rw [← hv]; exact pcN_le _
  have p26 : ∀ s, s < 6 → 2 ^ s < 64 := fun s hs => (Nat.pow_lt_pow_right (by decide) hs : 2 ^ s < 2 ^ 6)
  -- the class's loop
  have LX := lo_3_aac (b := bX4_spared_30 σ2 (nI (liveN cnt (sc 2)))) (N := cnt) spF (spL 11) (fun _ x => ∀ p, x = some p → p.2 ≤ 10) (spG cnt v (sc 2)) (fun x => some (spF x, σ2)) (fun k i x hi hx => by
      have hi6 : i < 6 := by omega
      constructor
      · unfold bX4_spared_30 fX4_spared_81
        simp only [HX2.1, e_le (show cnt < 2 ^ 31 by omega) (show i < 2 ^ 31 by omega), e_bnd_def, e_sh1 i (by omega), nI_1]
        rw [if_neg (by omega)]
        by_cases hb : (sc 2).testBit i = true
        · rw [if_pos ((live_bit cnt (by omega) _ hu6 i hi).mpr hb), spG_t hb]
        · rw [if_neg (fun q => hb ((live_bit cnt (by omega) _ hu6 i hi).mp q)), spG_f (b_nt hb), and_not _ (liveN_lt hcn _) _ (p26 i hi6), live_or hcn, x_sureCount e3 (fun c _ => setN_lt hcn sn _ _ _ _ _ c h) (Nat.lt_trans (liveN_lt hcn _) (by decide))]
          simp only [setN_live hcn, hve, Option.bind_some]
          have hvi := hv10 i
          cases x with
          | none =>
            rw [spU_n]
            show (if (11 : Int32) ≤ nI (v i) then _ else _) = _
            rw [show (11 : Int32) = nI 11 from rfl, if_neg (by rw [e_le (by omega) (by omega)]; omega)]
            rfl
          | some p =>
            have hp := hx p rfl
            rw [spU_s]
            show (if nI p.2 ≤ nI (v i) then k (spF (some p)) (spL 11 (some p)) (nI (i + 1)) else k (nI i) (nI (v i)) (nI (i + 1))) = _
            by_cases q : v i < p.2
            · rw [if_neg (show ¬ nI p.2 ≤ nI (v i) by rw [e_le (by omega) (by omega)]; omega), if_pos q]; rfl
            · rw [if_pos (show nI p.2 ≤ nI (v i) by rw [e_le (by omega) (by omega)]; omega), if_neg q]
      · by_cases hb : (sc 2).testBit i = true
        · rw [spG_t hb]; exact hx
        · rw [spG_f (b_nt hb)]; exact spU_le (hv10 i) hx) (fun k x _ => by
      unfold bX4_spared_30
      rw [HX2.1, if_pos (by rw [e_le (by omega) (by omega)]; omega)]) cnt 1000 0 none (by omega) (by omega) (fun p hp => by cases hp)
  -- the reference's loop
  have LY := re_aacs (b := bX5_spared_25 (nI h)) (N := cnt) (fun i a1 a2 τ' => a1 = spF (itN (spG cnt v (sc 2)) i 0 none) ∧ a2 = spL 9999 (itN (spG cnt v (sc 2)) i 0 none) ∧ (∀ p, itN (spG cnt v (sc 2)) i 0 none = some p → p.2 ≤ 10) ∧ YSame (e_up τ 0 0 0) τ') (fun a1 _ τ' => some (a1, τ')) (fun i a1 a2 τ' hi hJ => by
      obtain ⟨rfl, rfl, hx, hsm⟩ := hJ
      have HYi := HY'.same hsm
      have PYi := PY'.same hsm
      rw [itN_last, Nat.zero_add]
      generalize itN (spG cnt v (sc 2)) i 0 none = x at hx
      have hh2 : τ' 4 2 = nI (sc 2) := PYi.2.2.1
      have hi6 : i < 6 := by omega
      have hvi := hv10 i
      by_cases hb : (sc 2).testBit i = true
      · refine ⟨spF x, spL 9999 x, τ', fun k => ?_, ?_⟩
        · unfold bX5_spared_25 fX5_spared_105
          rw [HYi.1, if_neg (by rw [e_le (by omega) (by omega)]; omega), hh2, has_bit _ hu6 i hi6, hb]
          simp only [Option.bind_some, eB_z, e_bnd_def, nI_1]
          rfl
        · rw [spG_t hb]
          exact ⟨rfl, rfl, hx, hsm⟩
      · have hb := b_nt hb
        obtain ⟨τ2, hs2, ht2⟩ := y_trial HYi S PYi (hu := sc 2 ||| 2 ^ i) (Nat.or_lt_two_pow (n := 6) hu6 (p26 i hi6)) hh
        refine ⟨spF (spG cnt v (sc 2) i x), spL 9999 (spG cnt v (sc 2) i x), τ2, fun k => ?_, rfl, rfl, ?_, hsm.trans' hs2⟩
        · unfold bX5_spared_25 fX5_spared_91 fX5_spared_104 fX5_spared_105
          rw [HYi.1, if_neg (by rw [e_le (by omega) (by omega)]; omega), hh2, has_bit _ hu6 i hi6, hb, y_begin']
          simp only [Option.bind_some, eB_z, e_bnd_def, nI_1, if_true]
          rw [yB_5 τ' (by omega), hh2, e_sh1 i (by omega), nx_or, ht2]
          simp only [Option.bind_some]
          rw [bits_y (sureS_lt _), hve]
          simp only [Option.bind_some]
          rw [spG_f hb]
          cases x with
          | none =>
            rw [spU_n]
            show (if (9999 : Int32) ≤ nI (v i) then _ else (if (9999 : Int32) ≤ nI (v i) then _ else _)) = _
            rw [if_neg (show ¬ (9999 : Int32) ≤ nI (v i) by rw [show (9999 : Int32) = nI 9999 from by decide, e_le (by omega) (by omega)]; omega), if_neg (show ¬ (9999 : Int32) ≤ nI (v i) by rw [show (9999 : Int32) = nI 9999 from by decide, e_le (by omega) (by omega)]; omega)]
            rfl
          | some p =>
            have hp := hx p rfl
            rw [spU_s]
            show (if nI p.2 ≤ nI (v i) then (if nI p.2 ≤ nI (v i) then k (spF (some p)) (nI p.2) (nI (i + 1)) τ2 else k (spF (some p)) (nI (v i)) (nI (i + 1)) τ2) else (if nI p.2 ≤ nI (v i) then k (nI i) (nI p.2) (nI (i + 1)) τ2 else k (nI i) (nI (v i)) (nI (i + 1)) τ2)) = _
            by_cases q : v i < p.2
            · have q2 : ¬ nI p.2 ≤ nI (v i) := by rw [e_le (by omega) (by omega)]; omega
              rw [if_neg q2, if_neg q2, if_pos q]; rfl
            · have q2 : nI p.2 ≤ nI (v i) := by rw [e_le (by omega) (by omega)]; omega
              rw [if_pos q2, if_pos q2, if_neg q]; rfl
        · rw [spG_f hb]; exact spU_le hvi hx) (fun k a1 a2 τ' hJ => by
      unfold bX5_spared_25
      rw [(HY'.same hJ.2.2.2).1, if_pos (by rw [e_le (by omega) (by omega)]; omega)]) cnt 1000 0 (-9) 9999 (e_up τ 0 0 0) (by omega) (by omega) ⟨rfl, rfl, (fun p hp => by cases hp), YSame.rfl' _⟩
  obtain ⟨a1', a2', τ', ⟨rfl, -, -, hsm⟩, hY⟩ := LY
  refine ⟨spF (itN (spG cnt v (sc 2)) cnt 0 none), σ2, τ', ?_, ?_, hI.same e2 (hys.trans' hsm)⟩
  · rw [h1, if_neg b_tf, e1]
    simp only [Option.bind_some]
    rw [x_live HX2 hu6 PX2.2.2.1]
    simp only [Option.bind_some]
    exact LX.1
  · rw [h1, if_pos b_ntf]
    exact hY

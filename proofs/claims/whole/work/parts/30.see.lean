/-! math 11: see, unsee, seed, weather -/
theorem st_seed : ES_seed eI := by
  intro σ z τ y a1 hI
  have h := hI.same (XSame.rfl' σ) (y00 τ)
  refine ⟨z, σ, a1, e_up τ 0 0 0, a1, rfl, ?_, ⟨rfl, h.2⟩⟩
  rw [← hI.1]; rfl
theorem eI_see {σ τ σ' τ' : eSt} {z y : Int64} (hI : eI σ z τ y) (hN : RN σ' τ') (fx : ∀ c, c < 10 ∨ 14 < c → σ' c = σ c) (fy : ∀ c, c ≠ 0 → c < 9 ∨ 12 < c → τ' c = τ c) (f0 : ∀ j, j ≠ 17 → j ≠ 0 → τ' 0 j = τ 0 j) : eI σ' z τ' y := by
  obtain ⟨h0, h1, h2, h3, h4, h5, h6⟩ := hI
  exact ⟨h0, h1.same (fx 1 (by omega)) (fx 2 (by omega)) (f0 2 (by omega) (by omega)) (fy 1 (by omega) (by omega)), h2.same (fun k _ _ => fx k (by omega)) (f0 4 (by omega) (by omega)) (fy 2 (by omega) (by omega)), h3.same (fx 9 (by omega)) (fy 4 (by omega) (by omega)), h4.same (by rw [fx 0 (by omega)]) (fx 15 (by omega)) (f0 14 (by omega) (by omega)) (fy 6 (by omega) (by omega)), h5.same (fx 16 (by omega)) (fy 8 (by omega) (by omega)) (fy 7 (by omega) (by omega)), hN⟩
theorem st_unsee : ES_unsee eI := by
  intro σ z τ y hI
  obtain ⟨n, hn, h1, h2, h3⟩ := hI.2.2.2.2.2.2
  have h2' : (e_up τ 0 0 0) 0 17 = nI n := by rw [up_o _ _ _ (by omega)]; exact h2
  unfold fX4_unsee fX5_unsee
  simp only [e_bnd_def, h1, h2']
  exact ⟨_, _, _, rfl, rfl, eI_see hI ⟨0, by omega, up_s _ _ _ _, up_s _ _ _ _, fun i hi => by omega⟩ (fun c hc => up_n _ _ _ (by omega)) (fun c c0 hc => by rw [up_n _ _ _ c0, up_n _ _ _ c0]) (fun j j1 j0 => by rw [up_o _ _ _ j1, up_o _ _ _ j0])⟩
theorem nar1 : vp_nar .boolean 1 = 1 := by decide +kernel
theorem narB (b : Bool) : vp_nar .boolean (eB b) = eB b := by
  cases b
  · exact nar0
  · exact nar1
theorem st_see : ES_see eI := by
  intro σ z τ y a1 a2 a3 a4 hI h4
  obtain ⟨b, rfl⟩ : ∃ b : Bool, a4 = eB b := by
    rcases h4 with h | h
    · exact ⟨false, h⟩
    · exact ⟨true, h⟩
  obtain ⟨cnt, sn, HX, HY⟩ := hI.2.2.1
  have hys := y00 τ
  have hend : eI σ z (e_up τ 0 0 0) y := hI.same (XSame.rfl' σ) hys
  have HY' := HY.same hys
  have hcn := HX.2.1
  obtain ⟨n, hn, n1, n2, n3⟩ := hI.2.2.2.2.2.2
  have n2' : (e_up τ 0 0 0) 0 17 = nI n := by rw [up_o _ _ _ (by omega)]; exact n2
  unfold fX4_see fX5_see
  simp only [x_has HX, y_noSound HY', x_isCell, x_isHour, y_noCell, y_noHour, e_bnd_def, Option.bind_some, eB_z]
  by_cases h1 : (decide (0 ≤ a1) && decide (a1 < nI cnt)) = true
  · obtain ⟨s, hs, rfl⟩ := e_has hcn h1
    rw [h1, if_neg b_tf, if_pos b_ntf]
    by_cases h2 : inI a2 0 9 = true
    · obtain ⟨c, hc, rfl⟩ := e_inI9 h2
      rw [h2, if_neg b_tf, if_pos b_ntf]
      by_cases h3 : inI a3 0 9 = true
      · obtain ⟨h, hh, rfl⟩ := e_inI9 h3
        rw [h3, if_neg b_tf, if_pos b_ntf, n1, n2']
        simp only [show (6 : Int32) = nI 6 from rfl, e_lt (show n < 2 ^ 31 by omega) (show 6 < 2 ^ 31 by omega), e_eq (show n < 2 ^ 31 by omega) (show 6 < 2 ^ 31 by omega)]
        by_cases full : n = 6
        · rw [if_neg (by omega), if_pos full]
          exact ⟨_, _, _, rfl, rfl, hend⟩
        have hlt : n < 6 := by omega
        rw [if_pos hlt, if_neg full]
        unfold fX1_add
        have x1 : (e_up σ 11 n (nI s)) 10 4 = nI n := by rw [up_n _ _ _ (by omega)]; exact n1
        have x2 : (e_up (e_up σ 11 n (nI s)) 12 n (nI c)) 10 4 = nI n := by rw [up_n _ _ _ (by omega)]; exact x1
        have x3 : (e_up (e_up (e_up σ 11 n (nI s)) 12 n (nI c)) 13 n (nI h)) 10 4 = nI n := by rw [up_n _ _ _ (by omega)]; exact x2
        have x4 : (e_up (e_up (e_up (e_up σ 11 n (nI s)) 12 n (nI c)) 13 n (nI h)) 14 n (eB b)) 10 4 = nI n := by rw [up_n _ _ _ (by omega)]; exact x3
        have y1 : (e_up (e_up τ 0 0 0) 9 n (nI s)) 0 17 = nI n := by rw [up_n _ _ _ (by omega)]; exact n2'
        have y2 : (e_up (e_up (e_up τ 0 0 0) 9 n (nI s)) 10 n (nI c)) 0 17 = nI n := by rw [up_n _ _ _ (by omega)]; exact y1
        have y3 : (e_up (e_up (e_up (e_up τ 0 0 0) 9 n (nI s)) 10 n (nI c)) 11 n (nI h)) 0 17 = nI n := by rw [up_n _ _ _ (by omega)]; exact y2
        have y4 : (e_up (e_up (e_up (e_up (e_up τ 0 0 0) 9 n (nI s)) 10 n (nI c)) 11 n (nI h)) 12 n (eB b)) 0 17 = nI n := by rw [up_n _ _ _ (by omega)]; exact y3
        rw [n1, if_neg (show ¬ (6 : Int32) ≤ nI n by rw [show (6 : Int32) = nI 6 from rfl, e_le (by omega) (by omega)]; omega)]
        simp only [e_bnd_def, nI_clamp (show n < 2 ^ 31 by omega), e_inN (show n < 2 ^ 31 by omega), hlt, if_true, x1, x2, x3, x4, y1, y2, y3, y4, narB, nI_1, Option.bind_some]
        rw [up_s, up_s]
        refine ⟨_, _, _, rfl, rfl, eI_see hI ⟨n + 1, by omega, up_s _ _ _ _, up_s _ _ _ _, fun i hi => ?_⟩ (fun c hc => by rw [up_n _ _ _ (by omega), up_n _ _ _ (by omega), up_n _ _ _ (by omega), up_n _ _ _ (by omega), up_n _ _ _ (by omega)]) (fun c c0 hc => by rw [up_n _ _ _ (by omega), up_n _ _ _ (by omega), up_n _ _ _ (by omega), up_n _ _ _ (by omega), up_n _ _ _ (by omega), up_n _ _ _ (by omega)]) (fun j j1 j0 => by rw [up_o _ _ _ j1, up_n _ _ _ (by omega), up_n _ _ _ (by omega), up_n _ _ _ (by omega), up_n _ _ _ (by omega), up_o _ _ _ j0])⟩
        by_cases e : i = n
        · subst e
          refine ⟨s, c, h, b, by omega, hc, hh, ⟨?_, ?_, ?_, ?_⟩, ⟨?_, ?_, ?_, ?_⟩⟩
          · rw [up_n _ _ _ (by omega), up_n _ _ _ (by omega), up_n _ _ _ (by omega), up_n _ _ _ (by omega), up_s]
          · rw [up_n _ _ _ (by omega), up_n _ _ _ (by omega), up_n _ _ _ (by omega), up_s]
          · rw [up_n _ _ _ (by omega), up_n _ _ _ (by omega), up_s]
          · rw [up_n _ _ _ (by omega), up_s]
          · rw [up_n _ _ _ (by omega), up_n _ _ _ (by omega), up_n _ _ _ (by omega), up_n _ _ _ (by omega), up_s]
          · rw [up_n _ _ _ (by omega), up_n _ _ _ (by omega), up_n _ _ _ (by omega), up_s]
          · rw [up_n _ _ _ (by omega), up_n _ _ _ (by omega), up_s]
          · rw [up_n _ _ _ (by omega), up_s]
        · obtain ⟨s', c', h', b', q1, q2, q3, ⟨q4, q5, q6, q7⟩, ⟨q8, q9, q10, q11⟩⟩ := n3 i (by omega)
          refine ⟨s', c', h', b', q1, q2, q3, ⟨?_, ?_, ?_, ?_⟩, ⟨?_, ?_, ?_, ?_⟩⟩
          · rw [up_n _ _ _ (by omega), up_n _ _ _ (by omega), up_n _ _ _ (by omega), up_n _ _ _ (by omega), up_o _ _ _ e]; exact q4
          · rw [up_n _ _ _ (by omega), up_n _ _ _ (by omega), up_n _ _ _ (by omega), up_o _ _ _ e, up_n _ _ _ (by omega)]; exact q5
          · rw [up_n _ _ _ (by omega), up_n _ _ _ (by omega), up_o _ _ _ e, up_n _ _ _ (by omega), up_n _ _ _ (by omega)]; exact q6
          · rw [up_n _ _ _ (by omega), up_o _ _ _ e, up_n _ _ _ (by omega), up_n _ _ _ (by omega), up_n _ _ _ (by omega)]; exact q7
          · rw [up_n _ _ _ (by omega), up_n _ _ _ (by omega), up_n _ _ _ (by omega), up_n _ _ _ (by omega), up_o _ _ _ e, up_n _ _ _ (by omega)]; exact q8
          · rw [up_n _ _ _ (by omega), up_n _ _ _ (by omega), up_n _ _ _ (by omega), up_o _ _ _ e, up_n _ _ _ (by omega), up_n _ _ _ (by omega)]; exact q9
          · rw [up_n _ _ _ (by omega), up_n _ _ _ (by omega), up_o _ _ _ e, up_n _ _ _ (by omega), up_n _ _ _ (by omega), up_n _ _ _ (by omega)]; exact q10
          · rw [up_n _ _ _ (by omega), up_o _ _ _ e, up_n _ _ _ (by omega), up_n _ _ _ (by omega), up_n _ _ _ (by omega), up_n _ _ _ (by omega)]; exact q11
      · rw [b_nt h3, if_pos rfl, if_neg b_nff]
        exact ⟨_, _, _, rfl, rfl, hend⟩
    · rw [b_nt h2, if_pos rfl, if_neg b_nff]
      exact ⟨_, _, _, rfl, rfl, hend⟩
  · rw [b_nt h1, if_pos rfl, if_neg b_nff]
    exact ⟨_, _, _, rfl, rfl, hend⟩
-- weather
def allF (p : Nat → Bool) : Nat → Nat → Bool
  | 0, _ => true
  | m + 1, i => p i && allF p m (i + 1)
/-- the i-th sighting is in keeping with rain ra and wind wi -/
def keepP (σ : eSt) (cnt : Nat) (sn : Nat → Nat → Nat) (hu ra wi i : Nat) : Bool := !(decide ((σ 11 i).toNatClampNeg < cnt)) || decide (eB (!hu.testBit (σ 11 i).toNatClampNeg && hB sn ra wi (σ 11 i).toNatClampNeg (σ 12 i).toNatClampNeg (σ 13 i).toNatClampNeg) = σ 14 i)
theorem x_agrees {σ : eSt} {cnt : Nat} {sn : Nat → Nat → Nat} (H : RSX σ cnt sn) {hu n : Nat} (hh : hu < 64) (h2 : σ 9 2 = nI hu) (hn : n ≤ 6) (n1 : σ 10 4 = nI n) (n3 : ∀ i, i < n → ∃ s c h : Nat, s < 6 ∧ c < 10 ∧ h < 10 ∧ σ 11 i = nI s ∧ σ 12 i = nI c ∧ σ 13 i = nI h) (ra wi : Nat) : fX4_agreesWithSeen σ (nI ra) (nI wi) = some (eB (allF (keepP σ cnt sn hu ra wi) n 0)) := by
  have hcn := H.2.1
  have step : ∀ (k : Int32 → Option Int32) (i : Nat), i < n → bX4_agreesWithSeen_2 σ (nI ra) (nI wi) k (nI i) = if keepP σ cnt sn hu ra wi i = true then k (nI (i + 1)) else some (eB false) := by
    intro k i hi
    obtain ⟨s, c, h, q1, q2, q3, q4, q5, q6⟩ := n3 i hi
    unfold bX4_agreesWithSeen_2 fX4_agreesWithSeen_79 keepP
    rw [n1, if_neg (by rw [e_le (by omega) (by omega)]; omega)]
    simp only [e_inN (show i < 2 ^ 31 by omega), show i < 6 by omega, if_true, nI_clamp (show i < 2 ^ 31 by omega), q4, q5, q6, nI_clamp (show s < 2 ^ 31 by omega), nI_clamp (show c < 2 ^ 31 by omega), nI_clamp (show h < 2 ^ 31 by omega), x_has H, Option.bind_some, eB_z, e_bnd_def, nI_1, e_r0, e_lt (show s < 2 ^ 31 by omega) (show cnt < 2 ^ 31 by omega)]
    have z : decide ((0 : Int32) ≤ nI s) = true := decide_eq_true (by rw [show (0 : Int32) = nI 0 from rfl, e_le (by omega) (by omega)]; omega)
    rw [z]
    by_cases e : s < cnt
    · rw [x_isHeard H hh h2 e q3]
      simp only [e, decide_true, Bool.and_true, Bool.not_true, Bool.false_or, decide_eq_true_eq, Option.bind_some]
      rw [if_neg b_tf]
      by_cases e2 : eB (!hu.testBit s && hB sn ra wi s c h) = σ 14 i
      · rw [if_pos e2, if_pos e2]
      · rw [if_neg e2, if_neg e2]; rfl
    · simp [e]
  have fin : ∀ (k : Int32 → Option Int32), bX4_agreesWithSeen_2 σ (nI ra) (nI wi) k (nI n) = some (eB true) := by
    intro k
    unfold bX4_agreesWithSeen_2
    rw [n1, if_pos (by rw [e_le (by omega) (by omega)]; omega), e_r1]; rfl
  have key : ∀ m q i, i + m = n → m < q → lo_1 (bX4_agreesWithSeen_2 σ (nI ra) (nI wi)) q (nI i) = some (eB (allF (keepP σ cnt sn hu ra wi) m i)) := by
    intro m
    induction m with
    | zero =>
      intro q i hi hq
      obtain ⟨q, rfl⟩ : ∃ r, q = r + 1 := ⟨q - 1, by omega⟩
      have : i = n := by omega
      subst this
      rw [lo_1_step, fin]; rfl
    | succ m ih =>
      intro q i hi hq
      obtain ⟨q, rfl⟩ : ∃ r, q = r + 1 := ⟨q - 1, by omega⟩
      rw [lo_1_step, step _ i (by omega), ih q (i + 1) (by omega) (by omega)]
      show _ = some (eB (keepP σ cnt sn hu ra wi i && allF (keepP σ cnt sn hu ra wi) m (i + 1)))
      cases keepP σ cnt sn hu ra wi i <;> rfl
  exact key n 1000 0 (by omega) (by omega)
theorem y_agrees {σ τ : eSt} {cnt : Nat} {sn : Nat → Nat → Nat} (H : RSY τ cnt sn) {hu h1 h2 n ra wi : Nat} (Q : HQ τ 5 hu h1 h2 ra wi) (hn : n ≤ 6) (n2 : τ 0 17 = nI n) (n3 : ∀ i, i < n → ∃ s c h : Nat, s < 6 ∧ c < 10 ∧ h < 10 ∧ σ 11 i = nI s ∧ σ 12 i = nI c ∧ σ 13 i = nI h ∧ τ 9 i = nI s ∧ τ 10 i = nI c ∧ τ 11 i = nI h ∧ τ 12 i = σ 14 i) (K : Int32 → eSt → Option (Int32 × eSt)) (a1 a2 : Int32) : lo_2 (bX5_weather_66 K τ a1 a2) 1000 1 0 = fX5_weather_144 K τ a1 a2 (eB (allF (keepP σ cnt sn hu ra wi) n 0)) := by
  have hcn := H.2.1
  have step : ∀ (k : Int32 → Int32 → Option (Int32 × eSt)) (i : Nat), i < n → bX5_weather_66 K τ a1 a2 k 1 (nI i) = k (eB (keepP σ cnt sn hu ra wi i)) (nI (i + 1)) := by
    intro k i hi
    obtain ⟨s, c, h, q1, q2, q3, q4, q5, q6, q7, q8, q9, q10⟩ := n3 i hi
    unfold bX5_weather_66 fX5_weather_132 fX5_weather_137 keepP
    rw [n2, if_neg (by rw [e_le (by omega) (by omega)]; omega), if_neg (show ¬ (1 : Int32) = 0 by decide)]
    simp only [e_inN (show i < 2 ^ 31 by omega), show i < 6 by omega, if_true, nI_clamp (show i < 2 ^ 31 by omega), q4, q5, q6, q7, q8, q9, q10, nI_clamp (show s < 2 ^ 31 by omega), nI_clamp (show c < 2 ^ 31 by omega), nI_clamp (show h < 2 ^ 31 by omega), H.1, e_bnd_def, nI_1, e_le (show cnt < 2 ^ 31 by omega) (show s < 2 ^ 31 by omega)]
    by_cases e : s < cnt
    · rw [if_neg (by omega), y_hears H Q e q2 q3]
      simp only [e, decide_true, Bool.not_true, Bool.false_or, Option.bind_some]
      by_cases e2 : eB (!hu.testBit s && hB sn ra wi s c h) = σ 14 i
      · rw [if_pos e2, decide_eq_true e2]; rfl
      · rw [if_neg e2, decide_eq_false e2]; rfl
    · rw [if_pos (by omega)]
      simp [e, eB]
  have f0 : ∀ (k : Int32 → Int32 → Option (Int32 × eSt)) (i : Int32), bX5_weather_66 K τ a1 a2 k 0 i = fX5_weather_144 K τ a1 a2 0 := by
    intro k i
    unfold bX5_weather_66
    by_cases e : τ 0 17 ≤ i
    · rw [if_pos e]
    · rw [if_neg e, if_pos rfl]
  have fin : ∀ (k : Int32 → Int32 → Option (Int32 × eSt)), bX5_weather_66 K τ a1 a2 k 1 (nI n) = fX5_weather_144 K τ a1 a2 1 := by
    intro k
    unfold bX5_weather_66
    rw [n2, if_pos (by rw [e_le (by omega) (by omega)]; omega)]
  have key : ∀ m q i, i + m = n → m + 1 < q → lo_2 (bX5_weather_66 K τ a1 a2) q 1 (nI i) = fX5_weather_144 K τ a1 a2 (eB (allF (keepP σ cnt sn hu ra wi) m i)) := by
    intro m
    induction m with
    | zero =>
      intro q i hi hq
      obtain ⟨q, rfl⟩ : ∃ r, q = r + 1 := ⟨q - 1, by omega⟩
      have : i = n := by omega
      subst this
      rw [lo_2_step, fin]; rfl
    | succ m ih =>
      intro q i hi hq
      obtain ⟨q, rfl⟩ : ∃ r, q = r + 1 := ⟨q - 1, by omega⟩
      rw [lo_2_step, step _ i (by omega)]
      show _ = fX5_weather_144 K τ a1 a2 (eB (keepP σ cnt sn hu ra wi i && allF (keepP σ cnt sn hu ra wi) m (i + 1)))
      cases hk : keepP σ cnt sn hu ra wi i with
      | false =>
        obtain ⟨q, rfl⟩ : ∃ r, q = r + 1 := ⟨q - 1, by omega⟩
        rw [lo_2_step]; exact f0 _ _
      | true => exact ih q (i + 1) (by omega) (by omega)
  exact key n 1000 0 (by omega) (by omega)
def gW (A : Nat → Nat → Bool) (row : Nat) (x : Int32 × Int32) : Int32 × Int32 := if A (row / 3) (row % 3) = true then (x.1 + 1, if x.1 = 0 then nI (10 * (row / 3) + row % 3) else x.2) else x
theorem it_flat {B : Type} (g : Nat → B → B) (x : B) : itN (fun ra => itN (fun wi => g (3 * ra + wi)) 3 0) 5 0 x = itN g 15 0 x := rfl
theorem x_wIn {σ : eSt} {a1 : Int32} {A : Nat → Nat → Bool} (AX : ∀ ra wi, fX4_agreesWithSeen σ (nI ra) (nI wi) = some (eB (A ra wi))) : ∀ (K : Int32 → Int32 → Int32 → Option Int32) (ra : Nat), ra < 5 → ∀ x : Int32 × Int32, lo_3 (bX4_weather_27 K σ a1 (nI ra)) 1000 x.1 x.2 0 = K (itN (fun wi => gW A (3 * ra + wi)) 3 0 x).1 (itN (fun wi => gW A (3 * ra + wi)) 3 0 x).2 (nI (ra + 1)) := by
  intro K ra hr x
  refine (lo_3_aac (b := bX4_weather_27 K σ a1 (nI ra)) (N := 3) (fun x : Int32 × Int32 => x.1) (fun x => x.2) (fun _ _ => True) (fun wi => gW A (3 * ra + wi)) (fun x => K x.1 x.2 (nI (ra + 1))) (fun k wi x hw _ => ⟨?_, trivial⟩) (fun k x _ => ?_) 3 1000 0 x (by omega) (by omega) trivial).1
  · unfold bX4_weather_27 fX4_weather_64 fX4_weather_60 gW
    rw [show (2 : Int32) = nI 2 from rfl, if_neg (by rw [e_lt (by omega) (by omega)]; omega), AX, show (3 * ra + wi) / 3 = ra by omega, show (3 * ra + wi) % 3 = wi by omega, show (10 : Int32) = nI 10 from rfl]
    simp only [Option.bind_some, eB_z, e_bnd_def, nI_1, pk_mul, nI_add]
    cases A ra wi with
    | false => rw [if_pos rfl]; rfl
    | true =>
      rw [if_neg b_tf, if_pos rfl]
      by_cases e : x.1 = 0
      · rw [if_pos e, if_pos e]
        show k _ _ (nI wi + 1) = _
        rw [nI_1]
      · rw [if_neg e, if_neg e]
        show k _ _ (nI wi + 1) = _
        rw [nI_1]
  · unfold bX4_weather_27
    rw [if_pos (by decide), e_bnd_def, nI_1]
theorem x_wOut {σ : eSt} {a1 : Int32} {A : Nat → Nat → Bool} (AX : ∀ ra wi, fX4_agreesWithSeen σ (nI ra) (nI wi) = some (eB (A ra wi))) : lo_3 (bX4_weather_18 σ a1) 1000 0 (-9) 0 = some (if a1 = 0 then (itN (fun ra => itN (fun wi => gW A (3 * ra + wi)) 3 0) 5 0 (0, -9)).1 else (itN (fun ra => itN (fun wi => gW A (3 * ra + wi)) 3 0) 5 0 (0, -9)).2) := by
  refine (lo_3_aac (b := bX4_weather_18 σ a1) (N := 5) (fun x : Int32 × Int32 => x.1) (fun x => x.2) (fun _ _ => True) (fun ra => itN (fun wi => gW A (3 * ra + wi)) 3 0) (fun x => some (if a1 = 0 then x.1 else x.2)) (fun k ra x hr _ => ⟨?_, trivial⟩) (fun k x _ => ?_) 5 1000 0 (0, -9) (by omega) (by omega) trivial).1
  · unfold bX4_weather_18
    rw [show (4 : Int32) = nI 4 from rfl, if_neg (by rw [e_lt (by omega) (by omega)]; omega), x_wIn AX k ra hr x]
  · unfold bX4_weather_18
    rw [if_pos (by decide)]
    by_cases e : a1 = 0
    · rw [if_pos e, if_pos e]
    · rw [if_neg e, if_neg e]
theorem st_weather : ES_weather eI := by
  intro σ z τ y a1 hI
  obtain ⟨cnt, sn, HX, HY⟩ := hI.2.2.1
  obtain ⟨sc, S, PX, PY⟩ := hI.2.2.2.1
  obtain ⟨n, hn, n1, n2, n3⟩ := hI.2.2.2.2.2.2
  have hys := y00 τ
  have hend : eI σ z (e_up τ 0 0 0) y := hI.same (XSame.rfl' σ) hys
  unfold fX4_weather fX5_weather
  rw [e_bnd_def]
  simp only [x_isFS, e_in0_1, Option.bind_some, eB_z]
  by_cases h1 : inI a1 0 1 = true
  · rw [h1, if_neg b_tf, if_neg b_tf, e_bnd_def, e_bnd_def]
    have AX := fun ra wi => x_agrees HX S.2.2.1 PX.2.2.1 hn n1 (fun i hi => by obtain ⟨s, c, h, b, q1, q2, q3, ⟨q4, q5, q6, q7⟩, _⟩ := n3 i hi; exact ⟨s, c, h, q1, q2, q3, q4, q5, q6⟩) ra wi
    obtain ⟨A, hA⟩ : ∃ A : Nat → Nat → Bool, A = (fun ra wi => allF (keepP σ cnt sn (sc 2) ra wi) n 0) := ⟨_, rfl⟩
    have AX : ∀ ra wi, fX4_agreesWithSeen σ (nI ra) (nI wi) = some (eB (A ra wi)) := fun ra wi => by rw [hA]; exact AX ra wi
    -- the class
    have out := x_wOut (a1 := a1) AX
    have flat : itN (fun ra => itN (fun wi => gW A (3 * ra + wi)) 3 0) 5 0 (0, -9) = itN (gW A) 15 0 (0, -9) := it_flat (gW A) (0, -9)
    rw [out, flat]
    -- the reference
    have y0 : YSame τ (e_up (e_up (e_up τ 0 0 0) 0 30 0) 0 31 (-9)) := hys.trans' ((YSame.up0 _ _ (by omega) (by omega) (by omega) (by omega)).trans' (YSame.up0 _ _ (by omega) (by omega) (by omega) (by omega)))
    have y30 : (e_up (e_up (e_up τ 0 0 0) 0 30 0) 0 31 (-9)) 0 30 = 0 := by rw [up_o _ _ _ (by omega), up_s]
    have y31 : (e_up (e_up (e_up τ 0 0 0) 0 30 0) 0 31 (-9)) 0 31 = -9 := up_s _ _ _ _
    generalize e_up (e_up (e_up τ 0 0 0) 0 30 0) 0 31 (-9) = τ0 at y0 y30 y31 ⊢
    obtain ⟨τ', ⟨g1, g2, g3⟩, g4⟩ := re_cs (b := bX5_weather_31 a1) (N := 15) (fun i ρ => YSame τ ρ ∧ ρ 0 30 = (itN (gW A) i 0 (0, -9)).1 ∧ ρ 0 31 = (itN (gW A) i 0 (0, -9)).2) (fun ρ => some (if a1 = 0 then ρ 0 30 else ρ 0 31, ρ)) (by
      intro i ρ hi hJ
      obtain ⟨j1, j2, j3⟩ := hJ
      have e3 : nI i / 3 = nI (i / 3) := pk_div (by omega) (by decide) (by decide)
      have r3 : e_rem (nI i) 3 = nI (i % 3) := pk_rem (by omega) (by decide) (by decide)
      have d5 : i / 3 < 5 := by omega
      have m3 : i % 3 < 3 := by omega
      have s1 : YSame ρ (e_up (e_up (yB ρ) 5 6 (nI (i / 3))) 5 7 (nI (i % 3))) := (yB_same ρ).trans' ((YSame.upk _ _ _ (by omega)).trans' (YSame.upk _ _ _ (by omega)))
      have hq := yB_hq S (PY.same j1)
      have HQ1 : HQ (e_up (e_up (yB ρ) 5 6 (nI (i / 3))) 5 7 (nI (i % 3))) 5 (sc 2) (sc 3) (sc 4) (i / 3) (i % 3) := by
        obtain ⟨q1, q2, q3, q4, q5, q6, q7, q8, q9⟩ := hq
        exact ⟨by rw [up_o _ _ _ (by omega), up_o _ _ _ (by omega)]; exact q1, by rw [up_o _ _ _ (by omega), up_o _ _ _ (by omega)]; exact q2, by rw [up_o _ _ _ (by omega), up_o _ _ _ (by omega)]; exact q3, by rw [up_o _ _ _ (by omega), up_s], up_s _ _ _ _, q6, q7, q8, by omega⟩
      have k30 : ∀ j, (e_up (e_up (yB ρ) 5 6 (nI (i / 3))) 5 7 (nI (i % 3))) 0 j = ρ 0 j := fun j => by
        rw [up_n _ _ _ (by omega), up_n _ _ _ (by omega)]; unfold yB; rw [filS_n _ _ _ _ (by omega)]
      have op : ∀ k, bX5_weather_31 a1 k (nI i) ρ = fX5_weather_144 k (e_up (e_up (yB ρ) 5 6 (nI (i / 3))) 5 7 (nI (i % 3))) a1 (nI i) (eB (A (i / 3) (i % 3))) := by
        intro k
        unfold bX5_weather_31
        rw [show (15 : Int32) = nI 15 from rfl, if_neg (by rw [e_le (by omega) (by omega)]; omega), y_begin']
        simp only [Option.bind_some, e_bnd_def, e3, r3]
        have s2 := j1.trans' s1
        rw [hA]
        exact y_agrees (σ := σ) (HY.same s2) HQ1 hn (by rw [s2.1.2.2.2]; exact n2) (fun j hj => by
          obtain ⟨s, c, h, b, q1, q2, q3, ⟨q4, q5, q6, q7⟩, q8, q9, q10, q11⟩ := n3 j hj
          exact ⟨s, c, h, q1, q2, q3, q4, q5, q6, by rw [s2.2 9 (by omega) (by omega) (by omega) (by omega)]; exact q8, by rw [s2.2 10 (by omega) (by omega) (by omega) (by omega)]; exact q9, by rw [s2.2 11 (by omega) (by omega) (by omega) (by omega)]; exact q10, by rw [s2.2 12 (by omega) (by omega) (by omega) (by omega), q7]; exact q11⟩) k a1 (nI i)
      generalize e_up (e_up (yB ρ) 5 6 (nI (i / 3))) 5 7 (nI (i % 3)) = ρ1 at s1 k30 op
      rw [itN_last, Nat.zero_add]
      generalize itN (gW A) i 0 (0, -9) = x at j2 j3
      unfold gW
      cases hAi : A (i / 3) (i % 3) with
      | false =>
        refine ⟨ρ1, fun k => ?_, j1.trans' s1, by rw [if_neg (by simp), k30]; exact j2, by rw [if_neg (by simp), k30]; exact j3⟩
        rw [op, hAi]
        unfold fX5_weather_144 fX5_weather_186
        rw [if_pos (show eB false = 0 from rfl), e_bnd_def, nI_1]
      | true =>
        rw [if_pos rfl]
        refine ⟨e_up (e_up ρ1 0 31 (if x.1 = 0 then nI (10 * (i / 3) + i % 3) else x.2)) 0 30 (x.1 + 1), fun k => ?_, j1.trans' (s1.trans' ((YSame.up0 _ _ (by omega) (by omega) (by omega) (by omega)).trans' (YSame.up0 _ _ (by omega) (by omega) (by omega) (by omega)))), up_s _ _ _ _, by rw [up_o _ _ _ (by omega), up_s]⟩
        rw [op, hAi]
        unfold fX5_weather_144 fX5_weather_173 fX5_weather_186
        rw [if_neg (show ¬ eB true = 0 by decide)]
        simp only [e_bnd_def, nI_1, e3, r3, show (10 : Int32) = nI 10 from rfl, pk_mul, nI_add, k30, j2, j3]
        by_cases e : x.1 = 0
        · rw [if_pos e, if_pos e, up_o _ _ _ (by omega), k30, j2]
        · rw [if_neg e, if_neg e, up_o _ _ _ (by omega), k30, j2]) (by
      intro k ρ hJ
      unfold bX5_weather_31
      rw [if_pos (by decide)]
      by_cases e : a1 = 0
      · rw [if_pos e, if_pos e]
      · rw [if_neg e, if_neg e]) 15 1000 0 τ0 (by omega) (by omega) ⟨y0, by rw [itN_0]; exact y30, by rw [itN_0]; exact y31⟩
    refine ⟨_, τ', rfl, ?_, hI.same (XSame.rfl' σ) g1⟩
    have g4 : lo_2 (bX5_weather_31 a1) 1000 0 τ0 = _ := g4
    rw [g4, g2, g3]
  · rw [b_nt h1, if_pos rfl, if_pos rfl]
    exact ⟨_, _, rfl, rfl, hend⟩

/-! math 2: what is heard where: both sides are one number setN -/
def rch (kind loud src cell rain wind : Int32) : Bool := decide ((if kind = 1 then 0 else if kind = 2 then 2 * rain else rain) + e_abs (cell - (if kind = 3 then src else (src + wind) - 1)) < loud)
theorem x_reaches (kind loud src cell rain wind : Int32) : fX4_reaches kind loud src cell rain wind = some (eB (rch kind loud src cell rain wind)) := by
  have key : ∀ d s : Int32, fX4_reaches_43 loud cell s d = some (eB (decide (d + e_abs (cell - s) < loud))) := by
    intro d s
    unfold fX4_reaches_43
    simp only [e_r0, e_r1]
    by_cases h : loud ≤ d + e_abs (cell - s)
    · have : ¬ (d + e_abs (cell - s) < loud) := by rw [e_nlt]; exact h
      rw [if_pos h]; simp [this, eB]
    · have h2 : d + e_abs (cell - s) < loud := by rw [e_nle] at h; exact h
      rw [if_neg h]; simp [h2, eB]
  unfold fX4_reaches fX4_reaches_15
  simp only [key, e_bnd_def, rch]
  by_cases h3 : kind = 3
  · subst h3; rfl
  · rw [if_neg h3, if_neg h3]
    by_cases h1 : kind = 1
    · rw [if_pos h1, if_pos h1]
    · rw [if_neg h1, if_neg h1]
      by_cases h2 : kind = 2
      · rw [if_pos h2, if_pos h2]
      · rw [if_neg h2, if_neg h2]
theorem far_w : ∀ x, x < 10 → ∀ y, y < 10 → ∀ w, w < 3 → fX5_far (nI x) ((nI y + nI w) - 1) = some (e_abs (nI x - ((nI y + nI w) - 1))) := by decide +kernel
theorem far_0 : ∀ x, x < 10 → ∀ y, y < 10 → fX5_far (nI x) (nI y) = some (e_abs (nI x - nI y)) := by decide +kernel
theorem y_carries {τ : eSt} {q : Nat} {x y w : Nat} (kind loud : Int32) (hx : x < 10) (hy : y < 10) (hw : w < 3) (h7 : τ q 7 = nI w) : fX5_carries τ q (nI y) loud kind (nI x) = some (eB (rch kind loud (nI y) (nI x) (τ q 6) (nI w))) := by
  have key : ∀ d s : Int32, fX5_far (nI x) s = some (e_abs (nI x - s)) → fX5_carries_46 τ q loud (nI x) d s = some (eB (decide (d + e_abs (nI x - s) < loud))) := by
    intro d s hs
    unfold fX5_carries_46
    simp only [hs, Option.bind_some, e_r0, e_r1]
    by_cases h : loud ≤ d + e_abs (nI x - s)
    · have : ¬ (d + e_abs (nI x - s) < loud) := by rw [e_nlt]; exact h
      rw [if_pos h]; simp [this, eB]
    · have h2 : d + e_abs (nI x - s) < loud := by rw [e_nle] at h; exact h
      rw [if_neg h]; simp [h2, eB]
  have k2 : ∀ d : Int32, fX5_carries_27 τ q (nI y) loud kind (nI x) d = some (eB (decide (d + e_abs (nI x - (if kind = 3 then nI y else (nI y + nI w) - 1)) < loud))) := by
    intro d
    unfold fX5_carries_27
    by_cases h3 : kind = 3
    · rw [if_pos h3, if_pos h3]; exact key d _ (far_0 x hx y hy)
    · rw [if_neg h3, if_neg h3, h7]; exact key d _ (far_w x hx y hy w hw)
  unfold fX5_carries
  simp only [k2, rch]
  by_cases h1 : kind = 1
  · rw [if_pos h1, if_pos h1]
  · rw [if_neg h1, if_neg h1]
    by_cases h2 : kind = 2
    · rw [if_pos h2, if_pos h2]
    · rw [if_neg h2, if_neg h2]
/-- the river's sounds on the two sides -/
def RSX (σ : eSt) (cnt : Nat) (sn : Nat → Nat → Nat) : Prop := σ 3 5 = nI cnt ∧ cnt ≤ 6 ∧ ∀ s, s < cnt → (σ 4 s = nI (sn s 0) ∧ σ 5 s = nI (sn s 1) ∧ σ 6 s = nI (sn s 2) ∧ σ 7 s = nI (sn s 3) ∧ σ 8 s = nI (sn s 4)) ∧ ∀ f, f < 5 → sn s f ≤ 9
def RSY (τ : eSt) (cnt : Nat) (sn : Nat → Nat → Nat) : Prop := τ 0 4 = nI cnt ∧ cnt ≤ 6 ∧ ∀ s, s < cnt → (∀ f, f < 5 → τ 2 (5 * s + f) = nI (sn s f)) ∧ ∀ f, f < 5 → sn s f ≤ 9
def hB (sn : Nat → Nat → Nat) (ra wi s c h : Nat) : Bool := (decide (sn s 2 ≤ h) && decide (h ≤ sn s 3)) && rch (nI (sn s 4)) (nI (sn s 1)) (nI (sn s 0)) (nI c) (nI ra) (nI wi)
theorem x_has {σ : eSt} {cnt : Nat} {sn : Nat → Nat → Nat} (H : RSX σ cnt sn) (a : Int32) : fX2_has σ a = some (eB (decide (0 ≤ a) && decide (a < nI cnt))) := by
  unfold fX2_has
  simp only [e_r0, e_r1, H.1]
  by_cases h1 : a < 0
  · have : ¬ (0 ≤ a) := by rw [e_nle]; exact h1
    rw [if_pos h1]; simp [this, eB]
  · have h2 : 0 ≤ a := by rw [e_nlt] at h1; exact h1
    rw [if_neg h1]
    by_cases h3 : nI cnt ≤ a
    · have : ¬ (a < nI cnt) := by rw [e_nlt]; exact h3
      rw [if_pos h3]; simp [this, eB]
    · have h4 : a < nI cnt := by rw [e_nle] at h3; exact h3
      rw [if_neg h3]; simp [h2, h4, eB]
theorem x_hasN {σ : eSt} {cnt : Nat} {sn : Nat → Nat → Nat} (H : RSX σ cnt sn) {s : Nat} (hs : s < cnt) : fX2_has σ (nI s) = some 1 := by
  have := H.2.1
  have h0 : 0 ≤ nI s := nI_pos' (by omega)
  rw [x_has H]
  simp only [e_lt (show s < 2 ^ 31 by omega) (show cnt < 2 ^ 31 by omega)]
  simp [h0, hs, eB]
theorem y_noSound {τ : eSt} {cnt : Nat} {sn : Nat → Nat → Nat} (H : RSY τ cnt sn) (a : Int32) : fX5_noSound τ a = some (eB (!(decide (0 ≤ a) && decide (a < nI cnt)))) := by
  have hc := H.2.1
  unfold fX5_noSound
  rw [H.1, show (0 : Int64) = (0 : Int32).toInt64 from rfl, e_in32]
  simp only [Option.bind_some, e_r0, e_r1, eB_z, inI]
  have e1 : (a ≤ nI cnt - 1) = (a < nI cnt) := by
    apply propext
    rw [Int32.le_iff_toInt_le, Int32.lt_iff_toInt_lt, show (1 : Int32) = nI 1 from rfl, pk_sub_toInt (by omega) (by omega), nI_toInt (by omega)]
    omega
  simp only [e1]
  cases decide (0 ≤ a) && decide (a < nI cnt) <;> rfl
theorem e_has {cnt : Nat} (hc : cnt ≤ 6) {a : Int32} (h : (decide (0 ≤ a) && decide (a < nI cnt)) = true) : ∃ s, s < cnt ∧ a = nI s := by
  simp only [Bool.and_eq_true, decide_eq_true_eq] at h
  obtain ⟨j, hj, e⟩ := nI_of (x := a) (by rw [e_nlt]; exact h.1)
  refine ⟨j, ?_, e⟩
  have h2 := h.2
  rw [e, e_lt hj (by omega)] at h2
  exact h2
theorem x_carries {σ : eSt} {cnt : Nat} {sn : Nat → Nat → Nat} (H : RSX σ cnt sn) {s c h ra wi : Nat} (hs : s < cnt) (hh : h < 10) : fX2_carries σ (nI s) (nI c) (nI h) (nI ra) (nI wi) = some (eB (hB sn ra wi s c h)) := by
  have hc := H.2.1
  obtain ⟨⟨q0, q1, q2, q3, q4⟩, hb⟩ := H.2.2 s hs
  have b2 := hb 2 (by omega)
  have b3 := hb 3 (by omega)
  unfold fX2_carries
  rw [x_hasN H hs]
  simp only [Option.bind_some, e_inN (show s < 2 ^ 31 by omega), show s < 6 by omega, if_true, nI_clamp (show s < 2 ^ 31 by omega), q0, q1, q2, q3, q4, e_r0, e_r1, x_reaches, eB_z, e_lt (show h < 2 ^ 31 by omega) (show sn s 2 < 2 ^ 31 by omega), e_lt (show sn s 3 < 2 ^ 31 by omega) (show h < 2 ^ 31 by omega)]
  rw [if_neg (by decide)]
  unfold hB
  by_cases h1 : h < sn s 2
  · rw [if_pos h1]; simp [show ¬ sn s 2 ≤ h by omega, eB]
  · rw [if_neg h1]
    by_cases h2 : sn s 3 < h
    · rw [if_pos h2]; simp [show ¬ h ≤ sn s 3 by omega, eB]
    · rw [if_neg h2]
      cases hr : rch (nI (sn s 4)) (nI (sn s 1)) (nI (sn s 0)) (nI c) (nI ra) (nI wi) <;> simp [show sn s 2 ≤ h by omega, show h ≤ sn s 3 by omega, eB]
def liveN (c hu : Nat) : Nat := orN (fun s => !hu.testBit s) c
theorem live_dec : ∀ c, c < 7 → ∀ hu, hu < 64 → ((e_shl 1 (nI c)) - 1) &&& ((nI hu) ^^^ (-1)) = nI (liveN c hu) := by decide +kernel
theorem live_bit : ∀ c, c < 7 → ∀ hu, hu < 64 → ∀ s, s < c → ((nI (liveN c hu)) &&& (nI (2 ^ s)) = 0 ↔ hu.testBit s = true) := by decide +kernel
theorem hush_bit : ∀ hu, hu < 64 → ∀ s, s < 6 → ((nI hu) &&& (nI (2 ^ s)) = 0 ↔ hu.testBit s = false) := by decide +kernel
theorem has_bit : ∀ hu, hu < 64 → ∀ s, s < 6 → fX5_has (nI hu) (nI s) = some (eB (hu.testBit s)) := by decide +kernel
theorem x_live {σ : eSt} {cnt : Nat} {sn : Nat → Nat → Nat} (H : RSX σ cnt sn) {hu : Nat} (hh : hu < 64) (h2 : σ 9 2 = nI hu) : fX4_liveSounds σ = some (nI (liveN cnt hu)) := by
  unfold fX4_liveSounds
  rw [H.1, h2, live_dec cnt (by have := H.2.1; omega) hu hh]
theorem x_soundSet {σ : eSt} {cnt : Nat} {sn : Nat → Nat → Nat} (H : RSX σ cnt sn) {hu ra wi c h : Nat} (hh : hu < 64) (h2 : σ 9 2 = nI hu) (h5 : σ 9 5 = nI ra) (h6 : σ 9 6 = nI wi) (hh2 : h < 10) : fX4_soundSet σ (nI c) (nI h) = some (nI (orN (fun s => !hu.testBit s && hB sn ra wi s c h) cnt)) := by
  have hc := H.2.1
  unfold fX4_soundSet
  rw [x_live H hh h2]
  simp only [Option.bind_some]
  rw [lo_2_or (N := cnt) (p := fun s => !hu.testBit s && hB sn ra wi s c h) (ex := fun a => some a) (by omega)]
  · intro k a i hi
    unfold bX4_soundSet_11 fX4_soundSet_71
    simp only [e_bnd_def, H.1, e_le (show cnt < 2 ^ 31 by omega) (show i < 2 ^ 31 by omega), e_sh1 i (by omega), h5, h6, x_carries H hi hh2, Option.bind_some, eB_z, nI_1]
    rw [if_neg (by omega)]
    by_cases hb : hu.testBit i = true
    · rw [if_pos ((live_bit cnt (by omega) hu hh i hi).mpr hb)]; simp [hb]
    · rw [if_neg (fun q => hb ((live_bit cnt (by omega) hu hh i hi).mp q))]
      have hb : hu.testBit i = false := by simpa using hb
      cases hB sn ra wi i c h <;> simp [hb]
  · intro k a
    unfold bX4_soundSet_11
    rw [H.1, if_pos (by rw [e_le (by omega) (by omega)]; omega)]
def hmB (h c ra wi : Nat) : Bool := decide (h ≠ 10) && rch 0 3 (nI h) (nI c) (nI ra) (nI wi)
def hmN (h1 h2 c ra wi : Nat) : Nat := (if hmB h1 c ra wi = true then 64 else 0) ||| (if hmB h2 c ra wi = true then 128 else 0)
theorem x_hammerSet {σ : eSt} {h1 h2 ra wi c : Nat} (h5 : σ 9 5 = nI ra) (h6 : σ 9 6 = nI wi) (q1 : h1 ≤ 10) (q2 : h2 ≤ 10) : fX4_hammerSet σ (nI c) (nI h1) (nI h2) = some (nI (hmN h1 h2 c ra wi)) := by
  have k2 : ∀ a : Nat, fX4_hammerSet_40 σ (nI c) (nI h2) (nI a) = some (nI (a ||| (if hmB h2 c ra wi = true then 128 else 0))) := by
    intro a
    unfold fX4_hammerSet_40
    simp only [h5, h6, x_reaches, Option.bind_some, eB_z, e_bnd_def, show (10 : Int32) = nI 10 from rfl, e_eq (show h2 < 2 ^ 31 by omega) (show 10 < 2 ^ 31 by omega)]
    by_cases e : h2 = 10
    · rw [if_pos e]; simp [hmB, e]
    · rw [if_neg e]
      cases hr : rch 0 3 (nI h2) (nI c) (nI ra) (nI wi)
      · simp [hmB, hr]
      · simp only [hmB, hr, e, ne_eq, not_false_eq_true, decide_true, Bool.and_self, if_true, show (128 : Int32) = nI 128 from rfl, nx_or]
        rfl
  have k0 : fX4_hammerSet_40 σ (nI c) (nI h2) 0 = _ := k2 0
  have k6 : fX4_hammerSet_40 σ (nI c) (nI h2) (0 ||| 64) = _ := k2 64
  unfold fX4_hammerSet
  simp only [h5, h6, x_reaches, Option.bind_some, eB_z, e_bnd_def, show (10 : Int32) = nI 10 from rfl, e_eq (show h1 < 2 ^ 31 by omega) (show 10 < 2 ^ 31 by omega), k0, k6]
  by_cases e : h1 = 10
  · rw [if_pos e]; simp [hmN, hmB, e]
  · rw [if_neg e]
    cases hr : rch 0 3 (nI h1) (nI c) (nI ra) (nI wi)
    · simp [hmN, hmB, hr]
    · simp [hmN, hmB, hr, e]
/-- what is heard at cell c at hour h, as bits -/
def setN (cnt : Nat) (sn : Nat → Nat → Nat) (hu h1 h2 ra wi c h : Nat) : Nat := orN (fun s => !hu.testBit s && hB sn ra wi s c h) cnt ||| hmN h1 h2 c ra wi
/-- the scene of now, on the two sides: ferry, hour, hushed, hammers (10: none), rain, wind -/
def ScOk (sc : Nat → Nat) : Prop := sc 0 < 10 ∧ sc 1 < 10 ∧ sc 2 < 64 ∧ sc 3 ≤ 10 ∧ sc 4 ≤ 10 ∧ (sc 3 = 10 → sc 4 = 10) ∧ sc 5 ≤ 4 ∧ sc 6 ≤ 2
def RPX (σ : eSt) (sc : Nat → Nat) : Prop := σ 9 0 = nI (sc 0) ∧ σ 9 1 = nI (sc 1) ∧ σ 9 2 = nI (sc 2) ∧ σ 9 3 = nI (sc 3) ∧ σ 9 4 = nI (sc 4) ∧ σ 9 5 = nI (sc 5) ∧ σ 9 6 = nI (sc 6)
def hv (h : Nat) : Int32 := if h = 10 then -9 else nI h
theorem x_setNow {σ : eSt} {cnt : Nat} {sn : Nat → Nat → Nat} (H : RSX σ cnt sn) {sc : Nat → Nat} (S : ScOk sc) (P : RPX σ sc) {c h : Nat} (hh : h < 10) : fX4_setNow σ (nI c) (nI h) = some (nI (setN cnt sn (sc 2) (sc 3) (sc 4) (sc 5) (sc 6) c h)) := by
  obtain ⟨p0, p1, p2, p3, p4, p5, p6⟩ := P
  obtain ⟨s0, s1, s2, s3, s4, s5, s6, s7⟩ := S
  unfold fX4_setNow
  rw [x_soundSet H s2 p2 p5 p6 hh, p3, p4]
  simp only [Option.bind_some]
  rw [x_hammerSet p5 p6 s3 s4]
  simp only [Option.bind_some, nx_or]
  rfl
/-- what a page of the reference holds of what is heard -/
def HQ (τ : eSt) (q hu h1 h2 ra wi : Nat) : Prop := τ q 2 = nI hu ∧ τ q 4 = hv h1 ∧ τ q 5 = hv h2 ∧ τ q 6 = nI ra ∧ τ q 7 = nI wi ∧ hu < 64 ∧ h1 ≤ 10 ∧ h2 ≤ 10 ∧ wi ≤ 2
theorem y_hears {τ : eSt} {cnt : Nat} {sn : Nat → Nat → Nat} (H : RSY τ cnt sn) {q hu h1 h2 ra wi s c h : Nat} (Q : HQ τ q hu h1 h2 ra wi) (hs : s < cnt) (hc : c < 10) (hh : h < 10) : fX5_hears τ q (nI s) (nI c) (nI h) = some (eB (!hu.testBit s && hB sn ra wi s c h)) := by
  obtain ⟨p2, p4, p5, p6, p7, g1, g2, g3, g4⟩ := Q
  have hcn := H.2.1
  obtain ⟨hv, hb⟩ := H.2.2 s hs
  have b0 := hb 0 (by omega)
  have b2 := hb 2 (by omega)
  have b3 := hb 3 (by omega)
  have e5 : (5 : Int32) * nI s = nI (5 * s) := pk_mul 5 s
  have e1 : nI (5 * s) + 1 = nI (5 * s + 1) := nI_add _ 1
  have e2 : nI (5 * s) + 2 = nI (5 * s + 2) := nI_add _ 2
  have e3 : nI (5 * s) + 3 = nI (5 * s + 3) := nI_add _ 3
  have e4 : nI (5 * s) + 4 = nI (5 * s + 4) := nI_add _ 4
  have v0 : τ 2 (5 * s) = nI (sn s 0) := hv 0 (by omega)
  unfold fX5_hears
  simp only [e_bnd_def, e5, e1, e2, e3, e4, p2, has_bit hu g1 s (by omega), Option.bind_some, eB_z, e_inN (show 5 * s < 2 ^ 31 by omega), e_inN (show 5 * s + 1 < 2 ^ 31 by omega), e_inN (show 5 * s + 2 < 2 ^ 31 by omega), e_inN (show 5 * s + 3 < 2 ^ 31 by omega), e_inN (show 5 * s + 4 < 2 ^ 31 by omega), show 5 * s < 30 by omega, show 5 * s + 1 < 30 by omega, show 5 * s + 2 < 30 by omega, show 5 * s + 3 < 30 by omega, show 5 * s + 4 < 30 by omega, if_true,
    nI_clamp (show 5 * s < 2 ^ 31 by omega), nI_clamp (show 5 * s + 1 < 2 ^ 31 by omega), nI_clamp (show 5 * s + 2 < 2 ^ 31 by omega), nI_clamp (show 5 * s + 3 < 2 ^ 31 by omega), nI_clamp (show 5 * s + 4 < 2 ^ 31 by omega), v0, hv 1 (by omega), hv 2 (by omega), hv 3 (by omega), hv 4 (by omega), e_in32, e_r0, e_r1]
  rw [y_carries (nI (sn s 4)) (nI (sn s 1)) hc (show sn s 0 < 10 by omega) (show wi < 3 by omega) p7, p6]
  simp only [Option.bind_some, eB_z, hB, inI, e_le (show sn s 2 < 2 ^ 31 by omega) (show h < 2 ^ 31 by omega), e_le (show h < 2 ^ 31 by omega) (show sn s 3 < 2 ^ 31 by omega)]
  cases hu.testBit s
  · rw [if_pos rfl]
    cases decide (sn s 2 ≤ h) && decide (h ≤ sn s 3)
    · rfl
    · cases rch (nI (sn s 4)) (nI (sn s 1)) (nI (sn s 0)) (nI c) (nI ra) (nI wi) <;> rfl
  · rfl
theorem hv_10 {h : Nat} (hh : h ≤ 10) : (hv h = -9) = (h = 10) := by
  apply propext
  unfold hv
  by_cases e : h = 10
  · simp [e]
  · rw [if_neg e]
    constructor
    · intro q
      have := congrArg Int32.toInt q
      rw [nI_toInt (by omega)] at this
      exact absurd this (by simp)
    · intro q; exact absurd q e
theorem y_ham {τ : eSt} {q h c ra wi : Nat} (h6 : τ q 6 = nI ra) (h7 : τ q 7 = nI wi) (g : h ≤ 10) (e : ¬ h = 10) (hc : c < 10) (hw : wi ≤ 2) : fX5_carries τ q (hv h) 3 0 (nI c) = some (eB (hmB h c ra wi)) := by
  unfold hv
  rw [if_neg e, y_carries 0 3 hc (show h < 10 by omega) (show wi < 3 by omega) h7, h6]
  simp [hmB, e]
theorem y_heardAt {τ : eSt} {cnt : Nat} {sn : Nat → Nat → Nat} (H : RSY τ cnt sn) {q hu h1 h2 ra wi c h : Nat} (Q : HQ τ q hu h1 h2 ra wi) (hc : c < 10) (hh : h < 10) : fX5_heardAt τ q (nI c) (nI h) = some (nI (setN cnt sn hu h1 h2 ra wi c h)) := by
  have hcn := H.2.1
  obtain ⟨p2, p4, p5, p6, p7, g1, g2, g3, g4⟩ := id Q
  have k2 : ∀ a b : Nat, fX5_heardAt_75 τ q (nI c) (nI a) (nI b) = some (nI ((b ||| a) ||| (if hmB h2 c ra wi = true then 128 else 0))) := by
    intro a b
    unfold fX5_heardAt_75 fX5_heardAt_107 fX5_heardAt_108
    simp only [e_bnd_def, nx_or, p5, hv_10 g3]
    by_cases e : h2 = 10
    · rw [if_pos e]; simp [hmB, e]
    · rw [if_neg e, y_ham p6 p7 g3 e hc g4]
      simp only [Option.bind_some, eB_z]
      cases hmB h2 c ra wi
      · simp
      · simp only [if_true, show (128 : Int32) = nI 128 from rfl, nx_or]; rfl
  unfold fX5_heardAt
  rw [lo_2_or (p := fun s => !hu.testBit s && hB sn ra wi s c h) (N := cnt) (ex := fun a => if τ q 4 = -9 then fX5_heardAt_74 τ q (nI c) a else (fX5_carries τ q (τ q 4) 3 0 (nI c)).bind fun v1 => if v1 = 0 then fX5_heardAt_74 τ q (nI c) a else fX5_heardAt_75 τ q (nI c) 64 a) (by omega)]
  · simp only [p4, hv_10 g2, fX5_heardAt_74, show (0 : Int32) = nI 0 from rfl, show (64 : Int32) = nI 64 from rfl, k2]
    by_cases e : h1 = 10
    · rw [if_pos e]; simp [setN, hmN, hmB, e]
    · have := y_ham p6 p7 g2 e hc g4
      rw [if_neg e, show (nI 0 : Int32) = 0 from rfl, this]
      simp only [Option.bind_some, eB_z, setN, hmN]
      cases hmB h1 c ra wi
      · simp
      · simp [Nat.or_assoc]
  · intro k a i hi
    unfold bX5_heardAt_6 fX5_heardAt_37
    simp only [e_bnd_def, H.1, e_le (show cnt < 2 ^ 31 by omega) (show i < 2 ^ 31 by omega), y_hears H Q hi hc hh, Option.bind_some, eB_z, nI_1]
    rw [if_neg (by omega)]
    cases (!hu.testBit i && hB sn ra wi i c h) <;> simp
  · intro k a
    unfold bX5_heardAt_6
    rw [H.1, if_pos (by rw [e_le (by omega) (by omega)]; omega)]
theorem setN_lt {cnt : Nat} (hc : cnt ≤ 6) (sn : Nat → Nat → Nat) (hu h1 h2 ra wi c h : Nat) : setN cnt sn hu h1 h2 ra wi c h < 256 := by
  unfold setN hmN
  apply Nat.or_lt_two_pow (n := 8)
  · exact Nat.lt_of_lt_of_le (orN_lt _ _) (Nat.pow_le_pow_right (by decide) (by omega))
  · apply Nat.or_lt_two_pow (n := 8)
    · split <;> decide
    · split <;> decide

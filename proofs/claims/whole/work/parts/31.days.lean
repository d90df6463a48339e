/-! math 12: bestHours, days -/
def gSum (W : Nat → Nat) (h : Nat) (i : Nat) (x : Nat) : Nat := x + W ((h + i) % 10)
def sumW (W : Nat → Nat) (n h : Nat) : Nat := itN (gSum W h) n 0 0
theorem sumW_le {W : Nat → Nat} (hW : ∀ h, W h ≤ 10) (n h : Nat) : sumW W n h ≤ 10 * n := by
  unfold sumW
  have : ∀ m, itN (gSum W h) m 0 0 ≤ 10 * m := by
    intro m
    induction m with
    | zero => exact Nat.le_refl 0
    | succ m ih =>
      rw [itN_last]
      have := hW ((h + (0 + m)) % 10)
      unfold gSum
      unfold gSum at ih
      omega
  exact this n
def gB (T : Nat → Nat) (h : Nat) (x : Option (Nat × Nat)) : Option (Nat × Nat) := match x with
  | none => some (h, T h)
  | some p => if T h ≤ p.2 then some p else some (h, T h)
theorem gB_n (T : Nat → Nat) (h : Nat) : gB T h none = some (h, T h) := rfl
theorem gB_s (T : Nat → Nat) (h : Nat) (p : Nat × Nat) : gB T h (some p) = if T h ≤ p.2 then some p else some (h, T h) := rfl
theorem gB_bd {T : Nat → Nat} {B : Nat} (hT : ∀ h, T h ≤ B) : ∀ m, ∀ p, itN (gB T) m 0 none = some p → p.2 ≤ B := by
  intro m
  induction m with
  | zero => intro p hp; rw [itN_0] at hp; cases hp
  | succ m ih =>
    intro p hp
    rw [itN_last] at hp
    cases hx : itN (gB T) m 0 none with
    | none => rw [hx, gB_n] at hp; cases hp; exact hT _
    | some q =>
      rw [hx, gB_s] at hp
      by_cases h : T (0 + m) ≤ q.2
      · rw [if_pos h] at hp
        have e := Option.some.inj hp
        rw [← e]; exact ih q hx
      · rw [if_neg h] at hp; cases hp; exact hT _
theorem gB_some {T : Nat → Nat} (m : Nat) : ∃ p, itN (gB T) (m + 1) 0 none = some p := by
  rw [itN_last]
  cases hx : itN (gB T) m 0 none with
  | none => exact ⟨_, gB_n _ _⟩
  | some q =>
    rw [gB_s]
    by_cases h : T (0 + m) ≤ q.2
    · rw [if_pos h]; exact ⟨_, rfl⟩
    · rw [if_neg h]; exact ⟨_, rfl⟩
def b1 (t : Int32) (x : Option (Nat × Nat)) : Int32 := match x with
  | none => t
  | some p => nI p.1
def b2 (t : Int32) (x : Option (Nat × Nat)) : Int32 := match x with
  | none => t
  | some p => nI p.2
theorem b1_n (t : Int32) : b1 t none = t := rfl
theorem b1_s (t : Int32) (p : Nat × Nat) : b1 t (some p) = nI p.1 := rfl
theorem b2_n (t : Int32) : b2 t none = t := rfl
theorem b2_s (t : Int32) (p : Nat × Nat) : b2 t (some p) = nI p.2 := rfl
theorem nI_neg {n : Nat} {t : Int32} (hn : n < 2 ^ 31) (ht : t < 0) : ¬ nI n ≤ t := by
  rw [e_nle]
  have q1 := Int32.lt_iff_toInt_lt.mp ht
  apply Int32.lt_iff_toInt_lt.mpr
  rw [nI_toInt hn]
  rw [show (0 : Int32).toInt = 0 from rfl] at q1
  omega
/-- the choice of the best start, at any first value below nought -/
theorem gB_up {T : Nat → Nat} {h : Nat} {x : Option (Nat × Nat)} {t1 t2 : Int32} (ht : t2 < 0) (hT : T h < 2 ^ 31) (hx : ∀ p, x = some p → p.2 < 2 ^ 31) : (nI (T h) ≤ b2 t2 x → b1 t1 (gB T h x) = b1 t1 x ∧ b2 t2 (gB T h x) = b2 t2 x) ∧ (¬ nI (T h) ≤ b2 t2 x → b1 t1 (gB T h x) = nI h ∧ b2 t2 (gB T h x) = nI (T h)) := by
  cases x with
  | none =>
    refine ⟨fun q => absurd q (nI_neg hT ht), fun _ => ⟨rfl, rfl⟩⟩
  | some p =>
    rw [b2_s, e_le hT (hx p rfl), gB_s]
    exact ⟨fun q => by rw [if_pos q]; exact ⟨rfl, rfl⟩, fun q => by rw [if_neg q]; exact ⟨rfl, rfl⟩⟩
theorem x_bestIn {σ : eSt} {W : Nat → Nat} (hW : ∀ h, W h ≤ 10) (h19 : ∀ h, h < 10 → σ 19 h = nI (W h)) {n h : Nat} (hn : n ≤ 10) (hh : h < 10) (K : Int32 → Int32 → Int32 → Option (Int32 × eSt)) (a2 a3 a4 : Int32) : lo_2 (bX4_bestHours_74 K σ (nI n) a2 a3 a4 (nI h)) 1000 0 0 = if nI (sumW W n h) ≤ a4 then K a3 a4 (nI (h + 1)) else K (nI h) (nI (sumW W n h)) (nI (h + 1)) := by
  refine (lo_2_ac (b := bX4_bestHours_74 K σ (nI n) a2 a3 a4 (nI h)) (N := n) (fun x : Nat => nI x) (fun _ _ => True) (gSum W h) (fun x => if nI x ≤ a4 then K a3 a4 (nI (h + 1)) else K (nI h) (nI x) (nI (h + 1))) (fun k i x hi _ => ⟨?_, trivial⟩) (fun k x _ => ?_) n 1000 0 0 (by omega) (by omega) trivial).1
  · have er : e_rem (nI h + nI i) 10 = nI ((h + i) % 10) := by rw [nI_add]; exact pk_rem (by omega) (by decide) (by decide)
    have hm : (h + i) % 10 < 10 := Nat.mod_lt _ (by decide)
    unfold bX4_bestHours_74 gSum
    rw [if_neg (by rw [e_le (by omega) (by omega)]; omega), er, if_pos (by rw [e_inN (by omega)]; exact hm), nI_clamp (by omega), h19 _ hm, e_bnd_def, e_bnd_def, nI_add, nI_1]
  · unfold bX4_bestHours_74 fX4_bestHours_118
    rw [if_pos (by rw [e_le (by omega) (by omega)]; omega), e_bnd_def, e_bnd_def, nI_1]
theorem x_bestOut {σ : eSt} {W : Nat → Nat} (hW : ∀ h, W h ≤ 10) (h19 : ∀ h, h < 10 → σ 19 h = nI (W h)) {n : Nat} (hn : n ≤ 10) (a2 : Int32) : lo_3 (bX4_bestHours_61 σ (nI n) a2) 1000 0 (-1) 0 = some (if a2 = 0 then b1 0 (itN (gB (sumW W n)) 10 0 none) else b2 (-1) (itN (gB (sumW W n)) 10 0 none), σ) := by
  have bd : ∀ h, sumW W n h ≤ 100 := fun h => by have := sumW_le hW n h; omega
  have K := (lo_3_aac (b := bX4_bestHours_61 σ (nI n) a2) (N := 10) (fun x : Option (Nat × Nat) => b1 0 x) (fun x => b2 (-1) x) (fun _ x => ∀ p, x = some p → p.2 ≤ 100) (gB (sumW W n)) (fun x => some (if a2 = 0 then b1 0 x else b2 (-1) x, σ)) (fun k h x hh hx => ⟨by
    unfold bX4_bestHours_61
    have hT : sumW W n h < 2 ^ 31 := by have := bd h; omega
    rw [show (10 : Int32) = nI 10 from rfl, if_neg (by rw [e_le (by omega) (by omega)]; omega), x_bestIn hW h19 hn hh]
    obtain ⟨u1, u2⟩ := gB_up (t1 := 0) (t2 := -1) (x := x) (by decide) hT (fun p hp => by have := hx p hp; omega)
    by_cases c : nI (sumW W n h) ≤ b2 (-1) x
    · rw [if_pos c, (u1 c).1, (u1 c).2]
    · rw [if_neg c, (u2 c).1, (u2 c).2], by
    intro p hp
    cases x with
    | none => rw [gB_n] at hp; cases hp; exact bd h
    | some q =>
      rw [gB_s] at hp
      by_cases c : sumW W n h ≤ q.2
      · rw [if_pos c] at hp
        have e := Option.some.inj hp
        rw [← e]; exact hx q rfl
      · rw [if_neg c] at hp; cases hp; exact bd h⟩) (fun k x _ => by
    unfold bX4_bestHours_61
    rw [if_pos (by decide)]
    by_cases c : a2 = 0
    · rw [if_pos c, if_pos c]
    · rw [if_neg c, if_neg c]) 10 1000 0 none (by omega) (by omega) (fun p hp => by cases hp)).1
  exact K
theorem y_bestIn {τ : eSt} {cnt : Nat} {sn : Nat → Nat → Nat} (HY : RSY τ cnt sn) {sc : Nat → Nat} (S : ScOk sc) (PY : PgY (τ 4) sc) {n h : Nat} (hn : n ≤ 10) (hh : h < 10) (a2 : Int32) {W : Nat → Nat} (hW : W = fun h => pcN (sureS (fun c => setN cnt sn (sc 2) (sc 3) (sc 4) (sc 5) (sc 6) c h))) : ∃ τ', (YSame τ τ' ∧ τ' 0 = τ 0) ∧ ∀ (K : Int32 → eSt → Option (Int32 × eSt)), lo_3 (bX5_bestHours_56 K (nI n) a2 (nI h)) 1000 0 0 τ = if nI (sumW W n h) ≤ τ 0 29 then K (nI (h + 1)) (e_up (e_up τ' 0 28 (τ 0 28)) 0 29 (τ 0 29)) else K (nI (h + 1)) (e_up (e_up τ' 0 28 (nI h)) 0 29 (nI (sumW W n h))) := by
  have key := fun K : Int32 → eSt → Option (Int32 × eSt) => lo_3_acs (b := bX5_bestHours_56 K (nI n) a2 (nI h)) (N := n) (fun x : Nat × eSt => nI x.1) (fun x => x.2) (fun i x => x.1 = itN (gSum W h) i 0 0 ∧ YSame τ x.2 ∧ x.2 0 = τ 0) (fun i x => (gSum W h i x.1, filS x.2 13 (fun c => nI (setN cnt sn (sc 2) (sc 3) (sc 4) (sc 5) (sc 6) c ((h + i) % 10))) 10)) (fun x => if nI x.1 ≤ τ 0 29 then K (nI (h + 1)) (e_up (e_up x.2 0 28 (τ 0 28)) 0 29 (τ 0 29)) else K (nI (h + 1)) (e_up (e_up x.2 0 28 (nI h)) 0 29 (nI x.1))) (by
    intro k i x hi hJ
    obtain ⟨j1, j2, j3⟩ := hJ
    have er : e_rem (nI h + nI i) 10 = nI ((h + i) % 10) := by rw [nI_add]; exact pk_rem (by omega) (by decide) (by decide)
    have hm : (h + i) % 10 < 10 := Nat.mod_lt _ (by decide)
    refine ⟨?_, ?_, j2.trans' (YSame.fil (c := 13) _ _ _ (by omega)), ?_⟩
    · unfold bX5_bestHours_56
      rw [if_neg (by rw [e_le (by omega) (by omega)]; omega), er, y_sureAt (HY.same j2) (Or.inl rfl) ((PY.same j2).hq S) hm]
      simp only [Option.bind_some]
      rw [bits_y (sureS_lt _)]
      simp only [Option.bind_some]
      rw [e_bnd_def, e_bnd_def, nI_1, nI_add]
      unfold gSum
      rw [hW]
    · rw [itN_last, ← j1, Nat.zero_add]
    · exact (filS_n (k := 0) x.2 13 (fun c => nI (setN cnt sn (sc 2) (sc 3) (sc 4) (sc 5) (sc 6) c ((h + i) % 10))) 10 (by omega)).trans j3) (by
    intro k x hJ
    have j3 := hJ.2.2
    unfold bX5_bestHours_56 fX5_bestHours_109 fX5_bestHours_131
    rw [if_pos (by rw [e_le (by omega) (by omega)]; omega), j3]
    have n29 : ∀ v, (e_up x.2 0 28 v) 0 29 = τ 0 29 := fun v => by rw [up_o _ _ _ (by omega), j3]
    by_cases c : nI x.1 ≤ τ 0 29
    · rw [if_pos c, if_pos c, e_bnd_def, n29, if_pos c, e_bnd_def, e_bnd_def, nI_1]
    · rw [if_neg c, if_neg c, e_bnd_def, n29, if_neg c, e_bnd_def, e_bnd_def, nI_1]) n 1000 0 (0, τ) (by omega) (by omega) ⟨rfl, YSame.rfl' τ, rfl⟩
  have inv := (key (fun _ _ => none)).2
  refine ⟨_, inv.2, fun K => ?_⟩
  have g4 := (key K).1
  have g4 : lo_3 (bX5_bestHours_56 K (nI n) a2 (nI h)) 1000 0 0 τ = _ := g4
  rw [g4, inv.1]; rfl
theorem st_bestHours : ES_bestHours eI := by
  intro σ z τ y a1 a2 hI
  obtain ⟨cnt, sn, HX, HY⟩ := hI.2.2.1
  obtain ⟨sc, S, PX, PY⟩ := hI.2.2.2.1
  have hys := y00 τ
  have hend : eI σ z (e_up τ 0 0 0) y := hI.same (XSame.rfl' σ) hys
  have HY' := HY.same hys
  have PY' := PY.same hys
  unfold fX4_bestHours fX5_bestHours
  rw [e_bnd_def]
  simp only [x_isFS, e_in1_10, e_in0_1, Option.bind_some, eB_z]
  by_cases g1 : a1 < 1
  · rw [if_pos g1, inI_lo g1, if_pos rfl]
    exact ⟨_, _, _, rfl, rfl, hend⟩
  rw [if_neg g1]
  by_cases g2 : 10 < a1
  · rw [if_pos g2, inI_hi g2, if_pos rfl]
    exact ⟨_, _, _, rfl, rfl, hend⟩
  rw [if_neg g2, inI_t g1 g2, if_neg b_tf]
  obtain ⟨n, hn, rfl⟩ := in_wide (h := 10) (lo := 1) (hi := 10) (by omega) (inI_t g1 g2) (by decide) (by decide)
  by_cases h2 : inI a2 0 1 = true
  · rw [h2, if_neg b_tf, if_neg b_tf, e_bnd_def, e_bnd_def]
    obtain ⟨W, hWd⟩ : ∃ W : Nat → Nat, W = fun h => pcN (sureS (fun c => setN cnt sn (sc 2) (sc 3) (sc 4) (sc 5) (sc 6) c h)) := ⟨_, rfl⟩
    have hW : ∀ h, W h ≤ 10 := fun h => by rw [hWd]; exact pcN_le _
    have bd : ∀ h, sumW W n h ≤ 100 := fun h => by have := sumW_le hW n h; omega
    obtain ⟨p, hp⟩ := gB_some (T := sumW W n) 9
    -- the class
    obtain ⟨σ', ⟨x1, x2⟩, x3⟩ := re_cs (b := bX4_bestHours_23 (nI n) a2) (N := 10) (fun i ρ => XSame σ ρ ∧ ∀ h, h < i → ρ 19 h = nI (W h)) (fun ρ => lo_3 (bX4_bestHours_61 ρ (nI n) a2) 1000 0 (-1) 0) (by
      intro i ρ hi hJ
      obtain ⟨j1, j2⟩ := hJ
      obtain ⟨ρ2, e1, e2, e3, e4⟩ := x_fillSetsNow (HX.same j1) S (PX.same j1) hi
      refine ⟨e_up ρ2 19 i (nI (W i)), fun k => ?_, (j1.trans' e2).trans' (XSame.up _ _ _ (by omega)), fun h hh => ?_⟩
      · unfold bX4_bestHours_23
        rw [show (10 : Int32) = nI 10 from rfl, if_neg (by rw [e_le (by omega) (by omega)]; omega), e1]
        simp only [Option.bind_some]
        rw [show (255 : Int32) = nI 255 from rfl, x_sureCount e3 (fun c _ => setN_lt HX.2.1 sn _ _ _ _ _ c i) (by omega), show (255 ||| 192 : Nat) = 255 from rfl]
        simp only [setN_255 HX.2.1, Option.bind_some]
        rw [if_pos (by rw [e_inN (by omega)]; exact hi), nI_clamp (by omega), e_bnd_def, e_bnd_def, nI_1, hWd]
      · by_cases e : h = i
        · subst e; exact up_s _ _ _ _
        · rw [up_o _ _ _ e, e4 19 (by omega)]; exact j2 h (by omega)) (by
      intro k ρ hJ
      unfold bX4_bestHours_23
      rw [if_pos (by decide)]) 10 1000 0 σ (by omega) (by omega) ⟨XSame.rfl' σ, fun h hh => by omega⟩
    have x3 : lo_2 (bX4_bestHours_23 (nI n) a2) 1000 0 σ = _ := x3
    rw [x3, x_bestOut hW x2 hn a2, hp, b1_s, b2_s]
    -- the reference
    have y0 : YSame τ (e_up (e_up (e_up τ 0 0 0) 0 29 (-9)) 0 28 (-9)) := hys.trans' ((YSame.up0 _ _ (by omega) (by omega) (by omega) (by omega)).trans' (YSame.up0 _ _ (by omega) (by omega) (by omega) (by omega)))
    have y28 : (e_up (e_up (e_up τ 0 0 0) 0 29 (-9)) 0 28 (-9)) 0 28 = b1 (-9) none := up_s _ _ _ _
    have y29 : (e_up (e_up (e_up τ 0 0 0) 0 29 (-9)) 0 28 (-9)) 0 29 = b2 (-9) none := by rw [up_o _ _ _ (by omega), up_s, b2_n]
    generalize e_up (e_up (e_up τ 0 0 0) 0 29 (-9)) 0 28 (-9) = τ0 at y0 y28 y29 ⊢
    obtain ⟨τ', ⟨k1, k2, k3⟩, k4⟩ := re_cs (b := bX5_bestHours_44 (nI n) a2) (N := 10) (fun i ρ => YSame τ ρ ∧ ρ 0 28 = b1 (-9) (itN (gB (sumW W n)) i 0 none) ∧ ρ 0 29 = b2 (-9) (itN (gB (sumW W n)) i 0 none)) (fun ρ => some (if a2 = 0 then ρ 0 28 else ρ 0 29, ρ)) (by
      intro i ρ hi hJ
      obtain ⟨j1, j2, j3⟩ := hJ
      have hT : sumW W n i < 2 ^ 31 := by have := bd i; omega
      obtain ⟨u1, u2⟩ := gB_up (t1 := -9) (t2 := -9) (x := itN (gB (sumW W n)) i 0 none) (by decide) hT (fun p hp => by have := gB_bd bd i p hp; omega)
      obtain ⟨ρ1, ⟨s1, s2⟩, yb⟩ := y_bestIn (HY.same j1) S (PY.same j1) hn hi a2 hWd
      rw [itN_last, Nat.zero_add]
      have op : ∀ k, bX5_bestHours_44 (nI n) a2 k (nI i) ρ = lo_3 (bX5_bestHours_56 k (nI n) a2 (nI i)) 1000 0 0 ρ := fun k => by
        unfold bX5_bestHours_44
        rw [show (10 : Int32) = nI 10 from rfl, if_neg (by rw [e_le (by omega) (by omega)]; omega)]
      by_cases c : nI (sumW W n i) ≤ b2 (-9) (itN (gB (sumW W n)) i 0 none)
      · refine ⟨e_up (e_up ρ1 0 28 (ρ 0 28)) 0 29 (ρ 0 29), fun k => ?_, (j1.trans' s1).trans' ((YSame.up0 _ _ (by omega) (by omega) (by omega) (by omega)).trans' (YSame.up0 _ _ (by omega) (by omega) (by omega) (by omega))), ?_, ?_⟩
        · rw [op, yb, if_pos (by rw [j3]; exact c)]
        · rw [up_o _ _ _ (by omega), up_s, (u1 c).1]; exact j2
        · rw [up_s, (u1 c).2]; exact j3
      · refine ⟨e_up (e_up ρ1 0 28 (nI i)) 0 29 (nI (sumW W n i)), fun k => ?_, (j1.trans' s1).trans' ((YSame.up0 _ _ (by omega) (by omega) (by omega) (by omega)).trans' (YSame.up0 _ _ (by omega) (by omega) (by omega) (by omega))), ?_, ?_⟩
        · rw [op, yb, if_neg (by rw [j3]; exact c)]
        · rw [up_o _ _ _ (by omega), up_s, (u2 c).1]
        · rw [up_s, (u2 c).2]) (by
      intro k ρ hJ
      unfold bX5_bestHours_44
      rw [if_pos (by decide)]
      by_cases e : a2 = 0
      · rw [if_pos e, if_pos e]
      · rw [if_neg e, if_neg e]) 10 1000 0 τ0 (by omega) (by omega) ⟨y0, by rw [itN_0]; exact y28, by rw [itN_0]; exact y29⟩
    refine ⟨_, σ', τ', rfl, ?_, hI.same x1 k1⟩
    have k4 : lo_2 (bX5_bestHours_44 (nI n) a2) 1000 0 τ0 = _ := k4
    rw [k4, k2, k3, hp, b1_s, b2_s]
  · rw [b_nt h2, if_pos rfl, if_pos rfl]
    exact ⟨_, _, _, rfl, rfl, hend⟩
-- days
theorem lu33 (z : Int64) : ∃ f, f < 64 ∧ (e_lrem (e_lushr z 33) 64).toInt32 = nI f := by
  have h33 : ((33 : Int32).toInt64.toUInt64 &&& Int64.toUInt64 63) = (33 : UInt64) := by decide +kernel
  have hz : z.toUInt64.toNat < 2 ^ 64 := z.toUInt64.toNat_lt
  have lt : z.toUInt64.toNat / 2 ^ 33 < 2 ^ 31 := by omega
  have u : (z.toUInt64 >>> (33 : UInt64)).toNat = z.toUInt64.toNat / 2 ^ 33 := by
    rw [UInt64.toNat_shiftRight, Nat.shiftRight_eq_div_pow]; rfl
  have e : e_lushr z 33 = lN (z.toUInt64.toNat / 2 ^ 33) := by
    unfold e_lushr
    rw [h33]
    apply Int64.toBitVec_inj.mp
    apply BitVec.eq_of_toNat_eq
    show (z.toUInt64 >>> (33 : UInt64)).toNat = (BitVec.ofNat 64 _).toNat
    rw [u, BitVec.toNat_ofNat, Nat.mod_eq_of_lt (by omega)]
  refine ⟨z.toUInt64.toNat / 2 ^ 33 % 64, Nat.mod_lt _ (by decide), ?_⟩
  rw [e]
  generalize z.toUInt64.toNat / 2 ^ 33 = m at lt
  show (lN m - lN m / lN 64 * lN 64).toInt32 = _
  rw [pk_lRem (by omega) (by decide) (by decide), lN_i]
def nxZ (z : Int64) : Int64 := (z * 6364136223846793005) + 1442695040888963407
def flN (z : Int64) : Nat := ((e_lrem (e_lushr z 33) 64).toInt32).toNatClampNeg
theorem flN_e (z : Int64) : (e_lrem (e_lushr z 33) 64).toInt32 = nI (flN z) ∧ flN z < 64 := by
  obtain ⟨f, h1, h2⟩ := lu33 z
  unfold flN
  rw [h2, nI_clamp (by omega)]
  exact ⟨rfl, h1⟩
def gD (D : Nat → Nat → Bool) (h0 : Nat) (i : Nat) (x : Nat × Int64) : Nat × Int64 := (if D ((h0 + i) % 10) (flN (nxZ x.2)) = true then x.1 + 1 else x.1, nxZ x.2)
theorem st_days : ES_days eI := by
  intro σ z τ y a1 hI
  obtain ⟨cnt, sn, HX, HY⟩ := hI.2.2.1
  obtain ⟨sc, S, PX, PY⟩ := hI.2.2.2.1
  have hcn := HX.2.1
  have hys := y00 τ
  have hend : eI σ z (e_up τ 0 0 0) y := hI.same (XSame.rfl' σ) hys
  have hzy := hI.1
  subst hzy
  unfold fX4_days fX5_days
  rw [e_bnd_def, e_bnd_def, e_in1_30]
  simp only [Option.bind_some, eB_z]
  by_cases g1 : a1 < 1
  · rw [if_pos g1, inI_lo g1, if_pos rfl]
    exact ⟨_, _, _, _, _, rfl, rfl, hend⟩
  rw [if_neg g1]
  by_cases g2 : 30 < a1
  · rw [if_neg (show ¬ a1 ≤ 30 by rw [e_nle]; exact g2), inI_hi g2, if_pos rfl]
    exact ⟨_, _, _, _, _, rfl, rfl, hend⟩
  rw [if_pos (show a1 ≤ 30 by rw [e_nlt] at g2; exact g2), inI_t g1 g2, if_neg b_tf]
  obtain ⟨n, hn, rfl⟩ := in_wide (h := 30) (lo := 1) (hi := 30) (by omega) (inI_t g1 g2) (by decide) (by decide)
  obtain ⟨D, hD⟩ : ∃ D : Nat → Nat → Bool, D = fun h f => (sureS (fun c => setN cnt sn (sc 2 ||| f) (sc 3) (sc 4) (sc 5) (sc 6) c h)).testBit (sc 0) := ⟨_, rfl⟩
  have huf : ∀ f, f < 64 → sc 2 ||| f < 64 := fun f hf => Nat.or_lt_two_pow (n := 6) S.2.2.1 hf
  obtain ⟨v1, v2, σ', z', ⟨x1, x2, x3, x4⟩, x5⟩ := re_aacss (b := bX4_days_27 (nI n)) (N := n) (fun i a2 a3 ρ w => a2 = nI ((sc 1 + i) % 10) ∧ a3 = nI (itN (gD D (sc 1)) i 0 (0, y)).1 ∧ XSame σ ρ ∧ w = (itN (gD D (sc 1)) i 0 (0, y)).2) (fun _ a3 ρ w => some (a3, ρ, w)) (by
    intro i a2 a3 ρ w hi hJ
    obtain ⟨j1, j2, j3, j4⟩ := hJ
    have hm : (sc 1 + i) % 10 < 10 := Nat.mod_lt _ (by decide)
    obtain ⟨ρ2, e1, e2, e3, e4⟩ := x_fillSetsNow (HX.same j3) S (PX.same j3) hm
    have s2 := j3.trans' e2
    have PX2 := PX.same s2
    obtain ⟨f1, f2⟩ := flN_e (nxZ w)
    have hx : e_rem (nI ((sc 1 + i) % 10 + 1)) 10 = nI ((sc 1 + (i + 1)) % 10) := by
      rw [show e_rem (nI ((sc 1 + i) % 10 + 1)) 10 = nI (((sc 1 + i) % 10 + 1) % 10) from pk_rem (by omega) (by decide) (by decide)]
      congr 1; omega
    have op : ∀ k, bX4_days_27 (nI n) k a2 a3 (nI i) ρ w = k (nI ((sc 1 + (i + 1)) % 10)) (if D ((sc 1 + i) % 10) (flN (nxZ w)) = true then a3 + 1 else a3) (nI (i + 1)) ρ2 (nxZ w) := by
      intro k
      unfold bX4_days_27
      rw [if_neg (by rw [e_le (by omega) (by omega)]; omega), e_bnd_def]
      show e_bnd ((e_lrem (e_lushr (nxZ w) 33) 64).toInt32) _ = _
      rw [e_bnd_def, f1, j1, e1]
      simp only [Option.bind_some]
      rw [x_live (HX.same s2) S.2.2.1 PX2.2.2.1]
      simp only [Option.bind_some]
      rw [PX2.1, and_not _ (liveN_lt hcn _) _ f2, live_or hcn, x_isSure e3 (fun c _ => setN_lt hcn sn _ _ _ _ _ c _) (Nat.lt_trans (liveN_lt hcn _) (by decide)) S.1]
      simp only [Option.bind_some, eB_z, setN_live hcn]
      unfold fX4_days_94 fX4_hourBehind
      simp only [Option.bind_some, e_bnd_def, hx, nI_1, hD]
      cases (sureS (fun c => setN cnt sn (sc 2 ||| flN (nxZ w)) (sc 3) (sc 4) (sc 5) (sc 6) c ((sc 1 + i) % 10))).testBit (sc 0)
      · rfl
      · rfl
    refine ⟨_, _, _, _, op, rfl, ?_, s2, ?_⟩
    · rw [itN_last, Nat.zero_add, j2]
      show _ = nI (if D ((sc 1 + i) % 10) (flN (nxZ (itN (gD D (sc 1)) i 0 (0, y)).2)) = true then _ else _)
      rw [← j4]
      cases D ((sc 1 + i) % 10) (flN (nxZ w))
      · rfl
      · rw [if_pos rfl, if_pos rfl, nI_1]
    · rw [itN_last, Nat.zero_add, j4]; rfl) (by
    intro k a2 a3 ρ w hJ
    unfold bX4_days_27
    rw [if_pos (by rw [e_le (by omega) (by omega)]; omega)]) n 1000 0 (σ 9 1) 0 σ y (by omega) (by omega) ⟨by rw [PX.2.1, Nat.add_zero, Nat.mod_eq_of_lt S.2.1], by rw [itN_0]; rfl, XSame.rfl' σ, by rw [itN_0]⟩
  obtain ⟨w1, τ', y', ⟨r1, r2, r3⟩, r5⟩ := re_acss (b := bX5_days_24 (nI n)) (N := n) (fun i a2 ρ w => a2 = nI (itN (gD D (sc 1)) i 0 (0, y)).1 ∧ YSame τ ρ ∧ w = (itN (gD D (sc 1)) i 0 (0, y)).2) (fun a3 ρ w => some (a3, ρ, w)) (by
    intro i a2 ρ w hi hJ
    obtain ⟨j2, j3, j4⟩ := hJ
    have hm : (sc 1 + i) % 10 < 10 := Nat.mod_lt _ (by decide)
    obtain ⟨f1, f2⟩ := flN_e (nxZ w)
    obtain ⟨ρ2, t1, t2⟩ := y_trial (HY.same j3) S (PY.same j3) (huf _ f2) hm
    have PYi := PY.same j3
    have h5 : yB ρ 5 2 = nI (sc 2) := by rw [yB_5 ρ (by omega)]; exact PYi.2.2.1
    have h41 : ∀ v, (e_up (yB ρ) 5 2 v) 4 1 = nI (sc 1) := fun v => by rw [up_n _ _ _ (by omega), yB_4]; exact PYi.2.1
    have hx : e_rem (nI (sc 1) + nI i) 10 = nI ((sc 1 + i) % 10) := by
      have := S.2.1
      rw [nI_add]; exact pk_rem (by omega) (by decide) (by decide)
    have h40 : ρ2 4 0 = nI (sc 0) := by rw [t1.2 4 (by omega) (by omega) (by omega) (by omega)]; exact PYi.1
    have op : ∀ k, bX5_days_24 (nI n) k a2 (nI i) ρ w = k (if D ((sc 1 + i) % 10) (flN (nxZ w)) = true then a2 + 1 else a2) (nI (i + 1)) ρ2 (nxZ w) := by
      intro k
      unfold bX5_days_24
      rw [if_neg (by rw [e_le (by omega) (by omega)]; omega), e_bnd_def, y_begin']
      simp only [Option.bind_some]
      rw [e_bnd_def]
      show (fX5_sureAt (e_up (yB ρ) 5 2 (yB ρ 5 2 ||| (e_lrem (e_lushr (nxZ w) 33) 64).toInt32)) 5 _).bind _ = _
      rw [f1, h5, nx_or, h41, hx, t2]
      simp only [Option.bind_some]
      rw [h40, has1024 _ (sureS_lt _) _ S.1]
      unfold fX5_days_107
      simp only [Option.bind_some, eB_z, e_bnd_def, nI_1, hD]
      cases (sureS (fun c => setN cnt sn (sc 2 ||| flN (nxZ w)) (sc 3) (sc 4) (sc 5) (sc 6) c ((sc 1 + i) % 10))).testBit (sc 0)
      · rw [if_pos rfl, j2, show nI (itN (gD D (sc 1)) i 0 (0, y)).1 + 0 = nI (itN (gD D (sc 1)) i 0 (0, y)).1 from nI_add _ 0]; rfl
      · rfl
    refine ⟨_, _, _, op, ?_, j3.trans' t1, ?_⟩
    · rw [itN_last, Nat.zero_add, j2]
      show _ = nI (if D ((sc 1 + i) % 10) (flN (nxZ (itN (gD D (sc 1)) i 0 (0, y)).2)) = true then _ else _)
      rw [← j4]
      cases D ((sc 1 + i) % 10) (flN (nxZ w))
      · rfl
      · rw [if_pos rfl, if_pos rfl, nI_1]
    · rw [itN_last, Nat.zero_add, j4]; rfl) (by
    intro k a2 ρ w hJ
    unfold bX5_days_24
    rw [if_pos (by rw [e_le (by omega) (by omega)]; omega)]) n 1000 0 0 (e_up τ 0 0 0) y (by omega) (by omega) ⟨by rw [itN_0]; rfl, hys, by rw [itN_0]⟩
  have x5 : lo_5 (bX4_days_27 (nI n)) 1000 (σ 9 1) 0 0 σ y = _ := x5
  have r5 : lo_4 (bX5_days_24 (nI n)) 1000 0 0 (e_up τ 0 0 0) y = _ := r5
  rw [x5, r5, x2, x4, r1, r3]
  exact ⟨_, _, _, _, _, rfl, rfl, rfl, (hI.same x3 r2).2⟩

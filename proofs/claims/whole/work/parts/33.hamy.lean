/-! math 14: hammers, the reference's side -/
theorem y_sureWith {τ : eSt} {cnt : Nat} {sn : Nat → Nat → Nat} (HY : RSY τ cnt sn) {sc : Nat → Nat} (S : ScOk sc) (PY : PgY (τ 4) sc) {a b h : Nat} (ha : a ≤ 10) (hb : b ≤ 10) (hh : h < 10) : ∃ τ', (YSame τ τ' ∧ τ' 0 = τ 0) ∧ fX5_sureWith τ (hv a) (hv b) (nI h) = some (nI (pcN (sureS (fun c => setN cnt sn (sc 2) a b (sc 5) (sc 6) c h))), τ') := by
  have s1 : YSame τ (e_up (e_up (yB τ) 5 4 (hv a)) 5 5 (hv b)) := (yB_same τ).trans' ((YSame.upk _ _ _ (by omega)).trans' (YSame.upk _ _ _ (by omega)))
  have k0 : (e_up (e_up (yB τ) 5 4 (hv a)) 5 5 (hv b)) 0 = τ 0 := by
    rw [up_n _ _ _ (by omega), up_n _ _ _ (by omega)]; unfold yB; rw [filS_n _ _ _ _ (by omega)]
  have Q : HQ (e_up (e_up (yB τ) 5 4 (hv a)) 5 5 (hv b)) 5 (sc 2) a b (sc 5) (sc 6) := by
    obtain ⟨q1, q2, q3, q4, q5, q6, q7, q8, q9⟩ := yB_hq S PY
    exact ⟨by rw [up_o _ _ _ (by omega), up_o _ _ _ (by omega)]; exact q1, by rw [up_o _ _ _ (by omega), up_s], up_s _ _ _ _, by rw [up_o _ _ _ (by omega), up_o _ _ _ (by omega)]; exact q4, by rw [up_o _ _ _ (by omega), up_o _ _ _ (by omega)]; exact q5, q6, ha, hb, q9⟩
  refine ⟨filS (e_up (e_up (yB τ) 5 4 (hv a)) 5 5 (hv b)) 13 (fun c => nI (setN cnt sn (sc 2) a b (sc 5) (sc 6) c h)) 10, ⟨s1.trans' (YSame.fil (c := 13) _ _ _ (by omega)), by rw [filS_n _ _ _ _ (by omega)]; exact k0⟩, ?_⟩
  have e := y_sureAt (q := 5) (HY.same s1) (Or.inr rfl) Q hh
  have eb := bits_y (sureS_lt (fun c => setN cnt sn (sc 2) a b (sc 5) (sc 6) c h))
  unfold fX5_sureWith
  rw [y_begin', Option.bind_some, e_bnd_def, e_bnd_def, e, Option.bind_some]
  dsimp only
  rw [eb, Option.bind_some]
theorem hv_lt {a : Nat} (h : a < 10) : hv a = nI a := by
  unfold hv
  rw [if_neg (show ¬ a = 10 by omega)]
theorem f82 {k : Int32 → eSt → Option eSt} {ρ : eSt} {a1 a2 a3 : Int32} (h : ¬ ρ 0 26 = -9) : bX5_findHammers_82 a1 a2 k a3 ρ = some ρ := by
  unfold bX5_findHammers_82
  by_cases c : 100 ≤ a3
  · rw [if_pos c]
  · rw [if_neg c, if_neg h]
theorem y_find2 {τ : eSt} {V : Nat → Nat → Nat} {n h : Nat} (hn : n ≤ 10) (hV : ∀ a b, V a b ≤ 10) (hst : ∀ ρ, YSame τ ρ → ∀ a b, a ≤ 10 → b ≤ 10 → ∃ ρ', (YSame τ ρ' ∧ ρ' 0 = ρ 0) ∧ fX5_sureWith ρ (hv a) (hv b) (nI h) = some (nI (V a b), ρ')) : ∀ m r, r + m = 100 → ∀ q, m + 1 < q → ∀ ρ, YSame τ ρ → ρ 0 26 = -9 → ∃ ρ', YSame τ ρ' ∧ lo_2 (bX5_findHammers_82 (nI h) (nI n)) q (nI r) ρ = some ρ' ∧ ρ' 0 26 = (match fstF (p2F V n) m r with | some _ => 2 | none => -9) ∧ ρ' 0 27 = (match fstF (p2F V n) m r with | some r' => nI r' | none => ρ 0 27) := by
  have fin : ∀ (k : Int32 → eSt → Option eSt) (ρ : eSt), bX5_findHammers_82 (nI h) (nI n) k (nI 100) ρ = some ρ := by
    intro k ρ
    unfold bX5_findHammers_82
    rw [if_pos (by decide)]
  have sk : ∀ (k : Int32 → eSt → Option eSt) (r : Nat) (ρ : eSt), r < 100 → ρ 0 26 = -9 → r % 10 ≤ r / 10 → bX5_findHammers_82 (nI h) (nI n) k (nI r) ρ = k (nI (r + 1)) ρ := by
    intro k r ρ hr h26 hle
    unfold bX5_findHammers_82 fX5_findHammers_135
    rw [show (100 : Int32) = nI 100 from rfl, if_neg (by rw [e_le (by omega) (by omega)]; omega), if_pos h26, show e_rem (nI r) 10 = nI (r % 10) from pk_rem (by omega) (by decide) (by decide), show nI r / 10 = nI (r / 10) from pk_div (by omega) (by decide) (by decide), if_pos (by rw [e_le (by omega) (by omega)]; exact hle), e_bnd_def, nI_1]
  have step : ∀ (k : Int32 → eSt → Option eSt) (r v : Nat) (ρ ρ1 : eSt), r < 100 → ρ 0 26 = -9 → r / 10 < r % 10 → v ≤ 10 → fX5_sureWith ρ (hv (r / 10)) (hv (r % 10)) (nI h) = some (nI v, ρ1) → bX5_findHammers_82 (nI h) (nI n) k (nI r) ρ = if n ≤ v then k (nI (r + 1)) (e_up (e_up ρ1 0 26 2) 0 27 (nI r)) else k (nI (r + 1)) ρ1 := by
    intro k r v ρ ρ1 hr h26 hlt hv10 hs
    rw [hv_lt (show r / 10 < 10 by omega), hv_lt (show r % 10 < 10 by omega)] at hs
    unfold bX5_findHammers_82 fX5_findHammers_135
    rw [show (100 : Int32) = nI 100 from rfl, if_neg (by rw [e_le (by omega) (by omega)]; omega), if_pos h26, show e_rem (nI r) 10 = nI (r % 10) from pk_rem (by omega) (by decide) (by decide), show nI r / 10 = nI (r / 10) from pk_div (by omega) (by decide) (by decide), if_neg (by rw [e_le (by omega) (by omega)]; omega), hs]
    simp only [Option.bind_some]
    by_cases c : n ≤ v
    · rw [if_neg (by rw [e_lt (by omega) (by omega)]; omega), if_pos c, e_bnd_def, e_bnd_def, e_bnd_def, nI_1]
    · rw [if_pos (by rw [e_lt (by omega) (by omega)]; omega), if_neg c, e_bnd_def, nI_1]
  intro m
  induction m with
  | zero =>
    intro r hr q hq ρ hρ h26
    obtain ⟨q, rfl⟩ : ∃ r, q = r + 1 := ⟨q - 1, by omega⟩
    have : r = 100 := by omega
    subst this
    exact ⟨ρ, hρ, by rw [lo_2_step, fin], by rw [fstF_0]; exact h26, by rw [fstF_0]⟩
  | succ m ih =>
    intro r hr q hq ρ hρ h26
    obtain ⟨q, rfl⟩ : ∃ r, q = r + 1 := ⟨q - 1, by omega⟩
    by_cases o : r / 10 < r % 10
    · obtain ⟨ρ1, ⟨h1, h0⟩, h2⟩ := hst ρ hρ (r / 10) (r % 10) (by omega) (by omega)
      by_cases c : n ≤ V (r / 10) (r % 10)
      · have pt : p2F V n r = true := by unfold p2F; rw [decide_eq_true o, decide_eq_true c]; rfl
        have e26 : (e_up (e_up ρ1 0 26 2) 0 27 (nI r)) 0 26 = 2 := by rw [up_o _ _ _ (by omega), up_s]
        have hne : ¬ (e_up (e_up ρ1 0 26 2) 0 27 (nI r)) 0 26 = -9 := fun q => nI_m9 (p := 2) (by omega) (e26.symm.trans q)
        obtain ⟨q, rfl⟩ : ∃ r, q = r + 1 := ⟨q - 1, by omega⟩
        refine ⟨e_up (e_up ρ1 0 26 2) 0 27 (nI r), h1.trans' ((YSame.up0 _ _ (by omega) (by omega) (by omega) (by omega)).trans' (YSame.up0 _ _ (by omega) (by omega) (by omega) (by omega))), ?_, by rw [fstF_t pt]; exact e26, by rw [fstF_t pt]; exact up_s _ _ _ _⟩
        rw [lo_2_step, step _ r _ ρ ρ1 (by omega) h26 o (hV _ _) h2, if_pos c, lo_2_step, f82 hne]
      · have pf : p2F V n r = false := by unfold p2F; rw [decide_eq_true o, decide_eq_false c]; rfl
        obtain ⟨ρ', i1, i2, i3, i4⟩ := ih (r + 1) (by omega) q (by omega) ρ1 h1 (by rw [h0]; exact h26)
        exact ⟨ρ', i1, by rw [lo_2_step, step _ r _ ρ ρ1 (by omega) h26 o (hV _ _) h2, if_neg c]; exact i2, by rw [fstF_f pf]; exact i3, by rw [fstF_f pf, i4, h0]⟩
    · have pf : p2F V n r = false := by unfold p2F; rw [decide_eq_false o]; rfl
      obtain ⟨ρ', i1, i2, i3, i4⟩ := ih (r + 1) (by omega) q (by omega) ρ hρ h26
      exact ⟨ρ', i1, by rw [lo_2_step, sk _ r ρ (by omega) h26 (by omega)]; exact i2, by rw [fstF_f pf]; exact i3, by rw [fstF_f pf]; exact i4⟩
theorem f37 {k : Int32 → eSt → Option eSt} {ρ : eSt} {a1 a2 a3 : Int32} (h : ¬ ρ 0 26 = -9) : bX5_findHammers_37 a1 a2 k a3 ρ = some ρ := by
  have e80 : fX5_findHammers_80 ρ a1 a2 = some ρ := by
    have t : ∀ q, lo_2 (bX5_findHammers_82 a1 a2) (q + 1) 0 ρ = some ρ := fun q => by rw [lo_2_step, f82 h]
    exact t 999
  unfold bX5_findHammers_37
  by_cases c : 10 ≤ a3
  · rw [if_pos c, e80]
  · rw [if_neg c, if_neg h, e80]
theorem y_find1 {τ : eSt} {V : Nat → Nat → Nat} {n h : Nat} (hn : n ≤ 10) (hV : ∀ a b, V a b ≤ 10) (hst : ∀ ρ, YSame τ ρ → ∀ a b, a ≤ 10 → b ≤ 10 → ∃ ρ', (YSame τ ρ' ∧ ρ' 0 = ρ 0) ∧ fX5_sureWith ρ (hv a) (hv b) (nI h) = some (nI (V a b), ρ')) : ∀ m a, a + m = 10 → ∀ q, m + 1 < q → ∀ ρ, YSame τ ρ → ρ 0 26 = -9 → ∃ ρ', YSame τ ρ' ∧ (match fstF (p1F V n) m a with | some r => lo_2 (bX5_findHammers_37 (nI h) (nI n)) q (nI a) ρ = some ρ' ∧ ρ' 0 26 = 1 ∧ ρ' 0 27 = nI r | none => lo_2 (bX5_findHammers_37 (nI h) (nI n)) q (nI a) ρ = fX5_findHammers_80 ρ' (nI h) (nI n) ∧ ρ' 0 = ρ 0) := by
  have fin : ∀ (k : Int32 → eSt → Option eSt) (ρ : eSt), bX5_findHammers_37 (nI h) (nI n) k (nI 10) ρ = fX5_findHammers_80 ρ (nI h) (nI n) := by
    intro k ρ
    unfold bX5_findHammers_37
    rw [if_pos (by decide)]
  have step : ∀ (k : Int32 → eSt → Option eSt) (a v : Nat) (ρ ρ1 : eSt), a < 10 → ρ 0 26 = -9 → v ≤ 10 → fX5_sureWith ρ (hv a) (hv 10) (nI h) = some (nI v, ρ1) → bX5_findHammers_37 (nI h) (nI n) k (nI a) ρ = if n ≤ v then k (nI (a + 1)) (e_up (e_up ρ1 0 26 1) 0 27 (nI a)) else k (nI (a + 1)) ρ1 := by
    intro k a v ρ ρ1 ha h26 hv10 hs
    rw [hv_lt ha, show hv 10 = -9 from rfl] at hs
    unfold bX5_findHammers_37 fX5_findHammers_74
    rw [show (10 : Int32) = nI 10 from rfl, if_neg (by rw [e_le (by omega) (by omega)]; omega), if_pos h26, hs]
    simp only [Option.bind_some]
    by_cases c : n ≤ v
    · rw [if_neg (by rw [e_lt (by omega) (by omega)]; omega), if_pos c, e_bnd_def, e_bnd_def, e_bnd_def, nI_1]
    · rw [if_pos (by rw [e_lt (by omega) (by omega)]; omega), if_neg c, e_bnd_def, nI_1]
  intro m
  induction m with
  | zero =>
    intro a ha q hq ρ hρ h26
    obtain ⟨q, rfl⟩ : ∃ r, q = r + 1 := ⟨q - 1, by omega⟩
    have : a = 10 := by omega
    subst this
    refine ⟨ρ, hρ, ?_⟩
    rw [fstF_0]
    exact ⟨by rw [lo_2_step, fin], rfl⟩
  | succ m ih =>
    intro a ha q hq ρ hρ h26
    obtain ⟨q, rfl⟩ : ∃ r, q = r + 1 := ⟨q - 1, by omega⟩
    obtain ⟨ρ1, ⟨h1, h0⟩, h2⟩ := hst ρ hρ a 10 (by omega) (by omega)
    by_cases c : n ≤ V a 10
    · have e26 : (e_up (e_up ρ1 0 26 1) 0 27 (nI a)) 0 26 = 1 := by rw [up_o _ _ _ (by omega), up_s]
      have hne : ¬ (e_up (e_up ρ1 0 26 1) 0 27 (nI a)) 0 26 = -9 := fun q => nI_m9 (p := 1) (by omega) (e26.symm.trans q)
      obtain ⟨q, rfl⟩ : ∃ r, q = r + 1 := ⟨q - 1, by omega⟩
      refine ⟨e_up (e_up ρ1 0 26 1) 0 27 (nI a), h1.trans' ((YSame.up0 _ _ (by omega) (by omega) (by omega) (by omega)).trans' (YSame.up0 _ _ (by omega) (by omega) (by omega) (by omega))), ?_⟩
      rw [fstF_t (show p1F V n a = true from decide_eq_true c)]
      refine ⟨?_, e26, up_s _ _ _ _⟩
      rw [lo_2_step, step _ a _ ρ ρ1 (by omega) h26 (hV _ _) h2, if_pos c, lo_2_step, f37 hne]
    · obtain ⟨ρ', i1, i2⟩ := ih (a + 1) (by omega) q (by omega) ρ1 h1 (by rw [h0]; exact h26)
      refine ⟨ρ', i1, ?_⟩
      rw [fstF_f (show p1F V n a = false from decide_eq_false c), lo_2_step, step _ a _ ρ ρ1 (by omega) h26 (hV _ _) h2, if_neg c, ← h0]
      exact i2

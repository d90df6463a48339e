/-! math 18: rivals, the step -/
theorem y_sureWith2 {τ : eSt} {cnt : Nat} {sn : Nat → Nat → Nat} (HY : RSY τ cnt sn) {sc : Nat → Nat} (S : ScOk sc) (PY : PgY (τ 4) sc) {a b h : Nat} (ha : a ≤ 10) (hb : b ≤ 10) (hh : h < 10) : ∃ τ', (YSame τ τ' ∧ τ' 15 = τ 15) ∧ fX5_sureWith τ (hv a) (hv b) (nI h) = some (nI (pcN (sureS (fun c => setN cnt sn (sc 2) a b (sc 5) (sc 6) c h))), τ') := by
  have s1 : YSame τ (e_up (e_up (yB τ) 5 4 (hv a)) 5 5 (hv b)) := (yB_same τ).trans' ((YSame.upk _ _ _ (by omega)).trans' (YSame.upk _ _ _ (by omega)))
  have k0 : (e_up (e_up (yB τ) 5 4 (hv a)) 5 5 (hv b)) 15 = τ 15 := by
    rw [up_n _ _ _ (by omega), up_n _ _ _ (by omega)]; unfold yB; rw [filS_n _ _ _ _ (by omega)]
  have Q : HQ (e_up (e_up (yB τ) 5 4 (hv a)) 5 5 (hv b)) 5 (sc 2) a b (sc 5) (sc 6) := by
    obtain ⟨q1, q2, q3, q4, q5, q6, q7, q8, q9⟩ := yB_hq S PY
    exact ⟨by rw [up_o _ _ _ (by omega), up_o _ _ _ (by omega)]; exact q1, by rw [up_o _ _ _ (by omega), up_s], up_s _ _ _ _, by rw [up_o _ _ _ (by omega), up_o _ _ _ (by omega)]; exact q4, by rw [up_o _ _ _ (by omega), up_o _ _ _ (by omega)]; exact q5, q6, ha, hb, q9⟩
  refine ⟨filS (e_up (e_up (yB τ) 5 4 (hv a)) 5 5 (hv b)) 13 (fun c => nI (setN cnt sn (sc 2) a b (sc 5) (sc 6) c h)) 10, ⟨s1.trans' (YSame.fil (c := 13) _ _ _ (by omega)), by rw [filS_n _ _ _ _ (by omega)]; exact k0⟩, ?_⟩
  have e := y_sureAt (q := 5) (HY.same s1) (Or.inr rfl) Q hh
  have eb := bits_y (sureS_lt (fun c => setN cnt sn (sc 2) a b (sc 5) (sc 6) c h))
  unfold fX5_sureWith
  rw [y_begin', Option.bind_some, e_bnd_def, e_bnd_def, e, Option.bind_some]
  dsimp only
  rw [eb, Option.bind_some]
theorem y_fillS {a1 a2 : Int32} {k : Int32 → eSt → Option (Int32 × eSt)} {r v : Nat} {ρ ρ1 : eSt} (hr : r < 121) (hs : fX5_sureWith ρ (hv (r / 11)) (hv (r % 11)) a1 = some (nI v, ρ1)) : bX5_rivals_27 a1 a2 k (nI r) ρ = k (nI (r + 1)) (e_up ρ1 15 r (nI v)) := by
  have r79 : ∀ x y : Int32, fX5_sureWith ρ x y a1 = some (nI v, ρ1) → fX5_rivals_79 k ρ a1 a2 (nI r) y x (nI r) = k (nI (r + 1)) (e_up ρ1 15 r (nI v)) := fun x y hxy => by
    unfold fX5_rivals_79
    rw [hxy, Option.bind_some, if_pos (by rw [e_inN (by omega)]; exact hr), nI_clamp (by omega), e_bnd_def, e_bnd_def, nI_1]
  have r65 : ∀ x : Int32, fX5_sureWith ρ x (hv (r % 11)) a1 = some (nI v, ρ1) → fX5_rivals_65 k ρ a1 a2 (nI r) (nI (r % 11)) x (nI r) = k (nI (r + 1)) (e_up ρ1 15 r (nI v)) := fun x hx => by
    unfold fX5_rivals_65
    rw [show (10 : Int32) = nI 10 from rfl]
    by_cases e : r % 11 = 10
    · rw [if_pos (by rw [e])]
      rw [e] at hx
      exact r79 x (-9) hx
    · rw [if_neg (by rw [e_eq (by omega) (by omega)]; exact e)]
      rw [hv_lt (show r % 11 < 10 by omega)] at hx
      exact r79 x _ hx
  unfold bX5_rivals_27
  rw [show (121 : Int32) = nI 121 from rfl, if_neg (by rw [e_le (by omega) (by omega)]; omega), show nI r / 11 = nI (r / 11) from pk_div (by omega) (by decide) (by decide), show e_rem (nI r) 11 = nI (r % 11) from pk_rem (by omega) (by decide) (by decide), e_bnd_def, e_bnd_def, show (10 : Int32) = nI 10 from rfl]
  by_cases e : r / 11 = 10
  · rw [if_pos (by rw [e])]
    rw [e] at hs
    exact r65 (-9) hs
  · rw [if_neg (by rw [e_eq (by omega) (by omega)]; exact e)]
    rw [hv_lt (show r / 11 < 10 by omega)] at hs
    exact r65 _ hs
theorem st_rivals : ES_rivals eI := by
  intro σ z τ y a1 a2 hI
  obtain ⟨cnt, sn, HX, HY⟩ := hI.2.2.1
  obtain ⟨sc, S, PX, PY⟩ := hI.2.2.2.1
  have hcn := HX.2.1
  have hys := y00 τ
  have hend : eI σ z (e_up τ 0 0 0) y := hI.same (XSame.rfl' σ) hys
  unfold fX4_rivals fX5_rivals
  rw [e_bnd_def]
  simp only [x_isHour, y_noHour, x_isFS, e_in0_1, Option.bind_some, eB_z]
  by_cases h1 : inI a1 0 9 = true
  · obtain ⟨h, hh, rfl⟩ := e_inI9 h1
    rw [h1, if_neg b_tf, if_pos b_ntf]
    by_cases h3 : inI a2 0 1 = true
    · rw [h3, if_neg b_tf, if_neg b_tf]
      obtain ⟨V, hVd⟩ : ∃ V : Nat → Nat → Nat, V = fun a b => pcN (sureS (fun c => setN cnt sn (sc 2) a b (sc 5) (sc 6) c h)) := ⟨_, rfl⟩
      have hV : ∀ a b, V a b ≤ 10 := fun a b => by rw [hVd]; exact pcN_le _
      rw [x_fillSoundSets HX S.2.2.1 PX.2.2.1 PX.2.2.2.2.2.1 PX.2.2.2.2.2.2 hh, Option.bind_some]
      have hsx : XSame σ (filS σ 17 (fun c => nI (sndN cnt sn (sc 2) (sc 5) (sc 6) c h)) 10) := XSame.fil σ _ _ (by omega)
      have h17 : ∀ c, c < 10 → (filS σ 17 (fun c => nI (sndN cnt sn (sc 2) (sc 5) (sc 6) c h)) 10) 17 c = nI (sndN cnt sn (sc 2) (sc 5) (sc 6) c h) := fun c hc => by rw [filS_c, if_pos hc]
      generalize filS σ 17 (fun c => nI (sndN cnt sn (sc 2) (sc 5) (sc 6) c h)) 10 = σ0 at hsx h17 ⊢
      obtain ⟨σ', ⟨x1, xF⟩, x2⟩ := x_fill (σ := σ0) (V := V) (fun ρ hρ a b ha hb => by
        have s9 : ρ 9 = σ 9 := (hρ.1 9 (by omega)).trans (hsx 9 (by omega))
        refine ⟨filS ρ 18 (fun c => nI (sndN cnt sn (sc 2) (sc 5) (sc 6) c h ||| hmN a b c (sc 5) (sc 6))) 10, ⟨⟨hρ.1.trans' (XSame.fil ρ _ _ (by omega)), by rw [filS_n _ _ _ _ (by omega)]; exact hρ.2⟩, filS_n ρ 18 (fun c => nI (sndN cnt sn (sc 2) (sc 5) (sc 6) c h ||| hmN a b c (sc 5) (sc 6))) 10 (show 20 ≠ 18 by omega)⟩, ?_⟩
        unfold fX4_sureCountWith
        rw [x_fillSets (Sd := fun c => sndN cnt sn (sc 2) (sc 5) (sc 6) c h) (ra := sc 5) (wi := sc 6) (fun c hc => by rw [hρ.2]; exact h17 c hc) (by rw [s9]; exact PX.2.2.2.2.2.1) (by rw [s9]; exact PX.2.2.2.2.2.2) ha hb]
        simp only [Option.bind_some]
        rw [show (255 : Int32) = nI 255 from rfl, x_sureCount (F := fun c => setN cnt sn (sc 2) a b (sc 5) (sc 6) c h) (fun c hc => by rw [filS_c, if_pos hc]; rfl) (fun c _ => setN_lt hcn sn _ _ _ _ _ c h) (by omega), show (255 ||| 192 : Nat) = 255 from rfl]
        simp only [setN_255 hcn, Option.bind_some]
        rw [hVd])
      have RX : ∀ a b, a < 11 → b < 11 → fX4_isAtRest σ' (nI a) (nI b) = some (eB (restR V a b)) := fun a b ha hb => x_rest hV (fun c d hc hd hcd => xF c d hc hd (by omega) hcd) ha hb
      rw [x2, Option.bind_some, x_rOut RX]
      obtain ⟨τ', ⟨k1, k2⟩, k3⟩ := re_cs (b := bX5_rivals_27 (nI h) a2) (N := 121) (fun i ρ => YSame τ ρ ∧ ∀ r, r < i → ρ 15 r = nI (V (r / 11) (r % 11))) (fun ρ => lo_3 (bX5_rivals_99 ρ a2) 1000 0 (-9) 0) (by
        intro i ρ hi hJ
        obtain ⟨ρ1, ⟨t1, t2⟩, t3⟩ := y_sureWith2 (HY.same hJ.1) S (PY.same hJ.1) (a := i / 11) (b := i % 11) (by omega) (by omega) hh
        have t3 : fX5_sureWith ρ (hv (i / 11)) (hv (i % 11)) (nI h) = some (nI (V (i / 11) (i % 11)), ρ1) := by rw [hVd]; exact t3
        refine ⟨e_up ρ1 15 i (nI (V (i / 11) (i % 11))), fun k => y_fillS hi t3, (hJ.1.trans' t1).trans' (YSame.upk _ _ _ (by omega)), fun r hr => ?_⟩
        by_cases e : r = i
        · rw [e]; exact up_s _ _ _ _
        · rw [up_o _ _ _ e, t2]; exact hJ.2 r (by omega)) (by
        intro k ρ _
        unfold bX5_rivals_27
        rw [if_pos (by decide)]) 121 1000 0 (e_up τ 0 0 0) (by omega) (by omega) ⟨hys, fun r hr => by omega⟩
      have RY : ∀ a b, a < 11 → b < 11 → fX5_doRest τ' (nI a) (nI b) = some (eB (restR V a b)) := fun a b ha hb => y_rest hV (fun c d hc hd => by
        rw [k2 _ (by omega), show (11 * c + d) / 11 = c by omega, show (11 * c + d) % 11 = d by omega]) ha hb
      have k3 : lo_2 (bX5_rivals_27 (nI h) a2) 1000 0 (e_up τ 0 0 0) = lo_3 (bX5_rivals_99 τ' a2) 1000 0 (-9) 0 := k3
      rw [k3, y_rOut RY]
      exact ⟨_, σ', τ', rfl, rfl, hI.same (hsx.trans' x1.1) k1⟩
    · rw [b_nt h3, if_pos rfl, if_pos rfl]
      exact ⟨_, _, _, rfl, rfl, hend⟩
  · rw [b_nt h1, if_pos rfl, if_neg b_nff]
    exact ⟨_, _, _, rfl, rfl, hend⟩

/-! math 15: hammers -/
theorem y_find {τ : eSt} {V : Nat → Nat → Nat} {n h : Nat} (hn : n ≤ 10) (hV : ∀ a b, V a b ≤ 10) (hst : ∀ ρ, YSame τ ρ → ∀ a b, a ≤ 10 → b ≤ 10 → ∃ ρ', (YSame τ ρ' ∧ ρ' 0 = ρ 0) ∧ fX5_sureWith ρ (hv a) (hv b) (nI h) = some (nI (V a b), ρ')) : ∃ ρ', YSame τ ρ' ∧ fX5_findHammers τ (nI h) (nI n) = some ρ' ∧ ρ' 0 26 = (match hamR V n with | some p => nI p.1 | none => -9) ∧ ρ' 0 27 = (match hamR V n with | some p => nI p.2 | none => -9) := by
  have s0 : YSame τ (e_up (e_up τ 0 26 (-9)) 0 27 (-9)) := (YSame.up0 _ _ (by omega) (by omega) (by omega) (by omega)).trans' (YSame.up0 _ _ (by omega) (by omega) (by omega) (by omega))
  have b26 : (e_up (e_up τ 0 26 (-9)) 0 27 (-9)) 0 26 = -9 := by rw [up_o _ _ _ (by omega), up_s]
  have b27 : (e_up (e_up τ 0 26 (-9)) 0 27 (-9)) 0 27 = -9 := up_s _ _ _ _
  unfold fX5_findHammers fX5_findHammers_35 hamR
  rw [e_bnd_def, e_bnd_def]
  generalize e_up (e_up τ 0 26 (-9)) 0 27 (-9) = τ0 at s0 b26 b27 ⊢
  obtain ⟨ρ1, ⟨h1, h0⟩, h2⟩ := hst τ0 s0 10 10 (by omega) (by omega)
  have h2 : fX5_sureWith τ0 (-9) (-9) (nI h) = some (nI (V 10 10), ρ1) := h2
  have hv := hV 10 10
  rw [h2]
  simp only [Option.bind_some]
  by_cases c : n ≤ V 10 10
  · rw [if_neg (by rw [e_lt (by omega) (by omega)]; omega), if_pos c, e_bnd_def, e_bnd_def]
    have e26 : (e_up (e_up ρ1 0 26 0) 0 27 0) 0 26 = 0 := by rw [up_o _ _ _ (by omega), up_s]
    have hne : ¬ (e_up (e_up ρ1 0 26 0) 0 27 0) 0 26 = -9 := fun q => nI_m9 (p := 0) (by omega) (e26.symm.trans q)
    refine ⟨e_up (e_up ρ1 0 26 0) 0 27 0, h1.trans' ((YSame.up0 _ _ (by omega) (by omega) (by omega) (by omega)).trans' (YSame.up0 _ _ (by omega) (by omega) (by omega) (by omega))), ?_, e26, up_s _ _ _ _⟩
    have t : ∀ q, lo_2 (bX5_findHammers_37 (nI h) (nI n)) (q + 1) 0 (e_up (e_up ρ1 0 26 0) 0 27 0) = some (e_up (e_up ρ1 0 26 0) 0 27 0) := fun q => by rw [lo_2_step, f37 hne]
    exact t 999
  · rw [if_pos (by rw [e_lt (by omega) (by omega)]; omega), if_neg c]
    obtain ⟨ρ2, i1, i2⟩ := y_find1 hn hV hst 10 0 (by omega) 1000 (by omega) ρ1 h1 (by rw [h0]; exact b26)
    cases hf : fstF (p1F V n) 10 0 with
    | some a =>
      rw [hf] at i2
      exact ⟨ρ2, i1, i2.1, i2.2.1, i2.2.2⟩
    | none =>
      rw [hf] at i2
      obtain ⟨i3, i4⟩ := i2
      have i3 : lo_2 (bX5_findHammers_37 (nI h) (nI n)) 1000 0 ρ1 = fX5_findHammers_80 ρ2 (nI h) (nI n) := i3
      obtain ⟨ρ3, j1, j2, j3, j4⟩ := y_find2 hn hV hst 100 0 (by omega) 1000 (by omega) ρ2 i1 (by rw [i4, h0]; exact b26)
      rw [i3]
      unfold fX5_findHammers_80
      have j2 : lo_2 (bX5_findHammers_82 (nI h) (nI n)) 1000 0 ρ2 = some ρ3 := j2
      rw [j2]
      refine ⟨ρ3, j1, rfl, ?_, ?_⟩
      · rw [j3]
        cases fstF (p2F V n) 100 0 with
        | some r => rfl
        | none => rfl
      · rw [j4]
        cases fstF (p2F V n) 100 0 with
        | some r => rfl
        | none => rw [i4, h0]; exact b27
theorem st_hammers : ES_hammers eI := by
  intro σ z τ y a1 a2 a3 hI
  obtain ⟨cnt, sn, HX, HY⟩ := hI.2.2.1
  obtain ⟨sc, S, PX, PY⟩ := hI.2.2.2.1
  have hcn := HX.2.1
  have hys := y00 τ
  have hend : eI σ z (e_up τ 0 0 0) y := hI.same (XSame.rfl' σ) hys
  unfold fX4_hammers fX5_hammers
  rw [e_bnd_def]
  simp only [x_isHour, y_noHour, x_isFS, e_in1_10, e_in0_1, Option.bind_some, eB_z]
  by_cases h1 : inI a1 0 9 = true
  · obtain ⟨h, hh, rfl⟩ := e_inI9 h1
    rw [h1, if_neg b_tf, if_pos b_ntf]
    by_cases g1 : a2 < 1
    · rw [if_pos g1, inI_lo g1, if_pos rfl]
      exact ⟨_, _, _, rfl, rfl, hend⟩
    rw [if_neg g1]
    by_cases g2 : 10 < a2
    · rw [if_pos g2, inI_hi g2, if_pos rfl]
      exact ⟨_, _, _, rfl, rfl, hend⟩
    rw [if_neg g2, inI_t g1 g2, if_neg b_tf]
    obtain ⟨n, hn, rfl⟩ := in_wide (h := 10) (lo := 1) (hi := 10) (by omega) (inI_t g1 g2) (by decide) (by decide)
    by_cases h3 : inI a3 0 1 = true
    · rw [h3, if_neg b_tf, if_neg b_tf]
      obtain ⟨V, hVd⟩ : ∃ V : Nat → Nat → Nat, V = fun a b => pcN (sureS (fun c => setN cnt sn (sc 2) a b (sc 5) (sc 6) c h)) := ⟨_, rfl⟩
      have hV : ∀ a b, V a b ≤ 10 := fun a b => by rw [hVd]; exact pcN_le _
      rw [x_fillSoundSets HX S.2.2.1 PX.2.2.1 PX.2.2.2.2.2.1 PX.2.2.2.2.2.2 hh]
      simp only [Option.bind_some]
      have hsx : XSame σ (filS σ 17 (fun c => nI (sndN cnt sn (sc 2) (sc 5) (sc 6) c h)) 10) := XSame.fil σ _ _ (by omega)
      have h17 : ∀ c, c < 10 → (filS σ 17 (fun c => nI (sndN cnt sn (sc 2) (sc 5) (sc 6) c h)) 10) 17 c = nI (sndN cnt sn (sc 2) (sc 5) (sc 6) c h) := fun c hc => by rw [filS_c, if_pos hc]
      generalize filS σ 17 (fun c => nI (sndN cnt sn (sc 2) (sc 5) (sc 6) c h)) 10 = σ0 at hsx h17 ⊢
      obtain ⟨σ', x1, x2⟩ := x_few (σ := σ0) hn hV (fun ρ hρ a b ha hb => by
        have s9 : ρ 9 = σ 9 := (hρ.1 9 (by omega)).trans (hsx 9 (by omega))
        refine ⟨filS ρ 18 (fun c => nI (sndN cnt sn (sc 2) (sc 5) (sc 6) c h ||| hmN a b c (sc 5) (sc 6))) 10, ⟨hρ.1.trans' (XSame.fil ρ _ _ (by omega)), by rw [filS_n _ _ _ _ (by omega)]; exact hρ.2⟩, ?_⟩
        unfold fX4_sureCountWith
        rw [x_fillSets (Sd := fun c => sndN cnt sn (sc 2) (sc 5) (sc 6) c h) (ra := sc 5) (wi := sc 6) (fun c hc => by rw [hρ.2]; exact h17 c hc) (by rw [s9]; exact PX.2.2.2.2.2.1) (by rw [s9]; exact PX.2.2.2.2.2.2) ha hb]
        simp only [Option.bind_some]
        rw [show (255 : Int32) = nI 255 from rfl, x_sureCount (F := fun c => setN cnt sn (sc 2) a b (sc 5) (sc 6) c h) (fun c hc => by rw [filS_c, if_pos hc]; rfl) (fun c _ => setN_lt hcn sn _ _ _ _ _ c h) (by omega), show (255 ||| 192 : Nat) = 255 from rfl]
        simp only [setN_255 hcn, Option.bind_some]
        rw [hVd])
      obtain ⟨τ', y1, y2, y3, y4⟩ := y_find (τ := e_up τ 0 0 0) (h := h) hn hV (fun ρ hρ a b ha hb => by
        have s2 := hys.trans' hρ
        obtain ⟨ρ', ⟨t1, t2⟩, t3⟩ := y_sureWith (HY.same s2) S (PY.same s2) ha hb hh
        exact ⟨ρ', ⟨hρ.trans' t1, t2⟩, by rw [hVd]; exact t3⟩)
      rw [x2, y2]
      simp only [Option.bind_some]
      have hfin : eI σ' z τ' y := hI.same (hsx.trans' x1.1) (hys.trans' y1)
      cases hr : hamR V n with
      | none =>
        rw [hr] at y3 y4
        rw [if_pos rfl]
        refine ⟨-9, σ', τ', rfl, ?_, hfin⟩
        by_cases e : a3 = 0
        · rw [if_pos e, y3]
        · rw [if_neg e, y4]
      | some p =>
        rw [hr] at y3 y4
        obtain ⟨c, r⟩ := p
        obtain ⟨q1, q2⟩ := hamR_lt hr
        have e9 : ¬ nI (100 * c + r) = -9 := nI_m9 (by omega)
        have ed : nI (100 * c + r) / 100 = nI c := by
          rw [show nI (100 * c + r) / 100 = nI ((100 * c + r) / 100) from pk_div (by omega) (by decide) (by decide)]; congr 1; omega
        have er : e_rem (nI (100 * c + r)) 100 = nI r := by
          rw [show e_rem (nI (100 * c + r)) 100 = nI ((100 * c + r) % 100) from pk_rem (by omega) (by decide) (by decide)]; congr 1; omega
        have y3 : τ' 0 26 = nI c := y3
        have y4 : τ' 0 27 = nI r := y4
        show ∃ v σ1 τ1, (if nI (100 * c + r) = -9 then some (-9, σ') else if a3 = 0 then some (nI (100 * c + r) / 100, σ') else some (e_rem (nI (100 * c + r)) 100, σ')) = some (v, σ1) ∧ _
        rw [if_neg e9, ed, er, y3, y4]
        by_cases e : a3 = 0
        · rw [if_pos e, if_pos e]; exact ⟨_, _, _, rfl, rfl, hfin⟩
        · rw [if_neg e, if_neg e]; exact ⟨_, _, _, rfl, rfl, hfin⟩
    · rw [b_nt h3, if_pos rfl, if_pos rfl]
      exact ⟨_, _, _, rfl, rfl, hend⟩
  · rw [b_nt h1, if_pos rfl, if_neg b_nff]
    exact ⟨_, _, _, rfl, rfl, hend⟩

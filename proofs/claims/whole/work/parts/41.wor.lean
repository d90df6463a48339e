/-! math 22: worth, the step -/
theorem st_worth : ES_worth eI := by
  intro σ z τ y a1 a2 a3 hI ha3
  obtain ⟨cnt, sn, HX, HY⟩ := hI.2.2.1
  obtain ⟨sc, S, PX, PY⟩ := hI.2.2.2.1
  have hcn := HX.2.1
  have hys := y00 τ
  have hend : eI σ z (e_up τ 0 0 0) y := hI.same (XSame.rfl' σ) hys
  have HY' := HY.same hys
  have PY' := PY.same hys
  unfold fX4_worth fX5_worth
  rw [e_bnd_def, e_bnd_def, e_bnd_def]
  simp only [x_has HX, y_noSound HY', x_isHour, y_noHour, Option.bind_some, eB_z]
  by_cases h1 : (decide (0 ≤ a1) && decide (a1 < nI cnt)) = true
  · obtain ⟨s, hs, rfl⟩ := e_has hcn h1
    rw [h1, if_neg b_tf, if_pos b_ntf]
    by_cases h2 : inI a2 0 9 = true
    · obtain ⟨h, hh, rfl⟩ := e_inI9 h2
      rw [h2, if_neg b_tf, if_pos b_ntf, e_sh1 s (by omega)]
      have p1 : 1 ≤ 2 ^ cnt := Nat.one_le_two_pow
      have p6 : 2 ^ cnt ≤ 2 ^ 6 := Nat.pow_le_pow_right (by decide) hcn
      have hL := liveN_lt hcn (sc 2)
      have hL2 : liveN cnt (sc 2) < 2 ^ cnt := orN_lt _ _
      have s2 : 2 ^ s < 64 := Nat.pow_lt_pow_right (m := s) (n := 6) (by decide) (by omega)
      have yl : ((e_shl 1 ((e_up τ 0 0 0) 0 4)) - 1) &&& (((e_up τ 0 0 0) 4 2) ^^^ (-1)) = nI (liveN cnt (sc 2)) := by
        rw [HY'.1, PY'.2.2.1]; exact live_dec cnt (by omega) _ S.2.2.1
      have ya : (e_shl 1 ((e_up τ 0 0 0) 0 4)) - 1 = nI (2 ^ cnt - 1) := by
        rw [HY'.1, e_sh1 cnt (by omega)]; exact pk_sub p1
      rw [yl, ya, e_bnd_def, bits_y (show liveN cnt (sc 2) < 1024 by omega)]
      obtain ⟨τ', ⟨y1, y2⟩, y3⟩ := y_worth1 HY' S PY' hh (nI s) a3 (nI (pcN (liveN cnt (sc 2))))
      rw [Option.bind_some, y3]
      have lb : (liveN cnt (sc 2)).testBit s = !(sc 2).testBit s := by rw [liveN_bit, decide_eq_true hs]; rfl
      have hfinY := hys.trans' y1
      rw [PX.2.2.1]
      cases hb : (sc 2).testBit s with
      | true =>
        have lf : (liveN cnt (sc 2)).testBit s = false := by rw [lb, hb]; rfl
        rw [if_neg (fun q => by rw [hush_bit (sc 2) S.2.2.1 s (by omega), hb] at q; cases q)]
        have n7 := pc6 _ hL
        have t : ∀ q, lo_2 (bX5_worth_127 τ' (nI s) a3 (nI (2 ^ cnt - 1)) (nI (liveN cnt (sc 2))) (nI (pcN (liveN cnt (sc 2))))) (q + 1) 0 0 = (fX5_fraction 0 (nI (facN (pcN (liveN cnt (sc 2))))) a3).bind fun v2 => some (v2, τ') := fun q => by
          rw [lo_2_step]
          unfold bX5_worth_127 fX5_worth_216
          rw [if_neg (show ¬ nI (2 ^ cnt - 1) < 0 by rw [show (0 : Int32) = nI 0 from rfl, e_lt (by omega) (by omega)]; omega), has_bit _ hL s (by omega), lf, Option.bind_some, if_pos (show eB false = 0 from rfl), fac_y _ (by omega), Option.bind_some]
        have t := t 999
        rcases ha3 with rfl | rfl
        · exact ⟨1, σ, τ', by rw [zfx.1]; rfl, t.trans (by rw [(zfy _ (by omega)).1]; rfl), hI.same (XSame.rfl' σ) hfinY⟩
        · exact ⟨0, σ, τ', by rw [zfx.2]; rfl, t.trans (by rw [(zfy _ (by omega)).2]; rfl), hI.same (XSame.rfl' σ) hfinY⟩
      | false =>
        have lt' : (liveN cnt (sc 2)).testBit s = true := by rw [lb, hb]; rfl
        rw [if_pos ((hush_bit (sc 2) S.2.2.1 s (by omega)).mpr hb)]
        obtain ⟨σ2, e1, e2, e3, -⟩ := x_fillSetsNow HX S PX hh
        rw [e1, Option.bind_some, x_live (HX.same e2) S.2.2.1 (PX.same e2).2.2.1, Option.bind_some, and_not _ hL _ s2, e_bnd_def]
        have hO : liveN cnt (sc 2) &&& (63 ^^^ 2 ^ s) < 64 := Nat.lt_of_le_of_lt Nat.and_le_left hL
        obtain ⟨n1, n2⟩ := cnt_split _ hL s (by omega) lt'
        obtain ⟨p, hp⟩ : ∃ p, pcN (liveN cnt (sc 2) &&& (63 ^^^ 2 ^ s)) = p := ⟨_, rfl⟩
        rw [bc_x _ (by omega), Option.bind_some, n1, hp]
        rw [hp] at n1
        have hF : ∀ c, c < 10 → setN cnt sn (sc 2) (sc 3) (sc 4) (sc 5) (sc 6) c h < 256 := fun c _ => setN_lt hcn sn _ _ _ _ _ c h
        rw [x_worthL e3 hF hO (by omega) hp (by omega) a3, y_worth2 hcn hL hs lt' hp y2 a3]
        have U10 : ∀ e, (fun e => pcN (sureS (fun c => setN cnt sn (sc 2) (sc 3) (sc 4) (sc 5) (sc 6) c h &&& (e ||| 192)))) e ≤ 10 := fun e => pcN_le _
        have cut : itN (gT (fun e => pcN (sureS (fun c => setN cnt sn (sc 2) (sc 3) (sc 4) (sc 5) (sc 6) c h &&& (e ||| 192)))) (liveN cnt (sc 2) &&& (63 ^^^ 2 ^ s)) p s) 64 0 0 = itN (gT (fun e => pcN (sureS (fun c => setN cnt sn (sc 2) (sc 3) (sc 4) (sc 5) (sc 6) c h &&& (e ||| 192)))) (liveN cnt (sc 2) &&& (63 ^^^ 2 ^ s)) p s) (2 ^ cnt) 0 0 := by
          rw [show itN (gT (fun e => pcN (sureS (fun c => setN cnt sn (sc 2) (sc 3) (sc 4) (sc 5) (sc 6) c h &&& (e ||| 192)))) (liveN cnt (sc 2) &&& (63 ^^^ 2 ^ s)) p s) 64 0 0 = itN (gT (fun e => pcN (sureS (fun c => setN cnt sn (sc 2) (sc 3) (sc 4) (sc 5) (sc 6) c h &&& (e ||| 192)))) (liveN cnt (sc 2) &&& (63 ^^^ 2 ^ s)) p s) (2 ^ cnt + (64 - 2 ^ cnt)) 0 0 from congrArg (fun m => itN (gT (fun e => pcN (sureS (fun c => setN cnt sn (sc 2) (sc 3) (sc 4) (sc 5) (sc 6) c h &&& (e ||| 192)))) (liveN cnt (sc 2) &&& (63 ^^^ 2 ^ s)) p s) m 0 0) (by omega), itN_add]
          refine itN_zero _ _ _ (fun j j1 j2 y => ?_)
          have f := sub_out cnt (by omega) _ hL hL2 j (by omega) (by omega)
          unfold gT trm
          rw [if_neg (by rw [sub_split _ hL s (by omega) lt' j (by omega), f]; exact fun q => by cases q), Int.add_zero]
        have bd := sumT_le U10 (s := s) (show p ≤ 6 by omega) hO hp (2 ^ cnt) (by omega)
        rw [cut]
        generalize itN (gT (fun e => pcN (sureS (fun c => setN cnt sn (sc 2) (sc 3) (sc 4) (sc 5) (sc 6) c h &&& (e ||| 192)))) (liveN cnt (sc 2) &&& (63 ^^^ 2 ^ s)) p s) (2 ^ cnt) 0 0 = T at bd
        have b31 : T.natAbs < 2 ^ 31 := by omega
        obtain ⟨fb1, fb2⟩ := fac_b (p + 1) (by omega)
        obtain ⟨v, v1, v2⟩ := told_frac (abs_of b31) b31 fb1 (show facN (p + 1) < 2 ^ 31 by omega) a3
        unfold fX5_worth_216
        rw [fac_y _ (by omega), Option.bind_some, v1, v2, Option.bind_some, Option.bind_some]
        exact ⟨v, σ2, τ', rfl, rfl, hI.same e2 hfinY⟩
    · rw [b_nt h2, if_pos rfl, if_neg b_nff]
      exact ⟨_, _, _, rfl, rfl, hend⟩
  · rw [b_nt h1, if_pos rfl, if_neg b_nff]
    exact ⟨_, _, _, rfl, rfl, hend⟩

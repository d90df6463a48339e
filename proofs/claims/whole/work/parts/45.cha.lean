/-! math 26: chance -/
theorem st_chance : ES_chance eI := by
  intro σ z τ y a1 a2 a3 a4 hI ha4
  obtain ⟨cnt, sn, HX, HY⟩ := hI.2.2.1
  obtain ⟨sc, S, PX, PY⟩ := hI.2.2.2.1
  have hcn := HX.2.1
  have hys := y00 τ
  have hend : eI σ z (e_up τ 0 0 0) y := hI.same (XSame.rfl' σ) hys
  have HY' := HY.same hys
  have PY' := PY.same hys
  unfold fX4_chance fX5_chance
  rw [e_bnd_def]
  simp only [x_isCell, x_isHour, y_noCell, y_noHour, e_in0_10, Option.bind_some, eB_z]
  by_cases h1 : inI a1 0 9 = true
  · obtain ⟨c, hc, rfl⟩ := e_inI9 h1
    rw [h1, if_neg b_tf, if_pos b_ntf]
    by_cases h2 : inI a2 0 9 = true
    · obtain ⟨h, hh, rfl⟩ := e_inI9 h2
      rw [h2, if_neg b_tf, if_pos b_ntf]
      by_cases g1 : a3 < 0
      · rw [if_pos g1, inI_lo g1, if_pos rfl]
        exact ⟨_, _, _, rfl, rfl, hend⟩
      rw [if_neg g1]
      by_cases g2 : 10 < a3
      · rw [if_neg (show ¬ a3 ≤ 10 by rw [e_nle]; exact g2), inI_hi g2, if_pos rfl]
        exact ⟨_, _, _, rfl, rfl, hend⟩
      rw [if_pos (show a3 ≤ 10 by rw [e_nlt] at g2; exact g2), inI_t g1 g2, if_neg b_tf]
      obtain ⟨x, hx, rfl⟩ := in_wide (h := 10) (lo := 0) (hi := 10) (by omega) (inI_t g1 g2) (by decide) (by decide)
      have p1 : 1 ≤ 2 ^ cnt := Nat.one_le_two_pow
      have p6 : 2 ^ cnt ≤ 2 ^ 6 := Nat.pow_le_pow_right (by decide) hcn
      have hL := liveN_lt hcn (sc 2)
      have hL2 : liveN cnt (sc 2) < 2 ^ cnt := orN_lt _ _
      have yl : ((e_shl 1 ((e_up τ 0 0 0) 0 4)) - 1) &&& (((e_up τ 0 0 0) 4 2) ^^^ (-1)) = nI (liveN cnt (sc 2)) := by
        rw [HY'.1, PY'.2.2.1]; exact live_dec cnt (by omega) _ S.2.2.1
      have ya : (e_shl 1 ((e_up τ 0 0 0) 0 4)) - 1 = nI (2 ^ cnt - 1) := by
        rw [HY'.1, e_sh1 cnt (by omega)]; exact pk_sub p1
      rw [e_bnd_def, e_bnd_def, yl, ya]
      obtain ⟨τ', y1, y2⟩ := y_chOut HY' S PY' hc hh hx hL hL2 a4
      obtain ⟨σ2, e1, e2, e3, -⟩ := x_fillSetsNow HX S PX hh
      rw [y2, e1, Option.bind_some, x_live (HX.same e2) S.2.2.1 (PX.same e2).2.2.1, Option.bind_some, bc_x _ (by omega), Option.bind_some, x_chL e3 (fun c _ => setN_lt hcn sn _ _ _ _ _ c h) hL rfl hx hc a4]
      have n6 := pc6 _ hL
      have lowE : sumG (fun f => if subB f (liveN cnt (sc 2)) = true then Wt x (pcN (liveN cnt (sc 2))) (pcN (liveN cnt (sc 2)) - pcN f) else 0) (2 ^ cnt) = 10 ^ pcN (liveN cnt (sc 2)) := by
        rw [← low_dec _ hL x (by omega)]
        refine (sumG_cut (by omega) (fun f f1 f2 => ?_)).symm
        rw [if_neg (by rw [sub_out cnt (by omega) _ hL hL2 f f2 f1]; exact fun q => by cases q)]
      have highE : sumG (fun f => if (subB f (liveN cnt (sc 2)) && (sureS (fun c => setN cnt sn (sc 2 ||| f) (sc 3) (sc 4) (sc 5) (sc 6) c h)).testBit c) = true then Wt x (pcN (liveN cnt (sc 2))) (pcN (liveN cnt (sc 2)) - pcN f) else 0) (2 ^ cnt) = sumG (gX (fun e => (sureS (fun c => setN cnt sn (sc 2) (sc 3) (sc 4) (sc 5) (sc 6) c h &&& (e ||| 192))).testBit c) (liveN cnt (sc 2)) (pcN (liveN cnt (sc 2))) x) 64 := by
        rw [← sum_xor hL]
        refine (sumG_cut (by omega) (fun f f1 f2 => ?_)).symm.trans (sumG_congr 64 (fun f hf => ?_))
        · rw [if_neg (by rw [sub_out cnt (by omega) _ hL hL2 f f2 f1]; simp)]
        · obtain ⟨k1, k2⟩ := sub_xor _ hL f hf
          show _ = (if (subB (liveN cnt (sc 2) ^^^ f) (liveN cnt (sc 2)) && (sureS (fun c => setN cnt sn (sc 2) (sc 3) (sc 4) (sc 5) (sc 6) c h &&& ((liveN cnt (sc 2) ^^^ f) ||| 192))).testBit c) = true then Wt x (pcN (liveN cnt (sc 2))) (pcN (liveN cnt (sc 2) ^^^ f)) else 0)
          rw [k1]
          by_cases q : subB f (liveN cnt (sc 2)) = true
          · rw [(k2 q).2, (k2 q).1, live_or hcn]
            simp only [setN_live hcn]
          · rw [b_nt q]; rfl
      have hi : sumG (gX (fun e => (sureS (fun c => setN cnt sn (sc 2) (sc 3) (sc 4) (sc 5) (sc 6) c h &&& (e ||| 192))).testBit c) (liveN cnt (sc 2)) (pcN (liveN cnt (sc 2))) x) 64 ≤ 10 ^ pcN (liveN cnt (sc 2)) := by
        rw [← highE, ← lowE]
        refine sumG_le _ (fun f _ => ?_)
        by_cases q : subB f (liveN cnt (sc 2)) = true
        · rw [q, if_pos (show true = true from rfl)]
          cases (sureS (fun c => setN cnt sn (sc 2 ||| f) (sc 3) (sc 4) (sc 5) (sc 6) c h)).testBit c with
          | false => exact Nat.zero_le _
          | true => exact Nat.le_refl _
        · rw [b_nt q]; exact Nat.zero_le _
      obtain ⟨t1, t2⟩ := p10 _ (show pcN (liveN cnt (sc 2)) < 7 by omega)
      rw [lowE, highE]
      obtain ⟨v, v1, v2⟩ := told_frac (e_absN (by omega)) (show _ < 2 ^ 31 from Nat.lt_of_le_of_lt hi (by omega)) t1 (by omega) a4
      rw [v1, v2, Option.bind_some, Option.bind_some]
      exact ⟨v, σ2, τ', rfl, rfl, hI.same e2 (hys.trans' y1)⟩
    · rw [b_nt h2, if_pos rfl, if_neg b_nff]
      exact ⟨_, _, _, rfl, rfl, hend⟩
  · rw [b_nt h1, if_pos rfl, if_neg b_nff]
    exact ⟨_, _, _, rfl, rfl, hend⟩

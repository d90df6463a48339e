/-! math 10: the reader's parts, fault, river -/
def YQ (τ τ' : eSt) : Prop := (∀ c, c ≠ 0 → c ≠ 3 → τ' c = τ c) ∧ ∀ j, j ≠ 3 → j ≠ 6 → τ' 0 j = τ 0 j
theorem YQ.rfl' (τ : eSt) : YQ τ τ := ⟨fun _ _ _ => rfl, fun _ _ _ => rfl⟩
theorem YQ.trans' {a b c : eSt} (h1 : YQ a b) (h2 : YQ b c) : YQ a c := ⟨fun k q0 q3 => (h2.1 k q0 q3).trans (h1.1 k q0 q3), fun j a1 a2 => (h2.2 j a1 a2).trans (h1.2 j a1 a2)⟩
theorem YQ.up0 (τ : eSt) {j : Nat} (v : Int32) (h : j = 3 ∨ j = 6) : YQ τ (e_up τ 0 j v) := ⟨fun c h0 _ => up_n _ _ _ h0, fun i q1 q2 => up_o _ _ _ (by omega)⟩
theorem YQ.up3 (τ : eSt) (j : Nat) (v : Int32) : YQ τ (e_up τ 3 j v) := ⟨fun c _ h3 => up_n _ _ _ h3, fun i _ _ => by rw [up_n _ _ _ (by omega)]⟩
theorem YQ.yr {τ τ' : eSt} (h : YQ τ τ') : YR τ τ' := ⟨h.1, fun j h3 h6 _ _ _ => h.2 j h3 h6⟩
theorem y_part54 {τ : eSt} {n p s k : Nat} {lo hi : Int32} (hn : n ≤ 40) (h2 : τ 0 2 = nI n) (h3 : τ 0 3 = nI (p + k)) (hpn : p + k ≤ n) (hs : 5 * s + k < 30) (h0 : 0 ≤ lo) (K : Int32 → eSt → Option (Int32 × eSt)) : (p + k = n ∨ inI (dgI (τ 1) (p + k)) lo hi = false → fX5_readPart_54 K τ (nI (5 * s)) (nI k) hi lo = some (eB false, τ)) ∧ (p + k < n → inI (dgI (τ 1) (p + k)) lo hi = true → fX5_readPart_54 K τ (nI (5 * s)) (nI k) hi lo = K (nI (k + 1)) (e_up (e_up τ 0 3 (nI (p + k + 1))) 3 (5 * s + k) (dgI (τ 1) (p + k)))) := by
  refine ⟨fun h => ?_, fun hp h => ?_⟩
  · unfold fX5_readPart_54
    rw [y_fig_no hn h2 h3 hpn h]
    simp only [Option.bind_some]
    rw [if_pos trivial, e_r0]; rfl
  · unfold fX5_readPart_54
    rw [y_fig_ok hn h2 h3 hp h]
    simp only [Option.bind_some, e_bnd_def]
    rw [if_neg (dg_m9 h h0), nI_add, if_pos (by rw [e_inN (by omega)]; exact hs), nI_clamp (by omega), nI_1]
theorem y_partS {τ : eSt} {s k : Nat} (hk : k < 5) (hs : s < 6) (h03 : k = 3 → τ 3 (5 * s + 2) = dgI (τ 1) (5 + 6 * s + 2) ∧ fitB (τ 1) (5 + 6 * s + 2) = true) (K : Int32 → eSt → Option (Int32 × eSt)) : ∃ lo hi : Int32, bX5_readPart_9 (nI (5 * s)) K (nI k) τ = fX5_readPart_54 K τ (nI (5 * s)) (nI k) hi lo ∧ fitB (τ 1) (5 + 6 * s + k) = inI (dgI (τ 1) (5 + 6 * s + k)) lo hi ∧ 0 ≤ lo ∧ hi ≤ 9 := by
  have fb : ∀ j, j < 5 → (5 + 6 * s + j - 4) % 6 = j + 1 := fun j hj => by omega
  have fz : ∀ j, j < 5 → fitB (τ 1) (5 + 6 * s + j) = (if j + 1 = 0 then decide (τ 1 (5 + 6 * s + j) = 83) else if j + 1 = 1 then inI (dgI (τ 1) (5 + 6 * s + j)) 0 9 else if j + 1 = 2 then inI (dgI (τ 1) (5 + 6 * s + j)) 1 9 else if j + 1 = 3 then inI (dgI (τ 1) (5 + 6 * s + j)) 0 9 else if j + 1 = 4 then inI (dgI (τ 1) (5 + 6 * s + j)) (dgI (τ 1) (5 + 6 * s + j - 1)) 9 else inI (dgI (τ 1) (5 + 6 * s + j)) 0 3) := by
    intro j hj
    unfold fitB
    rw [if_neg (by omega), if_neg (by omega), if_neg (by omega), if_neg (by omega), fb j hj]
  rcases (show k = 0 ∨ k = 1 ∨ k = 2 ∨ k = 3 ∨ k = 4 by omega) with rfl | rfl | rfl | rfl | rfl
  · exact ⟨0, 9, rfl, (fz 0 (by omega)), by decide, by decide⟩
  · exact ⟨1, 9, rfl, (fz 1 (by omega)), by decide, by decide⟩
  · exact ⟨0, 9, rfl, (fz 2 (by omega)), by decide, by decide⟩
  · obtain ⟨q1, q2⟩ := h03 rfl
    refine ⟨dgI (τ 1) (5 + 6 * s + 2), 9, ?_, (fz 3 (by omega)), ?_, by decide⟩
    · unfold bX5_readPart_9
      rw [if_neg (by decide), if_neg (by decide), if_pos (by decide), show (2 : Int32) = nI 2 from rfl, nI_add, if_pos (by rw [e_inN (by omega)]; omega), nI_clamp (by omega), q1]
      rfl
    · rw [fz 2 (by omega)] at q2
      have q2 : inI (dgI (τ 1) (5 + 6 * s + 2)) 0 9 = true := q2
      simp only [inI, Bool.and_eq_true, decide_eq_true_eq] at q2
      exact q2.1
  · exact ⟨0, 3, rfl, (fz 4 (by omega)), by decide, by decide⟩
theorem y_partK {n s : Nat} (hn : n ≤ 40) (hs : s < 6) : ∀ m k, k + m = 5 → ∀ q, m < q → ∀ τ : eSt, τ 0 2 = nI n → τ 0 3 = nI (5 + 6 * s + k) → τ 0 6 = nI s → 5 + 6 * s + k ≤ n → (∀ f, f < k → τ 3 (5 * s + f) = dgI (τ 1) (5 + 6 * s + f) ∧ fitB (τ 1) (5 + 6 * s + f) = true) → ∃ (r : Bool) (τ' : eSt), lo_2 (bX5_readPart_9 (nI (5 * s))) q (nI k) τ = some (eB r, τ') ∧ YQ τ τ' ∧ (∀ i, i < 5 * s → τ' 3 i = τ 3 i) ∧ (r = false → scn (τ 1) n (5 + 6 * s + k) = τ' 0 3 ∧ ¬ τ' 0 3 = -9) ∧ (r = true → 5 + 6 * s + 5 ≤ n ∧ τ' 0 3 = nI (5 + 6 * s + 5) ∧ τ' 0 6 = nI (s + 1) ∧ scn (τ 1) n (5 + 6 * s + k) = scn (τ 1) n (5 + 6 * s + 5) ∧ ∀ f, f < 5 → τ' 3 (5 * s + f) = dgI (τ 1) (5 + 6 * s + f)) := by
  intro m
  induction m with
  | zero =>
    intro k hk q hq τ h2 h3 h6 hpn hf
    obtain ⟨q, rfl⟩ : ∃ r, q = r + 1 := ⟨q - 1, by omega⟩
    have : k = 5 := by omega
    subst this
    refine ⟨true, e_up τ 0 6 (nI (s + 1)), ?_, YQ.up0 _ _ (by omega), fun i _ => by rw [up_n _ _ _ (by omega)], (fun q => by cases q), fun _ => ⟨hpn, by rw [up_o _ _ _ (by omega)]; exact h3, up_s _ _ _ _, rfl, fun f h => by rw [up_n _ _ _ (by omega)]; exact (hf f h).1⟩⟩
    rw [lo_2_step]
    unfold bX5_readPart_9
    rw [if_pos (by decide), e_bnd_def, e_r1, h6, nI_1]; rfl
  | succ m ih =>
    intro k hk q hq τ h2 h3 h6 hpn hf
    obtain ⟨q, rfl⟩ : ∃ r, q = r + 1 := ⟨q - 1, by omega⟩
    rw [lo_2_step]
    obtain ⟨lo, hi, e1, e2, e3, _⟩ := y_partS (τ := τ) (k := k) (by omega) hs (fun q3 => hf 2 (by omega)) (lo_2 (bX5_readPart_9 (nI (5 * s))) q)
    obtain ⟨p1, p2⟩ := y_part54 (s := s) (hi := hi) hn h2 h3 hpn (by omega) e3 (lo_2 (bX5_readPart_9 (nI (5 * s))) q)
    rw [e1]
    by_cases bad : 5 + 6 * s + k = n ∨ inI (dgI (τ 1) (5 + 6 * s + k)) lo hi = false
    · refine ⟨false, τ, p1 bad, YQ.rfl' τ, fun _ _ => rfl, fun _ => scn9 ?_ (by rw [h3]; exact nI_m9 (by omega)), (fun q => by cases q)⟩
      rw [h3]
      exact scn_at hpn (by rw [e2]; exact bad) (by simp only [whB, Bool.and_eq_false_iff, decide_eq_false_iff_not]; omega)
    · have hlt : 5 + 6 * s + k < n := by omega
      have fit : inI (dgI (τ 1) (5 + 6 * s + k)) lo hi = true := b_nf (fun q => bad (Or.inr q))
      rw [p2 hlt fit]
      have hY : YQ τ (e_up (e_up τ 0 3 (nI (5 + 6 * s + k + 1))) 3 (5 * s + k) (dgI (τ 1) (5 + 6 * s + k))) := (YQ.up0 _ _ (by omega)).trans' (YQ.up3 _ _ _)
      have c3 : (e_up (e_up τ 0 3 (nI (5 + 6 * s + k + 1))) 3 (5 * s + k) (dgI (τ 1) (5 + 6 * s + k))) 0 3 = nI (5 + 6 * s + (k + 1)) := by rw [up_n _ _ _ (by omega), up_s]; rfl
      have c6 : (e_up (e_up τ 0 3 (nI (5 + 6 * s + k + 1))) 3 (5 * s + k) (dgI (τ 1) (5 + 6 * s + k))) 0 6 = nI s := by rw [up_n _ _ _ (by omega), up_o _ _ _ (by omega)]; exact h6
      have cf : ∀ i, i ≠ 5 * s + k → (e_up (e_up τ 0 3 (nI (5 + 6 * s + k + 1))) 3 (5 * s + k) (dgI (τ 1) (5 + 6 * s + k))) 3 i = τ 3 i := fun i hi => by rw [up_o _ _ _ hi, up_n _ _ _ (by omega)]
      have cs : (e_up (e_up τ 0 3 (nI (5 + 6 * s + k + 1))) 3 (5 * s + k) (dgI (τ 1) (5 + 6 * s + k))) 3 (5 * s + k) = dgI (τ 1) (5 + 6 * s + k) := up_s _ _ _ _
      generalize e_up (e_up τ 0 3 (nI (5 + 6 * s + k + 1))) 3 (5 * s + k) (dgI (τ 1) (5 + 6 * s + k)) = τ1 at hY c3 c6 cf cs ⊢
      have t1 : τ1 1 = τ 1 := hY.1 1 (by omega) (by omega)
      obtain ⟨r, τ', g1, g2, g3, g4, g5⟩ := ih (k + 1) (by omega) q (by omega) τ1 (by rw [hY.2 2 (by omega) (by omega)]; exact h2) c3 c6 (by omega) (fun f hfk => by
        rw [t1]
        by_cases e : f = k
        · subst e; exact ⟨cs, e2.trans fit⟩
        · rw [cf _ (by omega)]; exact hf f (by omega))
      rw [t1] at g4 g5
      have sc : scn (τ 1) n (5 + 6 * s + k) = scn (τ 1) n (5 + 6 * s + (k + 1)) := scn_fit hlt (e2.trans fit)
      exact ⟨r, τ', g1, hY.trans' g2, fun i hi => (g3 i hi).trans (cf i (by omega)), fun h => ⟨sc.trans (g4 h).1, (g4 h).2⟩, fun h => ⟨(g5 h).1, (g5 h).2.1, (g5 h).2.2.1, sc.trans (g5 h).2.2.2.1, (g5 h).2.2.2.2⟩⟩
theorem y_readPart {n s : Nat} (hn : n ≤ 40) (hs : s < 6) {τ : eSt} (h2 : τ 0 2 = nI n) (h3 : τ 0 3 = nI (5 + 6 * s)) (h6 : τ 0 6 = nI s) (hpn : 5 + 6 * s ≤ n) : ∃ (r : Bool) (τ' : eSt), fX5_readPart τ = some (eB r, τ') ∧ YQ τ τ' ∧ (∀ i, i < 5 * s → τ' 3 i = τ 3 i) ∧ (r = false → scn (τ 1) n (5 + 6 * s) = τ' 0 3 ∧ ¬ τ' 0 3 = -9) ∧ (r = true → 5 + 6 * s + 5 ≤ n ∧ τ' 0 3 = nI (5 + 6 * s + 5) ∧ τ' 0 6 = nI (s + 1) ∧ scn (τ 1) n (5 + 6 * s) = scn (τ 1) n (5 + 6 * s + 5) ∧ ∀ f, f < 5 → τ' 3 (5 * s + f) = dgI (τ 1) (5 + 6 * s + f)) := by
  unfold fX5_readPart
  rw [e_bnd_def, h6, show (5 : Int32) * nI s = nI (5 * s) from pk_mul 5 s]
  exact y_partK hn hs 5 0 (by omega) 1000 (by omega) τ h2 h3 h6 hpn (fun f h => by omega)
theorem y_rivK {n : Nat} (hn : n ≤ 40) : ∀ m s, 6 ≤ s + m → ∀ q, m < q → ∀ τ : eSt, τ 0 2 = nI n → τ 0 3 = nI (4 + 6 * s) → τ 0 6 = nI s → 4 + 6 * s ≤ n → (∀ j, j < s → ∀ f, f < 5 → τ 3 (5 * j + f) = dgI (τ 1) (5 + 6 * j + f)) → ∃ (v : Int32) (τ' : eSt), lo_1 bX5_readRiver_47 q τ = some (v, τ') ∧ YQ τ τ' ∧ v = scn (τ 1) n (4 + 6 * s) ∧ (v = -9 → ∃ c, c ≤ 6 ∧ n = 4 + 6 * c ∧ τ' 0 6 = nI c ∧ ∀ j, j < c → ∀ f, f < 5 → τ' 3 (5 * j + f) = dgI (τ 1) (5 + 6 * j + f)) := by
  intro m
  induction m with
  | zero =>
    intro s hs q hq τ h2 h3 h6 hpn hf
    obtain ⟨q, rfl⟩ : ∃ r, q = r + 1 := ⟨q - 1, by omega⟩
    have : s = 6 := by omega
    subst this
    have : n = 40 := by omega
    subst this
    rw [lo_1_step]
    refine ⟨-9, τ, ?_, YQ.rfl' τ, ?_, fun _ => ⟨6, by omega, rfl, h6, hf⟩⟩
    · unfold bX5_readRiver_47
      rw [h2, h3, if_pos (by decide)]
    · rw [show 4 + 6 * 6 = 40 from rfl, scn_end]; rfl
  | succ m ih =>
    intro s hs q hq τ h2 h3 h6 hpn hf
    obtain ⟨q, rfl⟩ : ∃ r, q = r + 1 := ⟨q - 1, by omega⟩
    rw [lo_1_step]
    by_cases e : 4 + 6 * s = n
    · refine ⟨-9, τ, ?_, YQ.rfl' τ, ?_, fun _ => ⟨s, by omega, e.symm, h6, hf⟩⟩
      · unfold bX5_readRiver_47
        rw [h2, h3, if_pos (by rw [e_le (by omega) (by omega)]; omega)]
      · rw [e, scn_end, if_pos]
        simp only [whB, Bool.and_eq_true, decide_eq_true_eq]; omega
    have hlt : 4 + 6 * s < n := by omega
    have fz : fitB (τ 1) (4 + 6 * s) = decide (τ 1 (4 + 6 * s) = 83) := by
      by_cases e0 : s = 0
      · subst e0; rfl
      · unfold fitB
        rw [if_neg (by omega), if_neg (by omega), if_neg (by omega), if_neg (by omega), if_pos (by omega)]
    have op : ∀ K : eSt → Option (Int32 × eSt), bX5_readRiver_47 K τ = if τ 1 (4 + 6 * s) = 83 then (fX5_readPart (e_up τ 0 3 (nI (4 + 6 * s + 1)))).bind fun w2 => if w2.1 = 0 then some (w2.2 0 3, w2.2) else K w2.2 else some (nI (4 + 6 * s), τ) := by
      intro K
      unfold bX5_readRiver_47
      rw [h2, h3, if_neg (by rw [e_le (by omega) (by omega)]; omega), if_pos (by rw [e_inN (by omega)]; omega), nI_clamp (by omega), h6, if_neg (show ¬ nI s = 6 by rw [show (6 : Int32) = nI 6 from rfl, e_eq (by omega) (by omega)]; omega), e_bnd_def, nI_1]
    rw [op]
    by_cases h83 : τ 1 (4 + 6 * s) = 83
    · rw [if_pos h83]
      have hY : YQ τ (e_up τ 0 3 (nI (4 + 6 * s + 1))) := YQ.up0 _ _ (by omega)
      have c3 : (e_up τ 0 3 (nI (4 + 6 * s + 1))) 0 3 = nI (5 + 6 * s) := by rw [up_s, show 4 + 6 * s + 1 = 5 + 6 * s by omega]
      have c6 : (e_up τ 0 3 (nI (4 + 6 * s + 1))) 0 6 = nI s := by rw [up_o _ _ _ (by omega)]; exact h6
      have cf : (e_up τ 0 3 (nI (4 + 6 * s + 1))) 3 = τ 3 := up_n _ _ _ (by omega)
      generalize e_up τ 0 3 (nI (4 + 6 * s + 1)) = τ1 at hY c3 c6 cf ⊢
      have t1 : τ1 1 = τ 1 := hY.1 1 (by omega) (by omega)
      have c2 : τ1 0 2 = nI n := by rw [hY.2 2 (by omega) (by omega)]; exact h2
      obtain ⟨r, τ2, g1, g2, g3, g4, g5⟩ := y_readPart hn (show s < 6 by omega) c2 c3 c6 (by omega)
      rw [t1] at g4 g5
      have sc : scn (τ 1) n (4 + 6 * s) = scn (τ 1) n (5 + 6 * s) := by
        rw [show 5 + 6 * s = 4 + 6 * s + 1 by omega]; exact scn_fit hlt (by rw [fz]; exact decide_eq_true h83)
      rw [g1]
      simp only [Option.bind_some, eB_z]
      cases r with
      | false =>
        rw [if_pos rfl]
        exact ⟨_, τ2, rfl, hY.trans' g2, ((g4 rfl).1.symm.trans sc.symm), fun h => absurd h (g4 rfl).2⟩
      | true =>
        rw [if_neg b_tf]
        obtain ⟨k1, k2, k3, k4, k5⟩ := g5 rfl
        have t2 : τ2 1 = τ 1 := (g2.1 1 (by omega) (by omega)).trans t1
        obtain ⟨v, τ', i1, i2, i3, i4⟩ := ih (s + 1) (by omega) q (by omega) τ2 (by rw [g2.2 2 (by omega) (by omega)]; exact c2) (by rw [k2, show 5 + 6 * s + 5 = 4 + 6 * (s + 1) by omega]) k3 (by omega) (fun j hj f hf2 => by
          rw [t2]
          by_cases ej : j = s
          · subst ej; exact k5 f hf2
          · rw [g3 _ (by omega), cf]; exact hf j (by omega) f hf2)
        rw [t2] at i3 i4
        refine ⟨v, τ', i1, hY.trans' (g2.trans' i2), ?_, i4⟩
        rw [i3, sc, k4, show 4 + 6 * (s + 1) = 5 + 6 * s + 5 by omega]
    · rw [if_neg h83]
      exact ⟨_, τ, rfl, YQ.rfl' τ, (scn_no hlt (by rw [fz]; exact decide_eq_false h83)).symm, fun h => absurd h (nI_m9 (by omega))⟩
theorem y_readRiver {τ : eSt} {n : Nat} (hn : n ≤ 40) (h2 : τ 0 2 = nI n) : ∃ τ', fX5_readRiver τ = some (scn (τ 1) n 0, τ') ∧ YR τ τ' ∧ (scn (τ 1) n 0 = -9 → ∃ c, c ≤ 6 ∧ n = 4 + 6 * c ∧ τ' 0 6 = nI c ∧ (∀ j, j < c → ∀ f, f < 5 → τ' 3 (5 * j + f) = dgI (τ 1) (5 + 6 * j + f)) ∧ τ' 0 7 = dgI (τ 1) 1 ∧ τ' 0 8 = dgI (τ 1) 2 ∧ τ' 0 9 = dgI (τ 1) 3) := by
  unfold fX5_readRiver
  rw [e_bnd_def, e_bnd_def]
  have hA : YR τ (e_up (e_up τ 0 3 0) 0 6 0) := (YR.up0 _ _ (by omega)).trans' (YR.up0 _ _ (by omega))
  have a6 : (e_up (e_up τ 0 3 0) 0 6 0) 0 6 = nI 0 := up_s _ _ _ _
  generalize e_up (e_up τ 0 3 0) 0 6 0 = τ1 at hA a6 ⊢
  have t1 : τ1 1 = τ 1 := hA.1 1 (by omega) (by omega)
  have c2 : τ1 0 2 = nI n := by rw [hA.2 2 (by omega) (by omega) (by omega) (by omega) (by omega)]; exact h2
  rw [c2, t1]
  by_cases e : n = 0
  · subst e
    rw [if_pos (show nI 0 = 0 from rfl)]
    refine ⟨τ1, ?_, hA, fun h => absurd h ?_⟩
    · rw [scn_end]; rfl
    · rw [scn_end]; exact nI_m9 (p := 0) (by omega)
  rw [if_neg (by rw [show (0 : Int32) = nI 0 from rfl, e_eq (by omega) (by omega)]; exact e)]
  by_cases h82 : τ 1 0 = 82
  · rw [if_pos h82, e_bnd_def]
    have sc0 : scn (τ 1) n 0 = scn (τ 1) n 1 := scn_fit (by omega) (decide_eq_true h82)
    have hB : YR τ1 (e_up τ1 0 3 1) := YR.up0 _ _ (by omega)
    have b3 : (e_up τ1 0 3 1) 0 3 = nI 1 := up_s _ _ _ _
    have b6 : (e_up τ1 0 3 1) 0 6 = nI 0 := by rw [up_o _ _ _ (by omega)]; exact a6
    generalize e_up τ1 0 3 1 = τ2 at hB b3 b6 ⊢
    have t2 : τ2 1 = τ 1 := (hB.1 1 (by omega) (by omega)).trans t1
    have d2 : τ2 0 2 = nI n := by rw [hB.2 2 (by omega) (by omega) (by omega) (by omega) (by omega)]; exact c2
    obtain ⟨r, τ3, g1, g2, g3, g4, g5⟩ := y_readHead hn (by omega) d2 b3
    rw [t2] at g4 g5
    rw [g1]
    simp only [Option.bind_some, eB_z]
    cases r with
    | false =>
      rw [if_pos rfl, sc0, (g4 rfl).1]
      exact ⟨τ3, rfl, hA.trans' (hB.trans' g2), fun h => absurd h (g4 rfl).2⟩
    | true =>
      rw [if_neg b_tf]
      obtain ⟨k1, k2, k3, k7, k8, k9⟩ := g5 rfl
      have t3 : τ3 1 = τ 1 := (g2.1 1 (by omega) (by omega)).trans t2
      obtain ⟨v, τ', i1, i2, i3, i4⟩ := y_rivK hn 6 0 (by omega) 1000 (by omega) τ3 (by rw [g2.2 2 (by omega) (by omega) (by omega) (by omega) (by omega)]; exact d2) k2 (by rw [g3]; exact b6) k1 (fun j hj => by omega)
      rw [t3] at i3 i4
      have sc : scn (τ 1) n 0 = v := by rw [i3, sc0, k3]
      rw [i1, sc]
      refine ⟨τ', rfl, hA.trans' (hB.trans' (g2.trans' i2.yr)), fun h => ?_⟩
      obtain ⟨c, j1, j2, j3, j4⟩ := i4 h
      exact ⟨c, j1, j2, j3, j4, by rw [i2.2 7 (by omega) (by omega)]; exact k7, by rw [i2.2 8 (by omega) (by omega)]; exact k8, by rw [i2.2 9 (by omega) (by omega)]; exact k9⟩
  · rw [if_neg h82]
    have sc0 : scn (τ 1) n 0 = nI 0 := scn_no (by omega) (decide_eq_false h82)
    rw [sc0]
    exact ⟨τ1, rfl, hA, fun h => absurd h (nI_m9 (by omega))⟩
theorem fit_congr {t u : Nat → Int32} {n p : Nat} (h : ∀ i, i < n → t i = u i) (hp : p < n) : fitB t p = fitB u p := by
  have d : ∀ i, i < n → dgI t i = dgI u i := fun i hi => by unfold dgI; rw [h i hi]
  unfold fitB
  by_cases e0 : p = 0
  · rw [if_pos e0, if_pos e0, h 0 (by omega)]
  rw [if_neg e0, if_neg e0]
  by_cases e1 : p = 1
  · rw [if_pos e1, if_pos e1, d 1 (by omega)]
  rw [if_neg e1, if_neg e1]
  by_cases e2 : p = 2
  · rw [if_pos e2, if_pos e2, d 2 (by omega)]
  rw [if_neg e2, if_neg e2]
  by_cases e3 : p = 3
  · rw [if_pos e3, if_pos e3, d 3 (by omega)]
  rw [if_neg e3, if_neg e3, h p hp, d p hp, d (p - 1) (by omega)]
theorem scn_congr {t u : Nat → Int32} {n : Nat} (h : ∀ i, i < n → t i = u i) : ∀ m p, p + m = n → scn t n p = scn u n p := by
  intro m
  induction m with
  | zero =>
    intro p hp
    have : p = n := by omega
    subst this
    rw [scn_end, scn_end]
  | succ m ih =>
    intro p hp
    by_cases f : fitB t p = true
    · rw [scn_fit (by omega) f, scn_fit (by omega) ((fit_congr h (by omega)).symm.trans f)]; exact ih (p + 1) (by omega)
    · rw [scn_no (by omega) (b_nt f), scn_no (by omega) ((fit_congr h (by omega)).symm.trans (b_nt f))]
theorem st_fault : ES_fault eI := by
  intro σ z τ y hI
  obtain ⟨n, hn, h1, h2, h3⟩ := hI.2.1
  have h2' : (e_up τ 0 0 0) 0 2 = nI n := by rw [up_o _ _ _ (by omega)]; exact h2
  obtain ⟨τ', g1, g2, _⟩ := y_readRiver hn h2'
  unfold fX4_fault fX5_fault
  rw [x_firstFault hn h1, e_bnd_def, g1]
  refine ⟨_, τ', rfl, ?_, hI.same (XSame.rfl' σ) ((y00 τ).trans' g2.same)⟩
  rw [up_n _ _ _ (show 1 ≠ 0 by omega), scn_congr h3 n 0 (by omega)]; rfl
theorem in_wide {a lo hi : Int32} {h : Nat} (hh : h < 2 ^ 31) (H : inI a lo hi = true) (h0 : 0 ≤ lo) (h9 : hi ≤ nI h) : ∃ m, m ≤ h ∧ a = nI m := by
  simp only [inI, Bool.and_eq_true, decide_eq_true_eq] at H
  have q1 := Int32.le_iff_toInt_le.mp H.1
  have q2 := Int32.le_iff_toInt_le.mp H.2
  have q3 := Int32.le_iff_toInt_le.mp h0
  have q4 := Int32.le_iff_toInt_le.mp h9
  rw [nI_toInt hh] at q4
  rw [show (0 : Int32).toInt = 0 from rfl] at q3
  refine ⟨a.toInt.toNat, by omega, Int32.toInt_inj.mp ?_⟩
  rw [nI_toInt (by omega)]; omega
theorem fit_num {t : Nat → Int32} {s f : Nat} (hs : s < 6) (hf : f < 5) (H : ∀ g, g < 5 → fitB t (5 + 6 * s + g) = true) : ∃ m, m ≤ 9 ∧ dgI t (5 + 6 * s + f) = nI m := by
  obtain ⟨lo, hi, _, e2, e3, e4⟩ := y_partS (τ := fun c => if c = 1 then t else fun _ => dgI t (5 + 6 * s + 2)) (s := s) hf hs (fun _ => ⟨rfl, H 2 (by omega)⟩) (fun _ _ => none)
  exact in_wide (lo := lo) (hi := hi) (by omega) (e2.symm.trans (H f hf)) e3 e4
theorem x_take {σ : eSt} {n c : Nat} (hn : n = 4 + 6 * c) (hc : c ≤ 6) (h1 : σ 1 1 = nI n) : ∃ σ', fX2_take σ = some σ' ∧ (∀ k, k < 3 ∨ 8 < k → σ' k = σ k) ∧ σ' 3 5 = nI c ∧ ∀ s, s < c → σ' 4 s = dgI (σ 2) (4 + 6 * s + 1) ∧ σ' 5 s = dgI (σ 2) (4 + 6 * s + 2) ∧ σ' 6 s = dgI (σ 2) (4 + 6 * s + 3) ∧ σ' 7 s = dgI (σ 2) (4 + 6 * s + 4) ∧ σ' 8 s = dgI (σ 2) (4 + 6 * s + 5) := by
  have hd : ∀ (ρ : eSt) (p : Nat), (∀ k, k < 3 → ρ k = σ k) → p < n → fX3_digit ρ (nI p) = some (dgI (σ 2) p) := fun ρ p e hp => by
    rw [x_digit (show n ≤ 40 by omega) (by rw [e 1 (by omega)]; exact h1) hp, e 2 (by omega)]
  have up3 : ∀ (ρ : eSt) (q i : Nat) (v : Int32), 3 < q → (∀ k, k < 3 → ρ k = σ k) → ∀ k, k < 3 → (e_up ρ q i v) k = σ k := fun ρ q i v hq e k hk => by rw [up_n _ _ _ (by omega)]; exact e k hk
  have ec : ∀ c, c < 7 → e_min 6 (e_max 0 ((nI (4 + 6 * c) - 4) / 6)) = nI c := by decide +kernel
  unfold fX2_take
  rw [e_bnd_def, h1, hn, ec c (by omega)]
  have b5 : (e_up σ 3 5 (nI c)) 3 5 = nI c := up_s _ _ _ _
  have bk : ∀ k, k ≠ 3 → (e_up σ 3 5 (nI c)) k = σ k := fun k hk => up_n _ _ _ hk
  generalize e_up σ 3 5 (nI c) = σ1 at b5 bk ⊢
  refine Exists.elim (re_cs (b := bX2_take_24) (N := c) (fun i ρ => (∀ k, k < 3 ∨ 8 < k → ρ k = σ k) ∧ ρ 3 5 = nI c ∧ ∀ s, s < i → ρ 4 s = dgI (σ 2) (4 + 6 * s + 1) ∧ ρ 5 s = dgI (σ 2) (4 + 6 * s + 2) ∧ ρ 6 s = dgI (σ 2) (4 + 6 * s + 3) ∧ ρ 7 s = dgI (σ 2) (4 + 6 * s + 4) ∧ ρ 8 s = dgI (σ 2) (4 + 6 * s + 5)) (fun ρ => some ρ) (fun i a1 hi hJ => ?_) (fun k a1 hJ => ?_) c 1000 0 σ1 (by omega) (by omega) ⟨fun k hk => bk k (by omega), b5, fun s h => by omega⟩) (fun σ' g => ⟨σ', g.2, g.1⟩)
  · obtain ⟨j1, j2, j3⟩ := hJ
    have l0 : ∀ k, k < 3 → a1 k = σ k := fun k hk => j1 k (by omega)
    have l1 := up3 a1 4 i (dgI (σ 2) (4 + 6 * i + 1)) (by omega) l0
    have l2 := up3 (e_up a1 4 i (dgI (σ 2) (4 + 6 * i + 1))) 5 i (dgI (σ 2) (4 + 6 * i + 2)) (by omega) l1
    have l3 := up3 (e_up (e_up a1 4 i (dgI (σ 2) (4 + 6 * i + 1))) 5 i (dgI (σ 2) (4 + 6 * i + 2))) 6 i (dgI (σ 2) (4 + 6 * i + 3)) (by omega) l2
    have l4 := up3 (e_up (e_up (e_up a1 4 i (dgI (σ 2) (4 + 6 * i + 1))) 5 i (dgI (σ 2) (4 + 6 * i + 2))) 6 i (dgI (σ 2) (4 + 6 * i + 3))) 7 i (dgI (σ 2) (4 + 6 * i + 4)) (by omega) l3
    have l5 := up3 (e_up (e_up (e_up (e_up a1 4 i (dgI (σ 2) (4 + 6 * i + 1))) 5 i (dgI (σ 2) (4 + 6 * i + 2))) 6 i (dgI (σ 2) (4 + 6 * i + 3))) 7 i (dgI (σ 2) (4 + 6 * i + 4))) 8 i (dgI (σ 2) (4 + 6 * i + 5)) (by omega) l4
    refine ⟨(e_up (e_up (e_up (e_up (e_up a1 4 i (dgI (σ 2) (4 + 6 * i + 1))) 5 i (dgI (σ 2) (4 + 6 * i + 2))) 6 i (dgI (σ 2) (4 + 6 * i + 3))) 7 i (dgI (σ 2) (4 + 6 * i + 4))) 8 i (dgI (σ 2) (4 + 6 * i + 5))), fun k => ?_, fun k hk => ?_, ?_, fun s hs => ?_⟩
    · unfold bX2_take_24
      rw [j2, if_neg (by rw [e_le (by omega) (by omega)]; omega)]
      simp only [e_bnd_def, show (6 : Int32) = nI 6 from rfl, show (5 : Int32) = nI 5 from rfl, show (4 : Int32) = nI 4 from rfl, show (3 : Int32) = nI 3 from rfl, show (2 : Int32) = nI 2 from rfl, pk_mul, nI_add, nI_1, e_inN (show i < 2 ^ 31 by omega), show i < 6 by omega, if_true, nI_clamp (show i < 2 ^ 31 by omega)]
      rw [hd a1 (4 + 6 * i + 1) l0 (by omega)]
      simp only [Option.bind_some]
      rw [hd (e_up a1 4 i (dgI (σ 2) (4 + 6 * i + 1))) (4 + 6 * i + 2) l1 (by omega)]
      simp only [Option.bind_some]
      rw [hd (e_up (e_up a1 4 i (dgI (σ 2) (4 + 6 * i + 1))) 5 i (dgI (σ 2) (4 + 6 * i + 2))) (4 + 6 * i + 3) l2 (by omega)]
      simp only [Option.bind_some]
      rw [hd (e_up (e_up (e_up a1 4 i (dgI (σ 2) (4 + 6 * i + 1))) 5 i (dgI (σ 2) (4 + 6 * i + 2))) 6 i (dgI (σ 2) (4 + 6 * i + 3))) (4 + 6 * i + 4) l3 (by omega)]
      simp only [Option.bind_some]
      rw [hd (e_up (e_up (e_up (e_up a1 4 i (dgI (σ 2) (4 + 6 * i + 1))) 5 i (dgI (σ 2) (4 + 6 * i + 2))) 6 i (dgI (σ 2) (4 + 6 * i + 3))) 7 i (dgI (σ 2) (4 + 6 * i + 4))) (4 + 6 * i + 5) l4 (by omega)]
      simp only [Option.bind_some]
    · rw [up_n _ _ _ (by omega), up_n _ _ _ (by omega), up_n _ _ _ (by omega), up_n _ _ _ (by omega), up_n _ _ _ (by omega)]; exact j1 k hk
    · rw [up_n _ _ _ (by omega), up_n _ _ _ (by omega), up_n _ _ _ (by omega), up_n _ _ _ (by omega), up_n _ _ _ (by omega)]; exact j2
    · by_cases e : s = i
      · subst e
        exact ⟨(by rw [up_n _ _ _ (by omega), up_n _ _ _ (by omega), up_n _ _ _ (by omega), up_n _ _ _ (by omega), up_s]), (by rw [up_n _ _ _ (by omega), up_n _ _ _ (by omega), up_n _ _ _ (by omega), up_s]), (by rw [up_n _ _ _ (by omega), up_n _ _ _ (by omega), up_s]), (by rw [up_n _ _ _ (by omega), up_s]), (by rw [up_s])⟩
      · obtain ⟨t0, t1, t2, t3, t4⟩ := j3 s (by omega)
        exact ⟨(by rw [up_n _ _ _ (by omega), up_n _ _ _ (by omega), up_n _ _ _ (by omega), up_n _ _ _ (by omega), up_o _ _ _ e]; exact t0), (by rw [up_n _ _ _ (by omega), up_n _ _ _ (by omega), up_n _ _ _ (by omega), up_o _ _ _ e, up_n _ _ _ (by omega)]; exact t1), (by rw [up_n _ _ _ (by omega), up_n _ _ _ (by omega), up_o _ _ _ e, up_n _ _ _ (by omega), up_n _ _ _ (by omega)]; exact t2), (by rw [up_n _ _ _ (by omega), up_o _ _ _ e, up_n _ _ _ (by omega), up_n _ _ _ (by omega), up_n _ _ _ (by omega)]; exact t3), (by rw [up_o _ _ _ e, up_n _ _ _ (by omega), up_n _ _ _ (by omega), up_n _ _ _ (by omega), up_n _ _ _ (by omega)]; exact t4)⟩
  · unfold bX2_take_24
    rw [hJ.2.1, if_pos (by rw [e_le (by omega) (by omega)]; omega)]
def scB (a b c : Nat) : Nat → Nat
  | 0 => a
  | 1 => 0
  | 2 => 0
  | 3 => 10
  | 4 => 10
  | 5 => b
  | 6 => c
  | _ => 0
def yEnd (ρ : eSt) : eSt := e_up (e_up (e_up (e_up (e_up (e_up (e_up (e_up (e_up (e_up (e_up ρ 4 0 (ρ 0 7)) 4 1 0) 4 2 0) 4 3 0) 4 4 (-9)) 4 5 (-9)) 4 6 (ρ 0 8)) 4 7 (ρ 0 9)) 0 14 0) 8 0 0) 8 1 0
theorem yEnd_n (ρ : eSt) {c : Nat} (h0 : c ≠ 0) (h4 : c ≠ 4) (h8 : c ≠ 8) : yEnd ρ c = ρ c := by
  unfold yEnd
  rw [up_n _ _ _ h8, up_n _ _ _ h8, up_n _ _ _ h0, up_n _ _ _ h4, up_n _ _ _ h4, up_n _ _ _ h4, up_n _ _ _ h4, up_n _ _ _ h4, up_n _ _ _ h4, up_n _ _ _ h4, up_n _ _ _ h4]
theorem yEnd_0 (ρ : eSt) {j : Nat} (h : j ≠ 14) : yEnd ρ 0 j = ρ 0 j := by
  unfold yEnd
  rw [up_n _ _ _ (by omega), up_n _ _ _ (by omega), up_o _ _ _ h, up_n _ _ _ (by omega), up_n _ _ _ (by omega), up_n _ _ _ (by omega), up_n _ _ _ (by omega), up_n _ _ _ (by omega), up_n _ _ _ (by omega), up_n _ _ _ (by omega), up_n _ _ _ (by omega)]
def xEnd (ρ : eSt) (a b c : Int32) : eSt := e_up (e_up (e_up (e_up (e_up (e_up (e_up (e_up (e_up (e_up ρ 9 0 a) 9 1 0) 9 2 0) 9 3 10) 9 4 10) 9 5 b) 9 6 c) 0 5 0) 16 0 (-1)) 16 1 (-1)
theorem xEnd_n (ρ : eSt) (a b d : Int32) {c : Nat} (h0 : c ≠ 0) (h9 : c ≠ 9) (h16 : c ≠ 16) : xEnd ρ a b d c = ρ c := by
  unfold xEnd
  rw [up_n _ _ _ h16, up_n _ _ _ h16, up_n _ _ _ h0, up_n _ _ _ h9, up_n _ _ _ h9, up_n _ _ _ h9, up_n _ _ _ h9, up_n _ _ _ h9, up_n _ _ _ h9, up_n _ _ _ h9]
theorem nar0 : vp_nar .boolean 0 = 0 := by decide +kernel
theorem y_rivEnd {ρ : eSt} {c : Nat} (hc : c ≤ 6) (h4 : ρ 0 4 = nI c) : lo_2 (bX5_river_27) 1000 0 ρ = some (nI c, yEnd (filS ρ 2 (fun i => ρ 3 i) (5 * c))) := by
  have e5 : (5 : Int32) * nI c = nI (5 * c) := pk_mul 5 c
  have k4 : ∀ i, (filS ρ 2 (fun i => ρ 3 i) i) 0 4 = nI c := fun i => by rw [filS_n _ _ _ _ (by omega)]; exact h4
  refine lo_2_fil (N := 5 * c) (c := 2) (v := fun i => ρ 3 i) (ex := fun q => some (nI c, yEnd q)) (by omega) (fun k i hi => ?_) (fun k => ?_)
  · unfold bX5_river_27
    rw [k4, e5, if_neg (by rw [e_le (by omega) (by omega)]; omega)]
    simp only [e_inN (show i < 2 ^ 31 by omega), show i < 30 by omega, if_true, e_bnd_def, nI_1, nI_clamp (show i < 2 ^ 31 by omega)]
    rw [filS_n _ _ _ _ (show 3 ≠ 2 by omega)]
  · unfold bX5_river_27
    rw [k4, e5, if_pos (by rw [e_le (by omega) (by omega)]; omega), nar0]
    have : some (nI c, yEnd (filS ρ 2 (fun i => ρ 3 i) (5 * c))) = some ((filS ρ 2 (fun i => ρ 3 i) (5 * c)) 0 4, yEnd (filS ρ 2 (fun i => ρ 3 i) (5 * c))) := by rw [k4]
    rw [this]
    generalize filS ρ 2 (fun i => ρ 3 i) (5 * c) = q
    rfl
theorem st_river : ES_river eI := by
  intro σ z τ y hI
  obtain ⟨n, hn, h1, h2, h3⟩ := hI.2.1
  have h2' : (e_up τ 0 0 0) 0 2 = nI n := by rw [up_o _ _ _ (by omega)]; exact h2
  obtain ⟨τ', g1, g2, g3⟩ := y_readRiver hn h2'
  have t1 : (e_up τ 0 0 0) 1 = τ 1 := up_n _ _ _ (by omega)
  rw [t1, ← scn_congr h3 n 0 (by omega)] at g1 g3
  unfold fX4_river fX5_river
  rw [x_firstFault hn h1, e_bnd_def, g1]
  simp only [Option.bind_some]
  by_cases ok : scn (σ 2) n 0 = -9
  · rw [if_pos ok, if_pos ok]
    obtain ⟨c, c1, c2, c3, c4, c7, c8, c9⟩ := g3 ok
    obtain ⟨fits, _⟩ := scn_ok hn n 0 (by omega) ok
    have dd : ∀ i, i < n → dgI (σ 2) i = dgI (τ 1) i := fun i hi => by unfold dgI; rw [h3 i hi]
    obtain ⟨m0, m0h, m0e⟩ := in_wide (h := 9) (lo := 0) (hi := 9) (by omega) (show inI (dgI (σ 2) 1) 0 9 = true from fits 1 (by omega) (by omega)) (by decide) (by decide)
    obtain ⟨m5, m5h, m5e⟩ := in_wide (h := 4) (lo := 0) (hi := 4) (by omega) (show inI (dgI (σ 2) 2) 0 4 = true from fits 2 (by omega) (by omega)) (by decide) (by decide)
    obtain ⟨m6, m6h, m6e⟩ := in_wide (h := 2) (lo := 0) (hi := 2) (by omega) (show inI (dgI (σ 2) 3) 0 2 = true from fits 3 (by omega) (by omega)) (by decide) (by decide)
    have num : ∀ s f, s < c → f < 5 → dgI (σ 2) (5 + 6 * s + f) = nI (dgI (σ 2) (5 + 6 * s + f)).toNatClampNeg ∧ (dgI (σ 2) (5 + 6 * s + f)).toNatClampNeg ≤ 9 := fun s f hs hf => by
      obtain ⟨m, mh, me⟩ := fit_num (t := σ 2) (s := s) (f := f) (by omega) hf (fun g hg => fits _ (by omega) (by omega))
      rw [me, nI_clamp (by omega)]; exact ⟨rfl, mh⟩
    obtain ⟨σ2, e1, e2, e3, e4⟩ := x_take c2 c1 h1
    rw [e1]
    simp only [Option.bind_some]
    have dg2 : ∀ p, p < n → fX3_digit σ2 (nI p) = some (dgI (σ 2) p) := fun p hp => by
      rw [x_digit hn (by rw [e2 1 (by omega)]; exact h1) hp, e2 2 (by omega)]
    rw [show fX3_digit σ2 1 = some (nI m0) from (dg2 1 (by omega)).trans (by rw [m0e]), show fX3_digit σ2 2 = some (nI m5) from (dg2 2 (by omega)).trans (by rw [m5e]), show fX3_digit σ2 3 = some (nI m6) from (dg2 3 (by omega)).trans (by rw [m6e])]
    simp only [Option.bind_some, e_bnd_def]
    have b4 : (e_up τ' 0 4 (τ' 0 6)) 0 4 = nI c := by rw [up_s]; exact c3
    rw [y_rivEnd c1 b4]
    have hx : ∀ (k : eSt → Option (Int32 × eSt)), (fX0_begin σ2 (nI m0) (nI m5) (nI m6)).bind (fun σ6 => some ((e_up (e_up (e_up σ6 0 5 0) 16 0 (-1)) 16 1 (-1)) 3 5, e_up (e_up (e_up σ6 0 5 0) 16 0 (-1)) 16 1 (-1))) = some (nI c, xEnd σ2 (nI m0) (nI m5) (nI m6)) := fun _ => by rw [← e3]; rfl
    refine ⟨nI c, _, _, hx (fun _ => none), rfl, ?_⟩
    have Y : ∀ k, k ≠ 0 → k ≠ 2 → k ≠ 3 → k ≠ 4 → k ≠ 8 → yEnd (filS (e_up τ' 0 4 (τ' 0 6)) 2 (fun i => (e_up τ' 0 4 (τ' 0 6)) 3 i) (5 * c)) k = τ k := fun k k0 k2 k3 k4 k8 => by
      rw [yEnd_n _ k0 k4 k8, filS_n _ _ _ _ k2, up_n _ _ _ k0, g2.1 k k0 k3, up_n _ _ _ k0]
    have Y0 : ∀ j, j ≠ 14 → j ≠ 4 → yEnd (filS (e_up τ' 0 4 (τ' 0 6)) 2 (fun i => (e_up τ' 0 4 (τ' 0 6)) 3 i) (5 * c)) 0 j = τ' 0 j := fun j j14 j4 => by
      rw [yEnd_0 _ j14, filS_n _ _ _ _ (by omega), up_o _ _ _ j4]
    have X : ∀ k, k ≠ 0 → k ≠ 9 → k ≠ 16 → (k < 3 ∨ 8 < k) → xEnd σ2 (nI m0) (nI m5) (nI m6) k = σ k := fun k k0 k9 k16 kk => by
      rw [xEnd_n _ _ _ _ k0 k9 k16, e2 k kk]
    have Y2 : ∀ i, i < 5 * c → yEnd (filS (e_up τ' 0 4 (τ' 0 6)) 2 (fun i => (e_up τ' 0 4 (τ' 0 6)) 3 i) (5 * c)) 2 i = τ' 3 i := fun i hi => by
      rw [yEnd_n _ (by omega) (by omega) (by omega), filS_c, if_pos hi, up_n _ _ _ (by omega)]
    have f7 : (filS (e_up τ' 0 4 (τ' 0 6)) 2 (fun i => (e_up τ' 0 4 (τ' 0 6)) 3 i) (5 * c)) 0 7 = nI m0 := by rw [filS_n _ _ _ _ (by omega), up_o _ _ _ (by omega), c7, ← dd 1 (by omega)]; exact m0e
    have f8 : (filS (e_up τ' 0 4 (τ' 0 6)) 2 (fun i => (e_up τ' 0 4 (τ' 0 6)) 3 i) (5 * c)) 0 8 = nI m5 := by rw [filS_n _ _ _ _ (by omega), up_o _ _ _ (by omega), c8, ← dd 2 (by omega)]; exact m5e
    have f9 : (filS (e_up τ' 0 4 (τ' 0 6)) 2 (fun i => (e_up τ' 0 4 (τ' 0 6)) 3 i) (5 * c)) 0 9 = nI m6 := by rw [filS_n _ _ _ _ (by omega), up_o _ _ _ (by omega), c9, ← dd 3 (by omega)]; exact m6e
    have f4 : (filS (e_up τ' 0 4 (τ' 0 6)) 2 (fun i => (e_up τ' 0 4 (τ' 0 6)) 3 i) (5 * c)) 0 4 = nI c := by rw [filS_n _ _ _ _ (by omega)]; exact b4
    generalize filS (e_up τ' 0 4 (τ' 0 6)) 2 (fun i => (e_up τ' 0 4 (τ' 0 6)) 3 i) (5 * c) = ρ at Y Y0 Y2 f7 f8 f9 f4 ⊢
    have y17 : yEnd ρ 0 17 = τ 0 17 := by rw [Y0 17 (by omega) (by omega), g2.2 17 (by omega) (by omega) (by omega) (by omega) (by omega), up_o _ _ _ (by omega)]
    have y2 : yEnd ρ 0 2 = τ 0 2 := by rw [Y0 2 (by omega) (by omega), g2.2 2 (by omega) (by omega) (by omega) (by omega) (by omega), up_o _ _ _ (by omega)]
    refine ⟨hI.1, hI.2.1.same (X 1 (by omega) (by omega) (by omega) (by omega)) (X 2 (by omega) (by omega) (by omega) (by omega)) y2 (Y 1 (by omega) (by omega) (by omega) (by omega) (by omega)), ?_, ?_, ?_, ?_, hI.2.2.2.2.2.2.same (by rw [X 10 (by omega) (by omega) (by omega) (by omega)]) (fun k q1 q2 => X k (by omega) (by omega) (by omega) (by omega)) y17 (fun k q1 q2 => Y k (by omega) (by omega) (by omega) (by omega) (by omega))⟩
    · refine ⟨c, fun s f => (dgI (σ 2) (5 + 6 * s + f)).toNatClampNeg, ⟨?_, c1, fun s hs => ⟨?_, fun f hf => (num s f hs hf).2⟩⟩, ⟨?_, c1, fun s hs => ⟨fun f hf => ?_, fun f hf => (num s f hs hf).2⟩⟩⟩
      · rw [xEnd_n _ _ _ _ (by omega) (by omega) (by omega)]; exact e3
      · obtain ⟨t0, t1, t2, t3, t4⟩ := e4 s hs
        have a : ∀ f, 4 + 6 * s + (f + 1) = 5 + 6 * s + f := fun f => by omega
        rw [a 0] at t0
        rw [a 1] at t1
        rw [a 2] at t2
        rw [a 3] at t3
        rw [a 4] at t4
        rw [xEnd_n _ _ _ _ (by omega) (by omega) (by omega), xEnd_n _ _ _ _ (by omega) (by omega) (by omega), xEnd_n _ _ _ _ (by omega) (by omega) (by omega), xEnd_n _ _ _ _ (by omega) (by omega) (by omega), xEnd_n _ _ _ _ (by omega) (by omega) (by omega)]
        exact ⟨t0.trans (num s 0 hs (by omega)).1, t1.trans (num s 1 hs (by omega)).1, t2.trans (num s 2 hs (by omega)).1, t3.trans (num s 3 hs (by omega)).1, t4.trans (num s 4 hs (by omega)).1⟩
      · rw [yEnd_0 _ (by omega)]; exact f4
      · rw [Y2 _ (by omega), c4 s hs f hf, ← dd _ (by omega)]; exact (num s f hs hf).1
    · refine ⟨scB m0 m5 m6, ⟨?_, by show 0 < 10; omega, by show 0 < 64; omega, Nat.le_refl 10, Nat.le_refl 10, fun _ => rfl, m5h, m6h⟩, ⟨rfl, rfl, rfl, rfl, rfl, rfl, rfl⟩, ?_⟩
      · show m0 < 10; omega
      · exact ⟨f7, rfl, rfl, rfl, rfl, rfl, f8, f9⟩
    · exact ⟨0, by omega, rfl, rfl, fun i hi => by omega⟩
    · intro s hs
      refine Or.inl ?_
      rcases (show s = 0 ∨ s = 1 by omega) with rfl | rfl
      · exact ⟨rfl, rfl⟩
      · exact ⟨rfl, rfl⟩
  · rw [if_neg ok, if_neg ok]
    exact ⟨_, _, _, rfl, rfl, hI.same (XSame.rfl' σ) ((y00 τ).trans' g2.same)⟩

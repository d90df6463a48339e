/-! math 25: chance, the step -/
theorem sumG_s (G : Nat → Nat) (m : Nat) : sumG G (m + 1) = sumG G m + G m := by
  unfold sumG
  rw [itN_last, Nat.zero_add]
theorem sumG_congr {G H : Nat → Nat} : ∀ m, (∀ f, f < m → G f = H f) → sumG G m = sumG H m := by
  intro m
  induction m with
  | zero => intro _; rfl
  | succ m ih => intro h; rw [sumG_s, sumG_s, ih (fun f hf => h f (by omega)), h m (by omega)]
theorem sumG_le {G H : Nat → Nat} : ∀ m, (∀ f, f < m → G f ≤ H f) → sumG G m ≤ sumG H m := by
  intro m
  induction m with
  | zero => intro _; exact Nat.le_refl _
  | succ m ih =>
    intro h
    rw [sumG_s, sumG_s]
    exact Nat.add_le_add (ih (fun f hf => h f (by omega))) (h m (by omega))
theorem sumG_cut {G : Nat → Nat} {m : Nat} (hm : m ≤ 64) (h : ∀ f, m ≤ f → f < 64 → G f = 0) : sumG G 64 = sumG G m := by
  have e : sumG G 64 = sumG G (m + (64 - m)) := congrArg (sumG G) (by omega)
  rw [e]
  unfold sumG
  rw [itN_add]
  refine itN_id _ _ _ (fun j j1 j2 y => ?_)
  show y + G j = y
  rw [h j (by omega) (by omega)]; rfl
theorem sub_xor : ∀ L, L < 64 → ∀ f, f < 64 → subB (L ^^^ f) L = subB f L ∧ (subB f L = true → L ^^^ f = L &&& (63 ^^^ f) ∧ pcN (L ^^^ f) = pcN L - pcN f) := by decide +kernel
theorem p10 : ∀ n, n < 7 → 1 ≤ 10 ^ n ∧ 10 ^ n ≤ 1000000 := by decide +kernel
theorem e_absN {m : Nat} (h : m < 2 ^ 31) : e_abs (nI m) = nI m := by
  unfold e_abs
  rw [if_pos (show (0 : Int32) ≤ nI m by rw [show (0 : Int32) = nI 0 from rfl, e_le (by omega) h]; omega)]
theorem y_chOut {τ : eSt} {cnt : Nat} {sn : Nat → Nat → Nat} (HY : RSY τ cnt sn) {sc : Nat → Nat} (S : ScOk sc) (PY : PgY (τ 4) sc) {c h x L : Nat} (hc : c < 10) (hh : h < 10) (hx : x ≤ 10) (hL : L < 64) (hL2 : L < 2 ^ cnt) (a4 : Int32) : ∃ τ', YSame τ τ' ∧ lo_4 (bX5_chance_66 (nI c) (nI h) (nI x) a4 (nI (2 ^ cnt - 1)) (nI L)) 1000 0 0 0 τ = (fX5_fraction (nI (sumG (fun f => if (subB f L && (sureS (fun c => setN cnt sn (sc 2 ||| f) (sc 3) (sc 4) (sc 5) (sc 6) c h)).testBit c) = true then Wt x (pcN L) (pcN L - pcN f) else 0) (2 ^ cnt))) (nI (sumG (fun f => if subB f L = true then Wt x (pcN L) (pcN L - pcN f) else 0) (2 ^ cnt))) a4).bind fun v1 => some (v1, τ') := by
  have hcn := HY.2.1
  have p1 : 1 ≤ 2 ^ cnt := Nat.one_le_two_pow
  have p6 : 2 ^ cnt ≤ 2 ^ 6 := Nat.pow_le_pow_right (by decide) hcn
  obtain ⟨v7, v8, τ', ⟨g1, g2, g3⟩, g4⟩ := re_aacs (b := bX5_chance_66 (nI c) (nI h) (nI x) a4 (nI (2 ^ cnt - 1)) (nI L)) (N := 2 ^ cnt) (fun i a7 a8 ρ => YSame τ ρ ∧ a7 = nI (sumG (fun f => if (subB f L && (sureS (fun c => setN cnt sn (sc 2 ||| f) (sc 3) (sc 4) (sc 5) (sc 6) c h)).testBit c) = true then Wt x (pcN L) (pcN L - pcN f) else 0) i) ∧ a8 = nI (sumG (fun f => if subB f L = true then Wt x (pcN L) (pcN L - pcN f) else 0) i)) (fun a7 a8 ρ => (fX5_fraction a7 a8 a4).bind fun v1 => some (v1, ρ)) (by
    intro f a7 a8 ρ hf hJ
    obtain ⟨j1, j2, j3⟩ := hJ
    have f64 : f < 64 := by omega
    rw [sumG_s, sumG_s]
    by_cases q : subB f L = true
    · obtain ⟨ρ', t1, t2⟩ := y_chIn (HY.same j1) S (PY.same j1) hc hh hx hL f64 a4 (nI (2 ^ cnt - 1))
      have pe : itN (pr x L f) cnt 0 1 = Wt x (pcN L) (pcN L - pcN f) := by rw [← pr_cut hcn hL2]; exact pr_dec L hL x (by omega) f f64 q
      rw [pe] at t2
      refine ⟨if (sureS (fun c => setN cnt sn (sc 2 ||| f) (sc 3) (sc 4) (sc 5) (sc 6) c h)).testBit c = true then a7 + nI (Wt x (pcN L) (pcN L - pcN f)) else a7 + 0, a8 + nI (Wt x (pcN L) (pcN L - pcN f)), ρ', fun k => ?_, j1.trans' t1, ?_, ?_⟩
      · unfold bX5_chance_66
        rw [if_neg (by rw [e_lt (by omega) (by omega)]; omega), if_pos (by rw [sub_x f64 hL]; exact q)]
        exact t2 k a7 a8
      · show _ = nI (sumG _ f + if (subB f L && (sureS (fun c => setN cnt sn (sc 2 ||| f) (sc 3) (sc 4) (sc 5) (sc 6) c h)).testBit c) = true then Wt x (pcN L) (pcN L - pcN f) else 0)
        rw [q, j2]
        cases (sureS (fun c => setN cnt sn (sc 2 ||| f) (sc 3) (sc 4) (sc 5) (sc 6) c h)).testBit c with
        | false => exact nI_add _ 0
        | true => exact nI_add _ _
      · show _ = nI (sumG _ f + if subB f L = true then Wt x (pcN L) (pcN L - pcN f) else 0)
        rw [if_pos q, j3, nI_add]
    · refine ⟨a7, a8, ρ, fun k => ?_, j1, ?_, ?_⟩
      · unfold bX5_chance_66 fX5_chance_190
        rw [if_neg (by rw [e_lt (by omega) (by omega)]; omega), if_neg (by rw [sub_x f64 hL]; exact q), e_bnd_def, nI_1]
      · show _ = nI (sumG _ f + if (subB f L && (sureS (fun c => setN cnt sn (sc 2 ||| f) (sc 3) (sc 4) (sc 5) (sc 6) c h)).testBit c) = true then Wt x (pcN L) (pcN L - pcN f) else 0)
        rw [b_nt q]; exact j2
      · show _ = nI (sumG _ f + if subB f L = true then Wt x (pcN L) (pcN L - pcN f) else 0)
        rw [if_neg q]; exact j3) (by
    intro k a7 a8 ρ _
    unfold bX5_chance_66
    rw [if_pos (by rw [e_lt (by omega) (by omega)]; omega)]) (2 ^ cnt) 1000 0 0 0 τ (by omega) (by omega) ⟨YSame.rfl' τ, rfl, rfl⟩
  refine ⟨τ', g1, ?_⟩
  have g4 : lo_4 (bX5_chance_66 (nI c) (nI h) (nI x) a4 (nI (2 ^ cnt - 1)) (nI L)) 1000 0 0 0 τ = (fX5_fraction v7 v8 a4).bind fun v1 => some (v1, τ') := g4
  rw [g4, g2, g3]

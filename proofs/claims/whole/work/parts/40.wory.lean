/-! math 21: worth -/
theorem sub_or : ∀ L, L < 64 → ∀ s, s < 6 → L.testBit s = true → ∀ e, e < 64 → subB e L = true → subB (e ||| 2 ^ s) L = true := by decide +kernel
theorem sub_out : ∀ c, c < 7 → ∀ L, L < 64 → L < 2 ^ c → ∀ e, e < 64 → 2 ^ c ≤ e → subB e L = false := by decide +kernel
theorem sub_bits : ∀ L, L < 64 → ∀ e, e < 64 → subB e L = true → ∀ j, j < 6 → e.testBit j = true → L.testBit j = true := by decide +kernel
theorem pc6 : ∀ L, L < 64 → pcN L ≤ 6 := by decide +kernel
theorem zfx : fX4_toldPart 0 1 0 = some 1 ∧ fX4_toldPart 0 1 1 = some 0 := by decide +kernel
theorem zfy : ∀ n, n < 7 → fX5_fraction 0 (nI (facN n)) 0 = some 1 ∧ fX5_fraction 0 (nI (facN n)) 1 = some 0 := by decide +kernel
theorem itN_zero {g : Nat → Int → Int} : ∀ m i x, (∀ j, i ≤ j → j < i + m → ∀ y, g j y = y) → itN g m i x = x := by
  intro m
  induction m with
  | zero => intro i x _; rfl
  | succ m ih =>
    intro i x h
    rw [itN_s, h i (by omega) (by omega)]
    exact ih (i + 1) x (fun j h1 h2 => h j (by omega) (by omega))
theorem all_bit {cnt : Nat} (hc : cnt ≤ 6) {e j : Nat} (hj : j < cnt) : ((2 ^ cnt - 1) &&& (63 ^^^ e)).testBit j = !e.testBit j := by
  rw [Nat.testBit_and, Nat.testBit_xor, b63, Nat.testBit_two_pow_sub_one, decide_eq_true hj, decide_eq_true (show j < 6 by omega)]
  cases e.testBit j <;> rfl
theorem y_worthU {cnt : Nat} (hc : cnt ≤ 6) (sn : Nat → Nat → Nat) {hu e : Nat} (he : e < 64) (hsub : subB e (liveN cnt hu) = true) (h1 h2 ra wi h : Nat) : sureS (fun c => setN cnt sn ((2 ^ cnt - 1) &&& (63 ^^^ e)) h1 h2 ra wi c h) = sureS (fun c => setN cnt sn hu h1 h2 ra wi c h &&& (e ||| 192)) := by
  apply sureS_congr
  intro c _
  refine (setN_mask hc sn h1 h2 ra wi c h (fun j hj => ?_)).symm
  rw [all_bit hc hj, Bool.not_not]
  cases hb : e.testBit j with
  | false => rw [Bool.and_false]
  | true =>
    have q := sub_bits _ (liveN_lt hc hu) e he hsub j (by omega) hb
    rw [liveN_bit, decide_eq_true hj] at q
    have q : (!hu.testBit j) = true := q
    rw [q]; rfl
theorem y_worth1 {τ : eSt} {cnt : Nat} {sn : Nat → Nat → Nat} (HY : RSY τ cnt sn) {sc : Nat → Nat} (S : ScOk sc) (PY : PgY (τ 4) sc) {h : Nat} (hh : h < 10) (a1 a3 an : Int32) : ∃ τ', (YSame τ τ' ∧ ∀ e, e < 2 ^ cnt → subB e (liveN cnt (sc 2)) = true → τ' 14 e = nI (pcN (sureS (fun c => setN cnt sn (sc 2) (sc 3) (sc 4) (sc 5) (sc 6) c h &&& (e ||| 192))))) ∧ lo_2 (bX5_worth_58 a1 (nI h) a3 (nI (2 ^ cnt - 1)) (nI (liveN cnt (sc 2))) an) 1000 0 τ = lo_2 (bX5_worth_127 τ' a1 a3 (nI (2 ^ cnt - 1)) (nI (liveN cnt (sc 2))) an) 1000 0 0 := by
  have hc := HY.2.1
  have p1 : 1 ≤ 2 ^ cnt := Nat.one_le_two_pow
  have p6 : 2 ^ cnt ≤ 2 ^ 6 := Nat.pow_le_pow_right (by decide) hc
  have hL := liveN_lt hc (sc 2)
  obtain ⟨τ', g1, g2⟩ := re_cs (b := bX5_worth_58 a1 (nI h) a3 (nI (2 ^ cnt - 1)) (nI (liveN cnt (sc 2))) an) (N := 2 ^ cnt) (fun i ρ => YSame τ ρ ∧ ∀ e, e < i → subB e (liveN cnt (sc 2)) = true → ρ 14 e = nI (pcN (sureS (fun c => setN cnt sn (sc 2) (sc 3) (sc 4) (sc 5) (sc 6) c h &&& (e ||| 192))))) (fun ρ => lo_2 (bX5_worth_127 ρ a1 a3 (nI (2 ^ cnt - 1)) (nI (liveN cnt (sc 2))) an) 1000 0 0) (by
    intro e ρ he hJ
    obtain ⟨j1, j2⟩ := hJ
    have e64 : e < 64 := by omega
    have hu6 : (2 ^ cnt - 1) &&& (63 ^^^ e) < 64 := Nat.lt_of_le_of_lt Nat.and_le_left (by omega)
    have s1 : YSame ρ (e_up (yB ρ) 5 2 (nI ((2 ^ cnt - 1) &&& (63 ^^^ e)))) := (yB_same ρ).trans' (YSame.upk _ _ _ (by omega))
    have k14 : (e_up (yB ρ) 5 2 (nI ((2 ^ cnt - 1) &&& (63 ^^^ e)))) 14 = ρ 14 := by
      rw [up_n _ _ _ (by omega)]; unfold yB; rw [filS_n _ _ _ _ (by omega)]
    have Q : HQ (e_up (yB ρ) 5 2 (nI ((2 ^ cnt - 1) &&& (63 ^^^ e)))) 5 ((2 ^ cnt - 1) &&& (63 ^^^ e)) (sc 3) (sc 4) (sc 5) (sc 6) := by
      obtain ⟨q1, q2, q3, q4, q5, q6, q7, q8, q9⟩ := yB_hq S (PY.same j1)
      exact ⟨up_s _ _ _ _, by rw [up_o _ _ _ (by omega)]; exact q2, by rw [up_o _ _ _ (by omega)]; exact q3, by rw [up_o _ _ _ (by omega)]; exact q4, by rw [up_o _ _ _ (by omega)]; exact q5, hu6, q7, q8, q9⟩
    have w114 : ∀ (k : Int32 → eSt → Option (Int32 × eSt)) (ρ1 : eSt) (v : Int32), fX5_worth_114 k ρ1 a1 (nI h) a3 (nI (2 ^ cnt - 1)) (nI (liveN cnt (sc 2))) an (nI e) v (nI e) = k (nI (e + 1)) (e_up ρ1 14 e v) := fun k ρ1 v => by
      unfold fX5_worth_114
      rw [if_pos (by rw [e_inN (by omega)]; exact e64), nI_clamp (by omega), e_bnd_def, e_bnd_def, nI_1]
    have op : ∀ k, bX5_worth_58 a1 (nI h) a3 (nI (2 ^ cnt - 1)) (nI (liveN cnt (sc 2))) an k (nI e) ρ = if subB e (liveN cnt (sc 2)) = true then (fX5_sureAt (e_up (yB ρ) 5 2 (nI ((2 ^ cnt - 1) &&& (63 ^^^ e)))) 5 (nI h)).bind fun w3 => (fX5_bits w3.1).bind fun v4 => fX5_worth_114 k w3.2 a1 (nI h) a3 (nI (2 ^ cnt - 1)) (nI (liveN cnt (sc 2))) an (nI e) v4 (nI e) else fX5_worth_114 k (e_up (yB ρ) 5 2 (nI ((2 ^ cnt - 1) &&& (63 ^^^ e)))) a1 (nI h) a3 (nI (2 ^ cnt - 1)) (nI (liveN cnt (sc 2))) an (nI e) 0 (nI e) := by
      intro k
      unfold bX5_worth_58
      rw [if_neg (by rw [e_lt (by omega) (by omega)]; omega), y_begin', Option.bind_some, e_bnd_def, and_not _ (by omega) e e64]
      by_cases c : subB e (liveN cnt (sc 2)) = true
      · rw [if_pos (by rw [sub_x e64 hL]; exact c), if_pos c]
      · rw [if_neg (by rw [sub_x e64 hL]; exact c), if_neg c]
    by_cases c : subB e (liveN cnt (sc 2)) = true
    · have ea := y_sureAt (q := 5) (HY.same (j1.trans' s1)) (Or.inr rfl) Q hh
      have eb := bits_y (sureS_lt (fun c => setN cnt sn ((2 ^ cnt - 1) &&& (63 ^^^ e)) (sc 3) (sc 4) (sc 5) (sc 6) c h))
      rw [y_worthU hc sn e64 c] at ea eb
      refine ⟨e_up (filS (e_up (yB ρ) 5 2 (nI ((2 ^ cnt - 1) &&& (63 ^^^ e)))) 13 (fun c => nI (setN cnt sn ((2 ^ cnt - 1) &&& (63 ^^^ e)) (sc 3) (sc 4) (sc 5) (sc 6) c h)) 10) 14 e (nI (pcN (sureS (fun c => setN cnt sn (sc 2) (sc 3) (sc 4) (sc 5) (sc 6) c h &&& (e ||| 192))))), fun k => ?_, ((j1.trans' s1).trans' (YSame.fil (c := 13) _ _ _ (by omega))).trans' (YSame.upk _ _ _ (by omega)), fun e' he' hs' => ?_⟩
      · rw [op, if_pos c, ea, Option.bind_some]
        dsimp only
        rw [eb, Option.bind_some, w114]
      · by_cases q : e' = e
        · rw [q]; exact up_s _ _ _ _
        · rw [up_o _ _ _ q, filS_n _ _ _ _ (by omega), k14]; exact j2 e' (by omega) hs'
    · refine ⟨e_up (e_up (yB ρ) 5 2 (nI ((2 ^ cnt - 1) &&& (63 ^^^ e)))) 14 e 0, fun k => ?_, (j1.trans' s1).trans' (YSame.upk _ _ _ (by omega)), fun e' he' hs' => ?_⟩
      · rw [op, if_neg c, w114]
      · by_cases q : e' = e
        · rw [q] at hs'; exact absurd hs' c
        · rw [up_o _ _ _ q, k14]; exact j2 e' (by omega) hs') (by
    intro k ρ _
    unfold bX5_worth_58
    rw [if_pos (by rw [e_lt (by omega) (by omega)]; omega)]) (2 ^ cnt) 1000 0 τ (by omega) (by omega) ⟨YSame.rfl' τ, fun e he => by omega⟩
  exact ⟨τ', g1, g2⟩
theorem y_worth2 {ρ : eSt} {cnt : Nat} (hc : cnt ≤ 6) {U : Nat → Nat} {L p s : Nat} (hL : L < 64) (hs : s < cnt) (hb : L.testBit s = true) (hp : pcN (L &&& (63 ^^^ 2 ^ s)) = p) (h14 : ∀ e, e < 2 ^ cnt → subB e L = true → ρ 14 e = nI (U e)) (a3 : Int32) : lo_2 (bX5_worth_127 ρ (nI s) a3 (nI (2 ^ cnt - 1)) (nI L) (nI (p + 1))) 1000 0 0 = fX5_worth_216 ρ a3 (nI (p + 1)) (Int32.ofInt (itN (gT U (L &&& (63 ^^^ 2 ^ s)) p s) (2 ^ cnt) 0 0)) := by
  have p1 : 1 ≤ 2 ^ cnt := Nat.one_le_two_pow
  have p6 : 2 ^ cnt ≤ 2 ^ 6 := Nat.pow_le_pow_right (by decide) hc
  have hO : L &&& (63 ^^^ 2 ^ s) < 64 := Nat.lt_of_le_of_lt Nat.and_le_left hL
  have hn := cnt_split L hL s (by omega) hb
  have s2 : 2 ^ s < 2 ^ cnt := Nat.pow_lt_pow_right (m := s) (n := cnt) (by decide) hs
  refine (lo_2_ac (b := bX5_worth_127 ρ (nI s) a3 (nI (2 ^ cnt - 1)) (nI L) (nI (p + 1))) (N := 2 ^ cnt) (fun x : Int => Int32.ofInt x) (fun _ _ => True) (gT U (L &&& (63 ^^^ 2 ^ s)) p s) (fun x => fX5_worth_216 ρ a3 (nI (p + 1)) (Int32.ofInt x)) (fun k e x he _ => ⟨?_, trivial⟩) (fun k x _ => ?_) (2 ^ cnt) 1000 0 0 (by omega) (by omega) trivial).1
  · have e64 : e < 64 := by omega
    have w210 : ∀ v : Int32, fX5_worth_210 k ρ (nI s) a3 (nI (2 ^ cnt - 1)) (nI L) (nI (p + 1)) v (nI e) = k v (nI (e + 1)) := fun v => by
      unfold fX5_worth_210
      rw [e_bnd_def, nI_1]
    have sp := sub_split L hL s (by omega) hb e e64
    have es : e ||| 2 ^ s < 2 ^ cnt := Nat.or_lt_two_pow he s2
    unfold bX5_worth_127 gT trm
    rw [if_neg (by rw [e_lt (by omega) (by omega)]; omega), has_bit L hL s (by omega), hb, Option.bind_some, if_neg (show ¬ eB true = 0 by decide), has_bit e e64 s (by omega), Option.bind_some, sp]
    by_cases c : subB e L = true
    · rw [if_pos (by rw [sub_x e64 hL]; exact c), c]
      cases hes : e.testBit s with
      | false =>
        have k1 := sub_cnt _ hO e e64 (by rw [sp, c, hes]; rfl)
        rw [if_pos (show eB false = 0 from rfl), if_pos (show (true && !false) = true from rfl), bits_y (by omega), Option.bind_some, fac_y _ (by omega), Option.bind_some, show nI (p + 1) - 1 = nI p from nI_pred p, pk_sub (by omega), fac_y _ (by omega), Option.bind_some, e_sh1 s (by omega), nx_or, if_pos (by rw [e_inN (by omega)]; omega), if_pos (by rw [e_inN (by omega)]; omega), nI_clamp (by omega), nI_clamp (by omega), h14 _ es (sub_or L hL s (by omega) hb e e64 c), h14 e he c, e_bnd_def, w210, ofI_term]
      | true =>
        rw [if_neg (show ¬ eB true = 0 by decide), if_neg (show ¬ (true && !true) = true by decide), w210, Int.add_zero]
    · rw [if_neg (by rw [sub_x e64 hL]; exact c), b_nt c, if_neg (show ¬ (false && !e.testBit s) = true by simp), w210, Int.add_zero]
  · unfold bX5_worth_127
    rw [if_pos (by rw [e_lt (by omega) (by omega)]; omega)]

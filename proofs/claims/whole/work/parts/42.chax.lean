/-! math 23: chance: sums, and the class's side -/
theorem perm64 : ∀ L, L < 64 → ((List.range 64).map (fun f => L ^^^ f)).Perm (List.range 64) := by decide +kernel
def sumG (G : Nat → Nat) (m : Nat) : Nat := itN (fun e x => x + G e) m 0 0
theorem sumG_list (G : Nat → Nat) : ∀ m, sumG G m = ((List.range m).map G).sum := by
  intro m
  induction m with
  | zero => rfl
  | succ m ih =>
    have : sumG G (m + 1) = sumG G m + G m := by
      unfold sumG
      rw [itN_last, Nat.zero_add]
    rw [this, ih, List.range_succ, List.map_append, List.sum_append]
    simp
theorem sum_xor {L : Nat} (hL : L < 64) (G : Nat → Nat) : sumG (fun f => G (L ^^^ f)) 64 = sumG G 64 := by
  rw [sumG_list, sumG_list]
  have h := (List.Perm.map G (perm64 L hL)).sum_nat
  rw [List.map_map] at h
  exact h
theorem pow_x : ∀ a, a < 11 → ∀ k, k < 7 → fX4_power (nI a) (nI k) = some (nI (a ^ k)) := by decide +kernel
def Wt (x n k : Nat) : Nat := (10 - x) ^ k * x ^ (n - k)
def gX (A : Nat → Bool) (L n x e : Nat) : Nat := if (subB e L && A e) = true then Wt x n (pcN e) else 0
theorem x_chL {σ : eSt} {F : Nat → Nat} (hF : ∀ c, c < 10 → σ 18 c = nI (F c)) (hl : ∀ c, c < 10 → F c < 256) {L n x c : Nat} (hL : L < 64) (hn : pcN L = n) (hx : x ≤ 10) (hc : c < 10) (a4 : Int32) : lo_2 (bX4_chance_51 σ (nI c) (nI x) a4 (nI L) (nI n)) 1000 0 0 = (fX4_toldPart (nI (sumG (gX (fun e => (sureS (fun c => F c &&& (e ||| 192))).testBit c) L n x) 64)) (nI (10 ^ n)) a4).bind fun v2 => some (v2, σ) := by
  have n6 : n ≤ 6 := by rw [← hn]; exact pc6 L hL
  refine (lo_2_ac (b := bX4_chance_51 σ (nI c) (nI x) a4 (nI L) (nI n)) (N := 64) (fun y : Nat => nI y) (fun _ _ => True) (fun e y => y + gX (fun e => (sureS (fun c => F c &&& (e ||| 192))).testBit c) L n x e) (fun y => (fX4_toldPart (nI y) (nI (10 ^ n)) a4).bind fun v2 => some (v2, σ)) (fun k e y he _ => ⟨?_, trivial⟩) (fun k y _ => ?_) 64 1000 0 0 (by omega) (by omega) trivial).1
  · have w109 : ∀ v : Int32, fX4_chance_109 k σ (nI c) (nI x) a4 (nI L) (nI n) v (nI e) = k v (nI (e + 1)) := fun v => by
      unfold fX4_chance_109
      rw [e_bnd_def, nI_1]
    unfold bX4_chance_51 gX
    show _ = k (nI (y + if (subB e L && (sureS (fun c => F c &&& (e ||| 192))).testBit c) = true then Wt x n (pcN e) else 0)) (nI (e + 1))
    rw [if_neg (show ¬ (64 : Int32) ≤ nI e by rw [show (64 : Int32) = nI 64 from rfl, e_le (by omega) (by omega)]; omega)]
    by_cases q : subB e L = true
    · have k1 := sub_cnt L hL e he q
      rw [if_pos (by rw [sub_x he hL]; exact q), x_isSure hF hl (show e < 256 by omega) hc, Option.bind_some, q]
      cases (sureS (fun c => F c &&& (e ||| 192))).testBit c with
      | false => rw [if_pos (show eB false = 0 from rfl), if_neg (show ¬ (true && false) = true by decide), w109]; rfl
      | true => rw [if_neg (show ¬ eB true = 0 by decide), if_pos (show (true && true) = true from rfl), bc_x e (by omega), Option.bind_some, show (10 : Int32) - nI x = nI (10 - x) from pk_sub hx, pow_x _ (by omega) _ (by omega), Option.bind_some, pk_sub (by omega), pow_x _ (by omega) _ (by omega), Option.bind_some, e_bnd_def, w109, pk_mul, nI_add]; rfl
    · rw [if_neg (by rw [sub_x he hL]; exact q), b_nt q, if_neg (show ¬ (false && (sureS (fun c => F c &&& (e ||| 192))).testBit c) = true by simp), w109]; rfl
  · unfold bX4_chance_51
    rw [if_pos (by decide), show fX4_power 10 (nI n) = some (nI (10 ^ n)) from pow_x 10 (by omega) n (by omega), Option.bind_some]

theorem re_ac {A1 R : Type} {b : (A1 → Int32 → Option R) → A1 → Int32 → Option R} {N : Nat} (J : Nat → A1 → Prop) (ex : A1 → Option R) (hs : ∀ (i : Nat) (a1 : A1), i < N → J i a1 → ∃ (a1' : A1), (∀ k : A1 → Int32 → Option R, b k a1 (nI i) = k a1' (nI (i + 1))) ∧ J (i + 1) a1') (hx : ∀ (k : A1 → Int32 → Option R) (a1 : A1), J N a1 → b k a1 (nI N) = ex a1) : ∀ (m n i : Nat) (a1 : A1), i + m = N → m < n → J i a1 → ∃ (a1' : A1), J N a1' ∧ lo_2 b n a1 (nI i) = ex a1' := by
  intro m
  induction m with
  | zero =>
    intro n i a1 h1 h2 hJ
    obtain ⟨n, rfl⟩ : ∃ q, n = q + 1 := ⟨n - 1, by omega⟩
    have : i = N := by omega
    subst this
    exact ⟨a1, hJ, hx _ a1 hJ⟩
  | succ m ih =>
    intro n i a1 h1 h2 hJ
    obtain ⟨n, rfl⟩ : ∃ q, n = q + 1 := ⟨n - 1, by omega⟩
    obtain ⟨a1', e1, e2⟩ := hs i a1 (by omega) hJ
    obtain ⟨b1, e3, e4⟩ := ih n (i + 1) a1' (by omega) (by omega) e2
    exact ⟨b1, e3, (e1 _).trans e4⟩
theorem re_cs {A1 R : Type} {b : (Int32 → A1 → Option R) → Int32 → A1 → Option R} {N : Nat} (J : Nat → A1 → Prop) (ex : A1 → Option R) (hs : ∀ (i : Nat) (a1 : A1), i < N → J i a1 → ∃ (a1' : A1), (∀ k : Int32 → A1 → Option R, b k (nI i) a1 = k (nI (i + 1)) a1') ∧ J (i + 1) a1') (hx : ∀ (k : Int32 → A1 → Option R) (a1 : A1), J N a1 → b k (nI N) a1 = ex a1) : ∀ (m n i : Nat) (a1 : A1), i + m = N → m < n → J i a1 → ∃ (a1' : A1), J N a1' ∧ lo_2 b n (nI i) a1 = ex a1' := by
  intro m
  induction m with
  | zero =>
    intro n i a1 h1 h2 hJ
    obtain ⟨n, rfl⟩ : ∃ q, n = q + 1 := ⟨n - 1, by omega⟩
    have : i = N := by omega
    subst this
    exact ⟨a1, hJ, hx _ a1 hJ⟩
  | succ m ih =>
    intro n i a1 h1 h2 hJ
    obtain ⟨n, rfl⟩ : ∃ q, n = q + 1 := ⟨n - 1, by omega⟩
    obtain ⟨a1', e1, e2⟩ := hs i a1 (by omega) hJ
    obtain ⟨b1, e3, e4⟩ := ih n (i + 1) a1' (by omega) (by omega) e2
    exact ⟨b1, e3, (e1 _).trans e4⟩
theorem re_aac {A1 A2 R : Type} {b : (A1 → A2 → Int32 → Option R) → A1 → A2 → Int32 → Option R} {N : Nat} (J : Nat → A1 → A2 → Prop) (ex : A1 → A2 → Option R) (hs : ∀ (i : Nat) (a1 : A1) (a2 : A2), i < N → J i a1 a2 → ∃ (a1' : A1) (a2' : A2), (∀ k : A1 → A2 → Int32 → Option R, b k a1 a2 (nI i) = k a1' a2' (nI (i + 1))) ∧ J (i + 1) a1' a2') (hx : ∀ (k : A1 → A2 → Int32 → Option R) (a1 : A1) (a2 : A2), J N a1 a2 → b k a1 a2 (nI N) = ex a1 a2) : ∀ (m n i : Nat) (a1 : A1) (a2 : A2), i + m = N → m < n → J i a1 a2 → ∃ (a1' : A1) (a2' : A2), J N a1' a2' ∧ lo_3 b n a1 a2 (nI i) = ex a1' a2' := by
  intro m
  induction m with
  | zero =>
    intro n i a1 a2 h1 h2 hJ
    obtain ⟨n, rfl⟩ : ∃ q, n = q + 1 := ⟨n - 1, by omega⟩
    have : i = N := by omega
    subst this
    exact ⟨a1, a2, hJ, hx _ a1 a2 hJ⟩
  | succ m ih =>
    intro n i a1 a2 h1 h2 hJ
    obtain ⟨n, rfl⟩ : ∃ q, n = q + 1 := ⟨n - 1, by omega⟩
    obtain ⟨a1', a2', e1, e2⟩ := hs i a1 a2 (by omega) hJ
    obtain ⟨b1, b2, e3, e4⟩ := ih n (i + 1) a1' a2' (by omega) (by omega) e2
    exact ⟨b1, b2, e3, (e1 _).trans e4⟩
theorem re_acs {A1 A2 R : Type} {b : (A1 → Int32 → A2 → Option R) → A1 → Int32 → A2 → Option R} {N : Nat} (J : Nat → A1 → A2 → Prop) (ex : A1 → A2 → Option R) (hs : ∀ (i : Nat) (a1 : A1) (a2 : A2), i < N → J i a1 a2 → ∃ (a1' : A1) (a2' : A2), (∀ k : A1 → Int32 → A2 → Option R, b k a1 (nI i) a2 = k a1' (nI (i + 1)) a2') ∧ J (i + 1) a1' a2') (hx : ∀ (k : A1 → Int32 → A2 → Option R) (a1 : A1) (a2 : A2), J N a1 a2 → b k a1 (nI N) a2 = ex a1 a2) : ∀ (m n i : Nat) (a1 : A1) (a2 : A2), i + m = N → m < n → J i a1 a2 → ∃ (a1' : A1) (a2' : A2), J N a1' a2' ∧ lo_3 b n a1 (nI i) a2 = ex a1' a2' := by
  intro m
  induction m with
  | zero =>
    intro n i a1 a2 h1 h2 hJ
    obtain ⟨n, rfl⟩ : ∃ q, n = q + 1 := ⟨n - 1, by omega⟩
    have : i = N := by omega
    subst this
    exact ⟨a1, a2, hJ, hx _ a1 a2 hJ⟩
  | succ m ih =>
    intro n i a1 a2 h1 h2 hJ
    obtain ⟨n, rfl⟩ : ∃ q, n = q + 1 := ⟨n - 1, by omega⟩
    obtain ⟨a1', a2', e1, e2⟩ := hs i a1 a2 (by omega) hJ
    obtain ⟨b1, b2, e3, e4⟩ := ih n (i + 1) a1' a2' (by omega) (by omega) e2
    exact ⟨b1, b2, e3, (e1 _).trans e4⟩
theorem re_aacs {A1 A2 A3 R : Type} {b : (A1 → A2 → Int32 → A3 → Option R) → A1 → A2 → Int32 → A3 → Option R} {N : Nat} (J : Nat → A1 → A2 → A3 → Prop) (ex : A1 → A2 → A3 → Option R) (hs : ∀ (i : Nat) (a1 : A1) (a2 : A2) (a3 : A3), i < N → J i a1 a2 a3 → ∃ (a1' : A1) (a2' : A2) (a3' : A3), (∀ k : A1 → A2 → Int32 → A3 → Option R, b k a1 a2 (nI i) a3 = k a1' a2' (nI (i + 1)) a3') ∧ J (i + 1) a1' a2' a3') (hx : ∀ (k : A1 → A2 → Int32 → A3 → Option R) (a1 : A1) (a2 : A2) (a3 : A3), J N a1 a2 a3 → b k a1 a2 (nI N) a3 = ex a1 a2 a3) : ∀ (m n i : Nat) (a1 : A1) (a2 : A2) (a3 : A3), i + m = N → m < n → J i a1 a2 a3 → ∃ (a1' : A1) (a2' : A2) (a3' : A3), J N a1' a2' a3' ∧ lo_4 b n a1 a2 (nI i) a3 = ex a1' a2' a3' := by
  intro m
  induction m with
  | zero =>
    intro n i a1 a2 a3 h1 h2 hJ
    obtain ⟨n, rfl⟩ : ∃ q, n = q + 1 := ⟨n - 1, by omega⟩
    have : i = N := by omega
    subst this
    exact ⟨a1, a2, a3, hJ, hx _ a1 a2 a3 hJ⟩
  | succ m ih =>
    intro n i a1 a2 a3 h1 h2 hJ
    obtain ⟨n, rfl⟩ : ∃ q, n = q + 1 := ⟨n - 1, by omega⟩
    obtain ⟨a1', a2', a3', e1, e2⟩ := hs i a1 a2 a3 (by omega) hJ
    obtain ⟨b1, b2, b3, e3, e4⟩ := ih n (i + 1) a1' a2' a3' (by omega) (by omega) e2
    exact ⟨b1, b2, b3, e3, (e1 _).trans e4⟩
theorem re_acss {A1 A2 A3 R : Type} {b : (A1 → Int32 → A2 → A3 → Option R) → A1 → Int32 → A2 → A3 → Option R} {N : Nat} (J : Nat → A1 → A2 → A3 → Prop) (ex : A1 → A2 → A3 → Option R) (hs : ∀ (i : Nat) (a1 : A1) (a2 : A2) (a3 : A3), i < N → J i a1 a2 a3 → ∃ (a1' : A1) (a2' : A2) (a3' : A3), (∀ k : A1 → Int32 → A2 → A3 → Option R, b k a1 (nI i) a2 a3 = k a1' (nI (i + 1)) a2' a3') ∧ J (i + 1) a1' a2' a3') (hx : ∀ (k : A1 → Int32 → A2 → A3 → Option R) (a1 : A1) (a2 : A2) (a3 : A3), J N a1 a2 a3 → b k a1 (nI N) a2 a3 = ex a1 a2 a3) : ∀ (m n i : Nat) (a1 : A1) (a2 : A2) (a3 : A3), i + m = N → m < n → J i a1 a2 a3 → ∃ (a1' : A1) (a2' : A2) (a3' : A3), J N a1' a2' a3' ∧ lo_4 b n a1 (nI i) a2 a3 = ex a1' a2' a3' := by
  intro m
  induction m with
  | zero =>
    intro n i a1 a2 a3 h1 h2 hJ
    obtain ⟨n, rfl⟩ : ∃ q, n = q + 1 := ⟨n - 1, by omega⟩
    have : i = N := by omega
    subst this
    exact ⟨a1, a2, a3, hJ, hx _ a1 a2 a3 hJ⟩
  | succ m ih =>
    intro n i a1 a2 a3 h1 h2 hJ
    obtain ⟨n, rfl⟩ : ∃ q, n = q + 1 := ⟨n - 1, by omega⟩
    obtain ⟨a1', a2', a3', e1, e2⟩ := hs i a1 a2 a3 (by omega) hJ
    obtain ⟨b1, b2, b3, e3, e4⟩ := ih n (i + 1) a1' a2' a3' (by omega) (by omega) e2
    exact ⟨b1, b2, b3, e3, (e1 _).trans e4⟩
theorem re_aacss {A1 A2 A3 A4 R : Type} {b : (A1 → A2 → Int32 → A3 → A4 → Option R) → A1 → A2 → Int32 → A3 → A4 → Option R} {N : Nat} (J : Nat → A1 → A2 → A3 → A4 → Prop) (ex : A1 → A2 → A3 → A4 → Option R) (hs : ∀ (i : Nat) (a1 : A1) (a2 : A2) (a3 : A3) (a4 : A4), i < N → J i a1 a2 a3 a4 → ∃ (a1' : A1) (a2' : A2) (a3' : A3) (a4' : A4), (∀ k : A1 → A2 → Int32 → A3 → A4 → Option R, b k a1 a2 (nI i) a3 a4 = k a1' a2' (nI (i + 1)) a3' a4') ∧ J (i + 1) a1' a2' a3' a4') (hx : ∀ (k : A1 → A2 → Int32 → A3 → A4 → Option R) (a1 : A1) (a2 : A2) (a3 : A3) (a4 : A4), J N a1 a2 a3 a4 → b k a1 a2 (nI N) a3 a4 = ex a1 a2 a3 a4) : ∀ (m n i : Nat) (a1 : A1) (a2 : A2) (a3 : A3) (a4 : A4), i + m = N → m < n → J i a1 a2 a3 a4 → ∃ (a1' : A1) (a2' : A2) (a3' : A3) (a4' : A4), J N a1' a2' a3' a4' ∧ lo_5 b n a1 a2 (nI i) a3 a4 = ex a1' a2' a3' a4' := by
  intro m
  induction m with
  | zero =>
    intro n i a1 a2 a3 a4 h1 h2 hJ
    obtain ⟨n, rfl⟩ : ∃ q, n = q + 1 := ⟨n - 1, by omega⟩
    have : i = N := by omega
    subst this
    exact ⟨a1, a2, a3, a4, hJ, hx _ a1 a2 a3 a4 hJ⟩
  | succ m ih =>
    intro n i a1 a2 a3 a4 h1 h2 hJ
    obtain ⟨n, rfl⟩ : ∃ q, n = q + 1 := ⟨n - 1, by omega⟩
    obtain ⟨a1', a2', a3', a4', e1, e2⟩ := hs i a1 a2 a3 a4 (by omega) hJ
    obtain ⟨b1, b2, b3, b4, e3, e4⟩ := ih n (i + 1) a1' a2' a3' a4' (by omega) (by omega) e2
    exact ⟨b1, b2, b3, b4, e3, (e1 _).trans e4⟩
/-! math 4: the invariant -/
def hcN (sc : Nat → Nat) : Nat := (if sc 3 = 10 then 0 else 1) + (if sc 4 = 10 then 0 else 1)
def PgY (f : Nat → Int32) (sc : Nat → Nat) : Prop := f 0 = nI (sc 0) ∧ f 1 = nI (sc 1) ∧ f 2 = nI (sc 2) ∧ f 3 = nI (hcN sc) ∧ f 4 = hv (sc 3) ∧ f 5 = hv (sc 4) ∧ f 6 = nI (sc 5) ∧ f 7 = nI (sc 6)
def packN (sc : Nat → Nat) : Nat := sc 0 + 16 * sc 1 + 256 * sc 2 + 16384 * sc 3 + 262144 * sc 4 + 4194304 * sc 5 + 33554432 * sc 6
def RT (σ τ : eSt) : Prop := ∃ n, n ≤ 40 ∧ σ 1 1 = nI n ∧ τ 0 2 = nI n ∧ ∀ i, i < n → σ 2 i = τ 1 i
def RA (σ τ : eSt) : Prop := ∃ k, k ≤ 14 ∧ σ 0 5 = nI k ∧ τ 0 14 = nI k ∧ ∀ i, i < k → ∃ sc, ScOk sc ∧ PgY (fun j => τ 6 (8 * i + j)) sc ∧ σ 15 i = nI (packN sc)
def RK (σ τ : eSt) : Prop := ∀ s, s < 2 → (σ 16 s = -1 ∧ τ 8 s = 0) ∨ (τ 8 s = 1 ∧ ∃ sc, ScOk sc ∧ PgY (fun j => τ 7 (8 * s + j)) sc ∧ σ 16 s = nI (packN sc))
def RN (σ τ : eSt) : Prop := ∃ n, n ≤ 6 ∧ σ 10 4 = nI n ∧ τ 0 17 = nI n ∧ ∀ i, i < n → ∃ (s c h : Nat) (b : Bool), s < 6 ∧ c < 10 ∧ h < 10 ∧ (σ 11 i = nI s ∧ σ 12 i = nI c ∧ σ 13 i = nI h ∧ σ 14 i = eB b) ∧ (τ 9 i = nI s ∧ τ 10 i = nI c ∧ τ 11 i = nI h ∧ τ 12 i = eB b)
def RS (σ τ : eSt) : Prop := ∃ (cnt : Nat) (sn : Nat → Nat → Nat), RSX σ cnt sn ∧ RSY τ cnt sn
def RP (σ τ : eSt) : Prop := ∃ sc, ScOk sc ∧ RPX σ sc ∧ PgY (τ 4) sc
def eI (σ : eSt) (z : Int64) (τ : eSt) (y : Int64) : Prop := y = z ∧ RT σ τ ∧ RS σ τ ∧ RP σ τ ∧ RA σ τ ∧ RK σ τ ∧ RN σ τ
theorem RT.same {σ τ σ' τ' : eSt} (H : RT σ τ) (e1 : σ' 1 = σ 1) (e2 : σ' 2 = σ 2) (f1 : τ' 0 2 = τ 0 2) (f2 : τ' 1 = τ 1) : RT σ' τ' := by
  obtain ⟨n, h1, h2, h3, h4⟩ := H
  exact ⟨n, h1, by rw [e1]; exact h2, by rw [f1]; exact h3, fun i hi => by rw [e2, f2]; exact h4 i hi⟩
theorem RA.same {σ τ σ' τ' : eSt} (H : RA σ τ) (e1 : σ' 0 5 = σ 0 5) (e2 : σ' 15 = σ 15) (f1 : τ' 0 14 = τ 0 14) (f2 : τ' 6 = τ 6) : RA σ' τ' := by
  obtain ⟨n, h1, h2, h3, h4⟩ := H
  exact ⟨n, h1, by rw [e1]; exact h2, by rw [f1]; exact h3, fun i hi => by rw [e2, f2]; exact h4 i hi⟩
theorem RK.same {σ τ σ' τ' : eSt} (H : RK σ τ) (e1 : σ' 16 = σ 16) (f1 : τ' 8 = τ 8) (f2 : τ' 7 = τ 7) : RK σ' τ' := by
  intro s hs
  rw [e1, f1, f2]
  exact H s hs
theorem RN.same {σ τ σ' τ' : eSt} (H : RN σ τ) (e1 : σ' 10 4 = σ 10 4) (e2 : ∀ k, 11 ≤ k → k ≤ 14 → σ' k = σ k) (f1 : τ' 0 17 = τ 0 17) (f2 : ∀ k, 9 ≤ k → k ≤ 12 → τ' k = τ k) : RN σ' τ' := by
  obtain ⟨n, h1, h2, h3, h4⟩ := H
  refine ⟨n, h1, by rw [e1]; exact h2, by rw [f1]; exact h3, fun i hi => ?_⟩
  rw [e2 11 (by omega) (by omega), e2 12 (by omega) (by omega), e2 13 (by omega) (by omega), e2 14 (by omega) (by omega), f2 9 (by omega) (by omega), f2 10 (by omega) (by omega), f2 11 (by omega) (by omega), f2 12 (by omega) (by omega)]
  exact h4 i hi
theorem RS.same {σ τ σ' τ' : eSt} (H : RS σ τ) (e : ∀ k, 3 ≤ k → k ≤ 8 → σ' k = σ k) (f1 : τ' 0 4 = τ 0 4) (f2 : τ' 2 = τ 2) : RS σ' τ' := by
  obtain ⟨cnt, sn, h1, h2⟩ := H
  refine ⟨cnt, sn, ⟨by rw [e 3 (by omega) (by omega)]; exact h1.1, h1.2.1, fun s hs => ?_⟩, ⟨by rw [f1]; exact h2.1, h2.2.1, fun s hs => by rw [f2]; exact h2.2.2 s hs⟩⟩
  rw [e 4 (by omega) (by omega), e 5 (by omega) (by omega), e 6 (by omega) (by omega), e 7 (by omega) (by omega), e 8 (by omega) (by omega)]
  exact h1.2.2 s hs
theorem RP.same {σ τ σ' τ' : eSt} (H : RP σ τ) (e : σ' 9 = σ 9) (f : τ' 4 = τ 4) : RP σ' τ' := by
  obtain ⟨sc, h1, h2, h3⟩ := H
  exact ⟨sc, h1, by unfold RPX; rw [e]; exact h2, by rw [f]; exact h3⟩
theorem eI.same {σ σ' τ τ' : eSt} {z y : Int64} (H : eI σ z τ y) (hx : XSame σ σ') (hy : YSame τ τ') : eI σ' z τ' y := by
  obtain ⟨h0, h1, h2, h3, h4, h5, h6⟩ := H
  refine ⟨h0, h1.same (hx 1 (by omega)) (hx 2 (by omega)) hy.1.1 (hy.2 1 (by omega) (by omega) (by omega) (by omega)), h2.same (fun k _ _ => hx k (by omega)) hy.1.2.1 (hy.2 2 (by omega) (by omega) (by omega) (by omega)), h3.same (hx 9 (by omega)) (hy.2 4 (by omega) (by omega) (by omega) (by omega)), h4.same (by rw [hx 0 (by omega)]) (hx 15 (by omega)) hy.1.2.2.1 (hy.2 6 (by omega) (by omega) (by omega) (by omega)), h5.same (hx 16 (by omega)) (hy.2 8 (by omega) (by omega) (by omega) (by omega)) (hy.2 7 (by omega) (by omega) (by omega) (by omega)), h6.same (by rw [hx 10 (by omega)]) (fun k _ _ => hx k (by omega)) hy.1.2.2.2 (fun k _ _ => hy.2 k (by omega) (by omega) (by omega) (by omega))⟩
theorem XSame.rfl' (σ : eSt) : XSame σ σ := fun _ _ => rfl
/-- the reference's first act in every call: thrown = 0 -/
theorem y00 (τ : eSt) : YSame τ (e_up τ 0 0 0) := YSame.up0 τ 0 (by omega) (by omega) (by omega) (by omega)
theorem PgY.hq {τ : eSt} {q : Nat} {sc : Nat → Nat} (S : ScOk sc) (H : PgY (τ q) sc) : HQ τ q (sc 2) (sc 3) (sc 4) (sc 5) (sc 6) := by
  obtain ⟨p0, p1, p2, p3, p4, p5, p6, p7⟩ := H
  obtain ⟨s0, s1, s2, s3, s4, s5, s6, s7⟩ := S
  exact ⟨p2, p4, p5, p6, p7, s2, s3, s4, s7⟩
theorem PgY.same {τ τ' : eSt} {sc : Nat → Nat} (H : PgY (τ 4) sc) (h : YSame τ τ') : PgY (τ' 4) sc := by rw [h.2 4 (by omega) (by omega) (by omega) (by omega)]; exact H
theorem e_inI9 {a : Int32} (h : inI a 0 9 = true) : ∃ n, n < 10 ∧ a = nI n := by
  obtain ⟨j, h1, h2⟩ := inI_nI (n := 9) (by decide) h
  exact ⟨j, by omega, h2⟩
theorem b_tf : ¬ (true = false) := by simp
theorem b_ntf : (!true) = false := rfl
theorem b_nff : ¬ ((!false) = false) := by simp
theorem b_nf {b : Bool} (h : ¬ b = false) : b = true := by cases b; exact absurd rfl h; rfl
theorem b_nt {b : Bool} (h : ¬ b = true) : b = false := by cases b; rfl; exact absurd rfl h
-- ===== heard =====
theorem st_heard : ES_heard eI := by
  intro σ z τ y a1 a2 hI
  obtain ⟨cnt, sn, HX, HY⟩ := hI.2.2.1
  obtain ⟨sc, S, PX, PY⟩ := hI.2.2.2.1
  have hys := y00 τ
  have hend : eI σ z (e_up τ 0 0 0) y := hI.same (XSame.rfl' σ) hys
  have HY' := HY.same hys
  have PY' := PY.same hys
  unfold fX4_heard fX5_heard
  simp only [x_isCell, x_isHour, y_noCell, y_noHour, e_bnd_def, Option.bind_some, eB_z]
  by_cases h1 : inI a1 0 9 = true
  · obtain ⟨c, hc, rfl⟩ := e_inI9 h1
    by_cases h2 : inI a2 0 9 = true
    · obtain ⟨h, hh, rfl⟩ := e_inI9 h2
      refine ⟨nI (setN cnt sn (sc 2) (sc 3) (sc 4) (sc 5) (sc 6) c h), _, ?_, ?_, hend⟩
      · rw [h1, h2, x_setNow HX S PX hh]; rfl
      · rw [h1, h2, y_heardAt HY' (PY'.hq S) hc hh]; rfl
    · refine ⟨-2, _, ?_, ?_, hend⟩
      · rw [h1, b_nt h2]; rfl
      · rw [h1, b_nt h2]; rfl
  · refine ⟨-2, _, ?_, ?_, hend⟩
    · rw [b_nt h1]; rfl
    · rw [b_nt h1]; rfl
-- ===== where, when =====
theorem st_where : ES_where eI := by
  intro σ z τ y a1 a2 hI
  obtain ⟨cnt, sn, HX, HY⟩ := hI.2.2.1
  obtain ⟨sc, S, PX, PY⟩ := hI.2.2.2.1
  have hys := y00 τ
  have hend : eI σ z (e_up τ 0 0 0) y := hI.same (XSame.rfl' σ) hys
  have HY' := HY.same hys
  have PY' := PY.same hys
  unfold fX4_where fX5_where
  simp only [x_isSet, x_isHour, e_in0_255, y_noHour, e_bnd_def, Option.bind_some, eB_z]
  by_cases h1 : inI a1 0 255 = true
  · by_cases h2 : inI a2 0 9 = true
    · obtain ⟨h, hh, rfl⟩ := e_inI9 h2
      refine ⟨nI (orN (fun c => decide (nI (setN cnt sn (sc 2) (sc 3) (sc 4) (sc 5) (sc 6) c h) = a1)) 10), _, ?_, ?_, hend⟩
      · rw [h1, h2, if_neg b_tf, if_neg b_tf]
        refine lo_2_or (ex := fun a => some a) (by omega) (fun k a c hc => ?_) (fun k a => ?_)
        · unfold bX4_where_22 fX4_where_47
          rw [show (10 : Int32) = nI 10 from rfl, if_neg (by rw [e_le (by omega) (by omega)]; omega), x_setNow HX S PX hh]
          simp only [Option.bind_some, e_bnd_def, nI_1, decide_eq_true_eq]
          by_cases e : nI (setN cnt sn (sc 2) (sc 3) (sc 4) (sc 5) (sc 6) c h) = a1
          · rw [if_pos e, if_pos e]
          · rw [if_neg e, if_neg e]
        · unfold bX4_where_22
          rw [if_pos (by decide)]
      · rw [h1, h2, if_neg b_tf, if_pos b_ntf]
        refine lo_2_or (ex := fun a => some (a, e_up τ 0 0 0)) (by omega) (fun k a c hc => ?_) (fun k a => ?_)
        · unfold bX5_where_32 fX5_where_63
          rw [show (10 : Int32) = nI 10 from rfl, if_neg (by rw [e_le (by omega) (by omega)]; omega), y_heardAt HY' (PY'.hq S) hc hh]
          simp only [Option.bind_some, e_bnd_def, nI_1, decide_eq_true_eq]
          by_cases e : nI (setN cnt sn (sc 2) (sc 3) (sc 4) (sc 5) (sc 6) c h) = a1
          · rw [if_pos e, if_pos e]
          · rw [if_neg e, if_neg e]; simp
        · unfold bX5_where_32
          rw [if_pos (by decide)]
    · refine ⟨-2, _, ?_, ?_, hend⟩
      · rw [h1, b_nt h2]; rfl
      · rw [h1, b_nt h2]; rfl
  · refine ⟨-2, _, ?_, ?_, hend⟩
    · rw [b_nt h1]; rfl
    · rw [b_nt h1]; rfl
theorem st_when : ES_when eI := by
  intro σ z τ y a1 a2 hI
  obtain ⟨cnt, sn, HX, HY⟩ := hI.2.2.1
  obtain ⟨sc, S, PX, PY⟩ := hI.2.2.2.1
  have hys := y00 τ
  have hend : eI σ z (e_up τ 0 0 0) y := hI.same (XSame.rfl' σ) hys
  have HY' := HY.same hys
  have PY' := PY.same hys
  unfold fX4_when fX5_when
  simp only [x_isSet, x_isCell, e_in0_255, y_noCell, e_bnd_def, Option.bind_some, eB_z]
  by_cases h1 : inI a1 0 255 = true
  · by_cases h2 : inI a2 0 9 = true
    · obtain ⟨c, hc, rfl⟩ := e_inI9 h2
      refine ⟨nI (orN (fun h => decide (nI (setN cnt sn (sc 2) (sc 3) (sc 4) (sc 5) (sc 6) c h) = a1)) 10), _, ?_, ?_, hend⟩
      · rw [h1, h2, if_neg b_tf, if_neg b_tf]
        refine lo_2_or (ex := fun a => some a) (by omega) (fun k a h hh => ?_) (fun k a => ?_)
        · unfold bX4_when_22 fX4_when_47
          rw [show (10 : Int32) = nI 10 from rfl, if_neg (by rw [e_le (by omega) (by omega)]; omega), x_setNow HX S PX hh]
          simp only [Option.bind_some, e_bnd_def, nI_1, decide_eq_true_eq]
          by_cases e : nI (setN cnt sn (sc 2) (sc 3) (sc 4) (sc 5) (sc 6) c h) = a1
          · rw [if_pos e, if_pos e]
          · rw [if_neg e, if_neg e]
        · unfold bX4_when_22
          rw [if_pos (by decide)]
      · rw [h1, h2, if_neg b_tf, if_pos b_ntf]
        refine lo_2_or (ex := fun a => some (a, e_up τ 0 0 0)) (by omega) (fun k a h hh => ?_) (fun k a => ?_)
        · unfold bX5_when_32 fX5_when_63
          rw [show (10 : Int32) = nI 10 from rfl, if_neg (by rw [e_le (by omega) (by omega)]; omega), y_heardAt HY' (PY'.hq S) hc hh]
          simp only [Option.bind_some, e_bnd_def, nI_1, decide_eq_true_eq]
          by_cases e : nI (setN cnt sn (sc 2) (sc 3) (sc 4) (sc 5) (sc 6) c h) = a1
          · rw [if_pos e, if_pos e]
          · rw [if_neg e, if_neg e]; simp
        · unfold bX5_when_32
          rw [if_pos (by decide)]
    · refine ⟨-2, _, ?_, ?_, hend⟩
      · rw [h1, b_nt h2]; rfl
      · rw [h1, b_nt h2]; rfl
  · refine ⟨-2, _, ?_, ?_, hend⟩
    · rw [b_nt h1]; rfl
    · rw [b_nt h1]; rfl
-- ===== sound =====
theorem x_isHeard {σ : eSt} {cnt : Nat} {sn : Nat → Nat → Nat} (H : RSX σ cnt sn) {hu s c h ra wi : Nat} (hh : hu < 64) (h2 : σ 9 2 = nI hu) (hs : s < cnt) (hh2 : h < 10) : fX4_isHeard σ (nI s) (nI c) (nI h) (nI ra) (nI wi) = some (eB (!hu.testBit s && hB sn ra wi s c h)) := by
  have hc := H.2.1
  unfold fX4_isHeard
  rw [h2, e_sh1 s (by omega), x_carries H hs hh2]
  simp only [Option.bind_some, e_r0, e_r1, eB_z]
  by_cases hb : hu.testBit s = false
  · rw [if_pos ((hush_bit hu hh s (by omega)).mpr hb)]
    cases hB sn ra wi s c h <;> simp [hb, eB]
  · rw [if_neg (fun q => hb ((hush_bit hu hh s (by omega)).mp q))]
    simp [hb, eB]
theorem st_sound : ES_sound eI := by
  intro σ z τ y a1 a2 hI
  obtain ⟨cnt, sn, HX, HY⟩ := hI.2.2.1
  obtain ⟨sc, S, PX, PY⟩ := hI.2.2.2.1
  have hys := y00 τ
  have hend : eI σ z (e_up τ 0 0 0) y := hI.same (XSame.rfl' σ) hys
  have HY' := HY.same hys
  have PY' := PY.same hys
  have hcn := HX.2.1
  unfold fX4_sound fX5_sound
  simp only [x_has HX, y_noSound HY', e_bnd_def, Option.bind_some, eB_z, e_in0_4]
  by_cases h1 : (decide (0 ≤ a1) && decide (a1 < nI cnt)) = true
  · obtain ⟨s, hs, rfl⟩ := e_has hcn h1
    rw [h1, if_neg b_tf, if_pos b_ntf]
    obtain ⟨⟨q0, q1, q2, q3, q4⟩, -⟩ := HX.2.2 s hs
    have qy := (HY'.2.2 s hs).1
    have e5 : (5 : Int32) * nI s = nI (5 * s) := pk_mul 5 s
    have fin : ∀ j, j < 5 → e_in ((5 : Int32) * nI s + nI j) 30 ∧ ((5 : Int32) * nI s + nI j).toNatClampNeg = 5 * s + j := by
      intro j hj
      rw [e5, nI_add, e_inN (by omega), nI_clamp (by omega)]
      exact ⟨by omega, rfl⟩
    simp only [e_inN (show s < 2 ^ 31 by omega), show s < 6 by omega, if_true, nI_clamp (show s < 2 ^ 31 by omega), q0, q1, q2, q3, q4]
    by_cases h2 : inI a2 0 4 = true
    · obtain ⟨j, hj, rfl⟩ := inI_nI (n := 4) (by decide) h2
      rw [h2]
      have fj := fin j (by omega)
      simp only [fj.2, qy j (by omega)]
      refine ⟨nI (sn s j), _, ?_, by rw [if_neg b_tf, if_pos fj.1], hend⟩
      rcases (show j = 0 ∨ j = 1 ∨ j = 2 ∨ j = 3 ∨ j = 4 by omega) with rfl | rfl | rfl | rfl | rfl
      · rw [if_pos (by decide)]
      · rw [if_neg (by decide), if_pos (by decide)]
      · rw [if_neg (by decide), if_neg (by decide), if_pos (by decide)]
      · rw [if_neg (by decide), if_neg (by decide), if_neg (by decide), if_pos (by decide)]
      · rw [if_neg (by decide), if_neg (by decide), if_neg (by decide), if_neg (by decide), if_pos (by decide)]
    · have hne : ∀ c : Int32, inI c 0 4 = true → ¬ a2 = c := fun c hc e => h2 (by rw [e]; exact hc)
      rw [b_nt h2, if_neg (hne 0 (by decide)), if_neg (hne 1 (by decide)), if_neg (hne 2 (by decide)), if_neg (hne 3 (by decide)), if_neg (hne 4 (by decide)), if_pos (show false = false from rfl)]
      by_cases h5 : a2 = 5
      · rw [if_pos h5, if_pos h5]
        obtain ⟨p0, p1, p2, p3, p4, p5, p6⟩ := PX
        refine ⟨nI (orN (fun c => !(sc 2).testBit s && hB sn (sc 5) (sc 6) s c (sc 1)) 10), _, ?_, ?_, hend⟩
        · unfold fX4_cellsThatHear
          rw [lo_2_or (N := 10) (p := fun c => !(sc 2).testBit s && hB sn (sc 5) (sc 6) s c (sc 1)) (ex := fun a => some a) (by omega)]
          · rfl
          · intro k a c hc
            unfold bX4_cellsThatHear_4 fX4_cellsThatHear_46
            rw [show (10 : Int32) = nI 10 from rfl, if_neg (by rw [e_le (by omega) (by omega)]; omega), p1, p5, p6, x_isHeard HX S.2.2.1 p2 hs S.2.1]
            simp only [Option.bind_some, e_bnd_def, nI_1, eB_z]
            cases (!(sc 2).testBit s && hB sn (sc 5) (sc 6) s c (sc 1)) <;> simp
          · intro k a
            unfold bX4_cellsThatHear_4
            rw [if_pos (by decide)]
        · refine lo_2_or (ex := fun a => some (a, e_up τ 0 0 0)) (by omega) (fun k a c hc => ?_) (fun k a => ?_)
          · unfold bX5_sound_51 fX5_sound_87
            have h41 : (e_up τ 0 0 0) 4 1 = nI (sc 1) := PY'.2.1
            rw [show (10 : Int32) = nI 10 from rfl, if_neg (by rw [e_le (by omega) (by omega)]; omega), h41, y_hears HY' (PY'.hq S) hs hc S.2.1]
            simp only [Option.bind_some, e_bnd_def, nI_1, eB_z]
            cases (!(sc 2).testBit s && hB sn (sc 5) (sc 6) s c (sc 1)) <;> simp
          · unfold bX5_sound_51
            rw [if_pos (by decide)]
      · exact ⟨-2, _, by rw [if_neg h5], by rw [if_neg h5], hend⟩
  · exact ⟨-1, _, by rw [b_nt h1]; rfl, by rw [b_nt h1]; rfl, hend⟩
-- ===== about =====
theorem hv_told {h : Nat} (hh : h ≤ 10) : fX4_toldCell (nI h) = some (hv h) := by
  unfold fX4_toldCell hv
  rw [show (10 : Int32) = nI 10 from rfl]
  by_cases e : h = 10
  · subst e; rfl
  · rw [if_neg (by rw [e_eq (by omega) (by omega)]; exact e), if_neg e]
theorem x_hc {σ : eSt} {sc : Nat → Nat} (S : ScOk sc) (P : RPX σ sc) : fX0_hammerCount σ = some (nI (hcN sc)) := by
  obtain ⟨p0, p1, p2, p3, p4, p5, p6⟩ := P
  obtain ⟨s0, s1, s2, s3, s4, s5, s6, s7⟩ := S
  unfold fX0_hammerCount fX0_hammerCount_14 hcN
  simp only [p3, p4, show (10 : Int32) = nI 10 from rfl, e_eq (show sc 3 < 2 ^ 31 by omega) (show 10 < 2 ^ 31 by omega), e_eq (show sc 4 < 2 ^ 31 by omega) (show 10 < 2 ^ 31 by omega)]
  by_cases e1 : sc 3 = 10
  · by_cases e2 : sc 4 = 10 <;> simp [e1, e2] <;> decide
  · by_cases e2 : sc 4 = 10 <;> simp [e1, e2] <;> decide
theorem st_about : ES_about eI := by
  intro σ z τ y a1 hI
  obtain ⟨cnt, sn, HX, HY⟩ := hI.2.2.1
  obtain ⟨sc, S, PX, PY⟩ := hI.2.2.2.1
  obtain ⟨k, hk1, hk2, hk3, -⟩ := hI.2.2.2.2.1
  obtain ⟨n, hn1, hn2, hn3, -⟩ := hI.2.1
  obtain ⟨q, hq1, hq2, hq3, -⟩ := hI.2.2.2.2.2.2
  have hys := y00 τ
  have hend : eI σ z (e_up τ 0 0 0) y := hI.same (XSame.rfl' σ) hys
  have HY' := HY.same hys
  obtain ⟨y0, y1, y2, y3, y4, y5, y6, y7⟩ := PY.same hys
  obtain ⟨p0, p1, p2, p3, p4, p5, p6⟩ := id PX
  obtain ⟨f2, f4, f14, f17⟩ := hys.1
  unfold fX4_about fX5_about
  simp only [e_bnd_def, HX.1, HY'.1, p0, p1, p2, p5, p6, y0, y1, y2, y3, y4, y5, y6, y7, x_hc S PX, p3, p4, hv_told S.2.2.2.1, hv_told S.2.2.2.2.1, Option.bind_some, hk2, f14, hk3, hq2, f17, hq3, hn2, f2, hn3]
  by_cases e0 : a1 = 0
  · exact ⟨_, _, by rw [if_pos e0], by rw [if_pos e0], hend⟩
  by_cases e1 : a1 = 1
  · exact ⟨_, _, by rw [if_neg e0, if_pos e1], by rw [if_neg e0, if_pos e1], hend⟩
  by_cases e2 : a1 = 2
  · exact ⟨_, _, by rw [if_neg e0, if_neg e1, if_pos e2], by rw [if_neg e0, if_neg e1, if_pos e2], hend⟩
  by_cases e3 : a1 = 3
  · exact ⟨_, _, by rw [if_neg e0, if_neg e1, if_neg e2, if_pos e3], by rw [if_neg e0, if_neg e1, if_neg e2, if_pos e3], hend⟩
  by_cases e4 : a1 = 4
  · exact ⟨_, _, by rw [if_neg e0, if_neg e1, if_neg e2, if_neg e3, if_pos e4], by rw [if_neg e0, if_neg e1, if_neg e2, if_neg e3, if_pos e4], hend⟩
  rw [if_neg e0, if_neg e1, if_neg e2, if_neg e3, if_neg e4]
  rw [if_neg e0, if_neg e1, if_neg e2, if_neg e3, if_neg e4]
  by_cases e5 : a1 = 5
  · exact ⟨_, _, by rw [if_pos e5], by rw [if_pos e5], hend⟩
  by_cases e6 : a1 = 6
  · exact ⟨_, _, by rw [if_neg e5, if_pos e6], by rw [if_neg e5, if_pos e6], hend⟩
  by_cases e7 : a1 = 7
  · exact ⟨_, _, by rw [if_neg e5, if_neg e6, if_pos e7], by rw [if_neg e5, if_neg e6, if_pos e7], hend⟩
  by_cases e8 : a1 = 8
  · exact ⟨_, _, by rw [if_neg e5, if_neg e6, if_neg e7, if_pos e8], by rw [if_neg e5, if_neg e6, if_neg e7, if_pos e8], hend⟩
  rw [if_neg e5, if_neg e6, if_neg e7, if_neg e8]
  rw [if_neg e5, if_neg e6, if_neg e7, if_neg e8]
  by_cases e9 : a1 = 9
  · exact ⟨_, _, by rw [if_pos e9], by rw [if_pos e9], hend⟩
  by_cases e10 : a1 = 10
  · exact ⟨_, _, by rw [if_neg e9, if_pos e10], by rw [if_neg e9, if_pos e10], hend⟩
  by_cases e11 : a1 = 11
  · exact ⟨_, _, by rw [if_neg e9, if_neg e10, if_pos e11], by rw [if_neg e9, if_neg e10, if_pos e11], hend⟩
  · exact ⟨-2, _, by rw [if_neg e9, if_neg e10, if_neg e11], by rw [if_neg e9, if_neg e10, if_neg e11], hend⟩
-- ===== grounded =====
theorem st_grounded : ES_grounded eI := by
  intro σ z τ y a1 a2 a3 a4 a5 hI
  obtain ⟨cnt, sn, HX, HY⟩ := hI.2.2.1
  obtain ⟨sc, S, PX, PY⟩ := hI.2.2.2.1
  have hys := y00 τ
  have hend : eI σ z (e_up τ 0 0 0) y := hI.same (XSame.rfl' σ) hys
  have HY' := HY.same hys
  have PY' := PY.same hys
  have hcn := HX.2.1
  unfold fX4_grounded fX5_grounded
  simp only [x_has HX, y_noSound HY', x_isCell, x_isHour, y_noCell, y_noHour, e_bnd_def, Option.bind_some, eB_z, e_in1_9]
  by_cases h1 : (decide (0 ≤ a1) && decide (a1 < nI cnt)) = false
  · exact ⟨-1, _, by rw [h1]; rfl, by rw [h1]; rfl, hend⟩
  replace h1 := b_nf h1
  rw [h1, if_neg b_tf, if_pos b_ntf]
  by_cases h2 : inI a2 0 9 = false
  · exact ⟨-2, _, by rw [h2]; rfl, by rw [h2]; rfl, hend⟩
  replace h2 := b_nf h2
  rw [h2, if_neg b_tf, if_pos b_ntf]
  by_cases h3 : inI a3 0 9 = false
  · exact ⟨-2, _, by rw [h3]; rfl, by rw [h3]; rfl, hend⟩
  replace h3 := b_nf h3
  rw [h3, if_neg b_tf, if_pos b_ntf]
  by_cases h4 : inI a4 0 9 = false
  · exact ⟨-2, _, by rw [h4]; rfl, by rw [h4]; rfl, hend⟩
  replace h4 := b_nf h4
  rw [h4, if_neg b_tf, if_pos b_ntf]
  by_cases h5 : a5 < 1
  · exact ⟨-2, _, by rw [if_pos h5], by rw [inI_lo h5]; rfl, hend⟩
  rw [if_neg h5]
  by_cases h6 : ¬ a5 ≤ 9
  · exact ⟨-2, _, by rw [if_neg h6], by rw [inI_hi (by rw [e_nle] at h6; exact h6)]; rfl, hend⟩
  replace h6 := Classical.not_not.mp h6
  rw [if_pos h6, inI_t h5 (by rw [e_nlt]; exact h6), if_neg b_tf]
  obtain ⟨s, hs, rfl⟩ := e_has hcn h1
  obtain ⟨g, hg, rfl⟩ := e_inI9 h2
  obtain ⟨t, ht, rfl⟩ := e_inI9 h3
  obtain ⟨h, hh, rfl⟩ := e_inI9 h4
  rw [x_setNow HX S PX hh, x_setNow HX S PX hh, y_heardAt HY' (PY'.hq S) hg hh, y_heardAt HY' (PY'.hq S) ht hh]
  have hlg := setN_lt hcn sn (sc 2) (sc 3) (sc 4) (sc 5) (sc 6) g h
  generalize setN cnt sn (sc 2) (sc 3) (sc 4) (sc 5) (sc 6) g h = G at hlg
  generalize setN cnt sn (sc 2) (sc 3) (sc 4) (sc 5) (sc 6) t h = U
  simp only [Option.bind_some]
  have hb : ∀ hu, hu < 256 → ∀ s, s < 6 → ((nI hu) &&& (nI (2 ^ s)) = 0 ↔ hu.testBit s = false) ∧ fX5_has (nI hu) (nI s) = some (eB (hu.testBit s)) := by decide +kernel
  have hb := hb G hlg s (by omega)
  rw [hb.2, e_sh1 s (by omega)]
  simp only [Option.bind_some, eB_z]
  by_cases e : ¬ G.testBit s = false
  · exact ⟨0, _, by rw [if_neg (fun q => e (hb.1.mp q))], by rw [if_neg e], hend⟩
  replace e := Classical.not_not.mp e
  rw [if_pos (hb.1.mpr e), if_pos e]
  by_cases e2 : ¬ nI G ||| nI (2 ^ s) = nI U
  · exact ⟨0, _, by rw [if_neg e2], by rw [if_neg e2], hend⟩
  replace e2 := Classical.not_not.mp e2
  rw [if_pos e2, if_pos e2]
  obtain ⟨p0, p1, p2, p3, p4, p5, p6⟩ := PX
  obtain ⟨y0, y1, y2, y3, y4, y5, y6, y7⟩ := PY'
  have hw := S.2.2.2.2.2.2.2
  refine ⟨nI (orN (fun c => rch 0 a5 (nI c) (nI g) (nI (sc 5)) (nI (sc 6))) 10), _, ?_, ?_, hend⟩
  · refine lo_2_or (ex := fun a => some a) (by omega) (fun k a c hc => ?_) (fun k a => ?_)
    · unfold bX4_grounded_96 fX4_grounded_138
      rw [show (10 : Int32) = nI 10 from rfl, if_neg (by rw [e_le (by omega) (by omega)]; omega), p5, p6, x_reaches]
      simp only [Option.bind_some, e_bnd_def, nI_1, eB_z]
      cases rch 0 a5 (nI c) (nI g) (nI (sc 5)) (nI (sc 6)) <;> simp
    · unfold bX4_grounded_96
      rw [if_pos (by decide)]
  · refine lo_2_or (ex := fun a => some (a, e_up τ 0 0 0)) (by omega) (fun k a c hc => ?_) (fun k a => ?_)
    · unfold bX5_grounded_103 fX5_grounded_136
      rw [show (10 : Int32) = nI 10 from rfl, if_neg (by rw [e_le (by omega) (by omega)]; omega), y_carries 0 a5 hg hc (show sc 6 < 3 by omega) y7, y6]
      simp only [Option.bind_some, e_bnd_def, nI_1, eB_z]
      cases rch 0 a5 (nI c) (nI g) (nI (sc 5)) (nI (sc 6)) <;> simp
    · unfold bX5_grounded_103
      rw [if_pos (by decide)]

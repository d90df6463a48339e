section WK
variable {p : Program} {l : Launch} {e : Env} {s : State} {m : MethodId} {args : Array Value} {below : List Frame} {meth : Method} {c : Code} {dC : Nat → ClassId} {dI : Nat → Nat → Nat} {cI cZ : ClassId} {ad : Nat → Nat}
set_option maxRecDepth 100000 in
set_option maxHeartbeats 4000000 in
theorem wX5_heardAt_108 (hJ : eInj 16 ad) {q : Nat} (hq : q = 4 ∨ q = 5) (C : Cx p s m args meth c (dC, dI) (yW cI cZ ad) (yA ad) ExY [(cI, .int), (cZ, .boolean)] cX5_heardAt 6 RX5 (some .int) yX5_heardAt) {σ : eSt} {s0 : Int32} {s1 : Int32} {z : Int64} {r : Int32} (h : fX5_heardAt_108 σ q s0 s1 = some r) : WX p l e rmX5_heardAt s m args below meth c (MQ below (cQ (dC, dI) (yW cI cZ ad) (yA ad) (some (.int r)) σ z) args s 0 0 (yA ad)) (dC, dI) (yW cI cZ ad) (yA ad) 6 σ z [(0, .ref (ad 0)), (1, .ref (ad q))] 108 [.int s0, .int s1] := by
  unfold fX5_heardAt_108 at h
  refine x_ior C dX5_heardAt_108 ?_
  refine x_istore_b C (fun v1 => [(4, .int v1), (0, .ref (ad 0)), (1, .ref (ad q))]) dX5_heardAt_109 (by decide) h (fun _ => rfl) ?_
  intro v1 h
  refine x_iload C dX5_heardAt_111 0 rfl ?_
  exact xr_i C h dX5_heardAt_113
set_option maxRecDepth 100000 in
set_option maxHeartbeats 4000000 in
theorem wX5_heardAt_107 (hJ : eInj 16 ad) {q : Nat} (hq : q = 4 ∨ q = 5) (C : Cx p s m args meth c (dC, dI) (yW cI cZ ad) (yA ad) ExY [(cI, .int), (cZ, .boolean)] cX5_heardAt 6 RX5 (some .int) yX5_heardAt) {σ : eSt} {s0 : Int32} {z : Int64} {r : Int32} (h : fX5_heardAt_107 σ q s0 = some r) : WX p l e rmX5_heardAt s m args below meth c (MQ below (cQ (dC, dI) (yW cI cZ ad) (yA ad) (some (.int r)) σ z) args s 0 0 (yA ad)) (dC, dI) (yW cI cZ ad) (yA ad) 6 σ z [(0, .ref (ad 0)), (1, .ref (ad q))] 107 [.int s0] := by
  unfold fX5_heardAt_107 at h
  refine x_iconst (v := 0) C dX5_heardAt_107 ic_0 ?_
  exact wX5_heardAt_108 hJ hq C h
set_option maxRecDepth 100000 in
set_option maxHeartbeats 4000000 in
theorem wX5_heardAt_75 (hJ : eInj 16 ad) {q : Nat} (hq : q = 4 ∨ q = 5) (C : Cx p s m args meth c (dC, dI) (yW cI cZ ad) (yA ad) ExY [(cI, .int), (cZ, .boolean)] cX5_heardAt 6 RX5 (some .int) yX5_heardAt) {σ : eSt} {a2 : Int32} {s0 : Int32} {s1 : Int32} {z : Int64} {r : Int32} (h : fX5_heardAt_75 σ q a2 s0 s1 = some r) : WX p l e rmX5_heardAt s m args below meth c (MQ below (cQ (dC, dI) (yW cI cZ ad) (yA ad) (some (.int r)) σ z) args s 0 0 (yA ad)) (dC, dI) (yW cI cZ ad) (yA ad) 6 σ z [(0, .ref (ad 0)), (1, .ref (ad q)), (2, .int a2)] 75 [.int s0, .int s1] := by
  unfold fX5_heardAt_75 at h
  refine x_ior C dX5_heardAt_75 ?_
  refine x_istore_b C (fun v1 => [(4, .int v1), (0, .ref (ad 0)), (1, .ref (ad q)), (2, .int a2)]) dX5_heardAt_76 (by decide) h (fun _ => rfl) ?_
  intro v1 h
  refine x_iload C dX5_heardAt_78 0 rfl ?_
  refine x_aload_n C dX5_heardAt_80 rfl 2 rfl ?_
  refine x_iconst (v := 5) C dX5_heardAt_81 ic_5 ?_
  refine x_iald_c C q 0 5 (yW_q hq) rfl dX5_heardAt_82 (by decide) (by decide) ?_
  refine x_bipush (v := (-9)) C dX5_heardAt_83 bi_m9 ?_
  refine x_icmp_eq (tgt := 107) C dX5_heardAt_85 (by decide) h ?_ ?_
  · intro h
    refine x_sub (lv' := [(0, .ref (ad 0)), (1, .ref (ad q))]) [1, 2] rfl ?_
    exact wX5_heardAt_107 hJ hq C h
  · intro h
    refine x_aload_n C dX5_heardAt_88 rfl 2 rfl ?_
    refine x_aload_n C dX5_heardAt_89 rfl 2 rfl ?_
    refine x_iconst (v := 5) C dX5_heardAt_90 ic_5 ?_
    refine x_iald_c C q 0 5 (yW_q hq) rfl dX5_heardAt_91 (by decide) (by decide) ?_
    refine x_iconst (v := 3) C dX5_heardAt_92 ic_3 ?_
    refine x_iconst (v := 0) C dX5_heardAt_93 ic_0 ?_
    refine x_iload_n C dX5_heardAt_94 rfl 3 rfl ?_
    obtain ⟨v2, hv, h⟩ := e_bind h
    refine x_callS_i C [.ref (ad q), .int (σ q 5), .int 3, .int 0, .int a2] (tX5_carries hJ hq hv) k_3_162 k_3_163 k_1_6 k_3_164 hyX5_carries.2 ⟨rfl, rfl⟩ (by decide) rfl rfl (Nat.le_of_ble_eq_true rfl) dX5_heardAt_95 ?_
    refine x_if_eq (tgt := 107) C dX5_heardAt_98 (by decide) h ?_ ?_
    · intro h
      refine x_sub (lv' := [(0, .ref (ad 0)), (1, .ref (ad q))]) [1, 2] rfl ?_
      exact wX5_heardAt_107 hJ hq C h
    · intro h
      refine x_sipush (v := 128) C dX5_heardAt_101 si_128 ?_
      refine x_goto (tgt := 108) C dX5_heardAt_104 (by decide) ?_
      refine x_sub (lv' := [(0, .ref (ad 0)), (1, .ref (ad q))]) [1, 2] rfl ?_
      exact wX5_heardAt_108 hJ hq C h
set_option maxRecDepth 100000 in
set_option maxHeartbeats 4000000 in
theorem wX5_heardAt_74 (hJ : eInj 16 ad) {q : Nat} (hq : q = 4 ∨ q = 5) (C : Cx p s m args meth c (dC, dI) (yW cI cZ ad) (yA ad) ExY [(cI, .int), (cZ, .boolean)] cX5_heardAt 6 RX5 (some .int) yX5_heardAt) {σ : eSt} {a2 : Int32} {s0 : Int32} {z : Int64} {r : Int32} (h : fX5_heardAt_74 σ q a2 s0 = some r) : WX p l e rmX5_heardAt s m args below meth c (MQ below (cQ (dC, dI) (yW cI cZ ad) (yA ad) (some (.int r)) σ z) args s 0 0 (yA ad)) (dC, dI) (yW cI cZ ad) (yA ad) 6 σ z [(0, .ref (ad 0)), (1, .ref (ad q)), (2, .int a2)] 74 [.int s0] := by
  unfold fX5_heardAt_74 at h
  refine x_iconst (v := 0) C dX5_heardAt_74 ic_0 ?_
  exact wX5_heardAt_75 hJ hq C h
set_option maxRecDepth 100000 in
set_option maxHeartbeats 4000000 in
theorem wX5_heardAt_37 (hJ : eInj 16 ad) {q : Nat} (hq : q = 4 ∨ q = 5) (C : Cx p s m args meth c (dC, dI) (yW cI cZ ad) (yA ad) ExY [(cI, .int), (cZ, .boolean)] cX5_heardAt 6 RX5 (some .int) yX5_heardAt) {σ : eSt} {a2 : Int32} {a3 : Int32} {a5 : Int32} {s0 : Int32} {s1 : Int32} {z : Int64} {r : Int32} {k6 : Int32 → Int32 → Option (Int32)} (hk6 : ∀ (a4 : Int32) (a5 : Int32), k6 a4 a5 = some r → WX p l e rmX5_heardAt s m args below meth c (MQ below (cQ (dC, dI) (yW cI cZ ad) (yA ad) (some (.int r)) σ z) args s 0 0 (yA ad)) (dC, dI) (yW cI cZ ad) (yA ad) 6 σ z [(0, .ref (ad 0)), (1, .ref (ad q)), (2, .int a2), (3, .int a3), (4, .int a4), (5, .int a5)] 6 []) (h : fX5_heardAt_37 k6 σ q a2 a3 a5 s0 s1 = some r) : WX p l e rmX5_heardAt s m args below meth c (MQ below (cQ (dC, dI) (yW cI cZ ad) (yA ad) (some (.int r)) σ z) args s 0 0 (yA ad)) (dC, dI) (yW cI cZ ad) (yA ad) 6 σ z [(0, .ref (ad 0)), (1, .ref (ad q)), (2, .int a2), (3, .int a3), (5, .int a5)] 37 [.int s0, .int s1] := by
  unfold fX5_heardAt_37 at h
  refine x_ior C dX5_heardAt_37 ?_
  refine x_istore_b C (fun v1 => [(4, .int v1), (0, .ref (ad 0)), (1, .ref (ad q)), (2, .int a2), (3, .int a3), (5, .int a5)]) dX5_heardAt_38 (by decide) h (fun _ => rfl) ?_
  intro v1 h
  refine x_iinc_b (j := 5) (w := 1) C (fun v2 => [(5, .int v2), (4, .int v1), (0, .ref (ad 0)), (1, .ref (ad q)), (2, .int a2), (3, .int a3)]) dX5_heardAt_40 ic_1 rfl (by decide) h (fun _ => rfl) ?_
  intro v2 h
  refine x_goto (tgt := 6) C dX5_heardAt_43 (by decide) ?_
  refine x_sub (lv' := [(0, .ref (ad 0)), (1, .ref (ad q)), (2, .int a2), (3, .int a3), (4, .int v1), (5, .int v2)]) [2, 3, 4, 5, 1, 0] rfl ?_
  exact hk6 _ _ h
set_option maxRecDepth 100000 in
set_option maxHeartbeats 4000000 in
theorem wX5_heardAt_6 (hJ : eInj 16 ad) {q : Nat} (hq : q = 4 ∨ q = 5) (C : Cx p s m args meth c (dC, dI) (yW cI cZ ad) (yA ad) ExY [(cI, .int), (cZ, .boolean)] cX5_heardAt 6 RX5 (some .int) yX5_heardAt) {σ : eSt} {a2 : Int32} {a3 : Int32} {z : Int64} {r : Int32} : ∀ (n : Nat) (a4 : Int32) (a5 : Int32), lo_2 (bX5_heardAt_6 σ q a2 a3) n a4 a5 = some r → WX p l e rmX5_heardAt s m args below meth c (MQ below (cQ (dC, dI) (yW cI cZ ad) (yA ad) (some (.int r)) σ z) args s 0 0 (yA ad)) (dC, dI) (yW cI cZ ad) (yA ad) 6 σ z [(0, .ref (ad 0)), (1, .ref (ad q)), (2, .int a2), (3, .int a3), (4, .int a4), (5, .int a5)] 6 [] := by
  refine lo_2_ind (P := fun a4 a5 => WX p l e rmX5_heardAt s m args below meth c (MQ below (cQ (dC, dI) (yW cI cZ ad) (yA ad) (some (.int r)) σ z) args s 0 0 (yA ad)) (dC, dI) (yW cI cZ ad) (yA ad) 6 σ z [(0, .ref (ad 0)), (1, .ref (ad q)), (2, .int a2), (3, .int a3), (4, .int a4), (5, .int a5)] 6 []) ?_
  intro k6 hk6 a4 a5 h
  unfold bX5_heardAt_6 at h
  refine x_iload C dX5_heardAt_6 5 rfl ?_
  refine x_aload_n C dX5_heardAt_8 rfl 0 rfl ?_
  refine fg_5_4 C 0 rfl rfl k_3_13 dX5_heardAt_9 ?_
  refine x_icmp_ge (tgt := 46) C dX5_heardAt_12 (by decide) h ?_ ?_
  · intro h
    refine x_iload C dX5_heardAt_46 4 rfl ?_
    refine x_aload_n C dX5_heardAt_48 rfl 1 rfl ?_
    refine x_iconst (v := 4) C dX5_heardAt_49 ic_4 ?_
    refine x_iald_c C q 0 4 (yW_q hq) rfl dX5_heardAt_50 (by decide) (by decide) ?_
    refine x_bipush (v := (-9)) C dX5_heardAt_51 bi_m9 ?_
    refine x_icmp_eq (tgt := 74) C dX5_heardAt_53 (by decide) h ?_ ?_
    · intro h
      refine x_sub (lv' := [(0, .ref (ad 0)), (1, .ref (ad q)), (2, .int a2)]) [0, 1, 2] rfl ?_
      exact wX5_heardAt_74 hJ hq C h
    · intro h
      refine x_aload_n C dX5_heardAt_56 rfl 1 rfl ?_
      refine x_aload_n C dX5_heardAt_57 rfl 1 rfl ?_
      refine x_iconst (v := 4) C dX5_heardAt_58 ic_4 ?_
      refine x_iald_c C q 0 4 (yW_q hq) rfl dX5_heardAt_59 (by decide) (by decide) ?_
      refine x_iconst (v := 3) C dX5_heardAt_60 ic_3 ?_
      refine x_iconst (v := 0) C dX5_heardAt_61 ic_0 ?_
      refine x_iload_n C dX5_heardAt_62 rfl 2 rfl ?_
      obtain ⟨v1, hv, h⟩ := e_bind h
      refine x_callS_i C [.ref (ad q), .int (σ q 4), .int 3, .int 0, .int a2] (tX5_carries hJ hq hv) k_3_162 k_3_163 k_1_6 k_3_164 hyX5_carries.2 ⟨rfl, rfl⟩ (by decide) rfl rfl (Nat.le_of_ble_eq_true rfl) dX5_heardAt_63 ?_
      refine x_if_eq (tgt := 74) C dX5_heardAt_66 (by decide) h ?_ ?_
      · intro h
        refine x_sub (lv' := [(0, .ref (ad 0)), (1, .ref (ad q)), (2, .int a2)]) [0, 1, 2] rfl ?_
        exact wX5_heardAt_74 hJ hq C h
      · intro h
        refine x_bipush (v := 64) C dX5_heardAt_69 bi_64 ?_
        refine x_goto (tgt := 75) C dX5_heardAt_71 (by decide) ?_
        refine x_sub (lv' := [(0, .ref (ad 0)), (1, .ref (ad q)), (2, .int a2)]) [0, 1, 2] rfl ?_
        exact wX5_heardAt_75 hJ hq C h
  · intro h
    refine x_iload C dX5_heardAt_15 4 rfl ?_
    refine x_aload_n C dX5_heardAt_17 rfl 0 rfl ?_
    refine x_aload_n C dX5_heardAt_18 rfl 1 rfl ?_
    refine x_iload C dX5_heardAt_19 5 rfl ?_
    refine x_iload_n C dX5_heardAt_21 rfl 2 rfl ?_
    refine x_iload_n C dX5_heardAt_22 rfl 3 rfl ?_
    obtain ⟨v2, hv, h⟩ := e_bind h
    refine x_callV_i C (ci := 5) 0 [.ref (ad q), .int a5, .int a2, .int a3] (tX5_hears hJ hq hv) k_3_155 k_3_157 k_p_27 k_1_6 k_3_158 hyX5_hears ⟨rfl, rfl⟩ (by decide) rfl rfl rfl rfl (Nat.le_of_ble_eq_true rfl) dX5_heardAt_23 ?_
    refine x_if_eq (tgt := 36) C dX5_heardAt_26 (by decide) h ?_ ?_
    · intro h
      refine x_iconst (v := 0) C dX5_heardAt_36 ic_0 ?_
      refine x_sub (lv' := [(0, .ref (ad 0)), (1, .ref (ad q)), (2, .int a2), (3, .int a3), (5, .int a5)]) [0, 1, 2, 3, 5] rfl ?_
      exact wX5_heardAt_37 hJ hq C hk6 h
    · intro h
      refine x_iconst (v := 1) C dX5_heardAt_29 ic_1 ?_
      refine x_iload C dX5_heardAt_30 5 rfl ?_
      refine x_ishl C dX5_heardAt_32 ?_
      refine x_goto (tgt := 37) C dX5_heardAt_33 (by decide) ?_
      refine x_sub (lv' := [(0, .ref (ad 0)), (1, .ref (ad q)), (2, .int a2), (3, .int a3), (5, .int a5)]) [0, 1, 2, 3, 5] rfl ?_
      exact wX5_heardAt_37 hJ hq C hk6 h
set_option maxRecDepth 100000 in
set_option maxHeartbeats 4000000 in
theorem wX5_heardAt_0 (hJ : eInj 16 ad) {q : Nat} (hq : q = 4 ∨ q = 5) (C : Cx p s m args meth c (dC, dI) (yW cI cZ ad) (yA ad) ExY [(cI, .int), (cZ, .boolean)] cX5_heardAt 6 RX5 (some .int) yX5_heardAt) {σ : eSt} {a2 : Int32} {a3 : Int32} {z : Int64} {r : Int32} (h : fX5_heardAt σ q a2 a3 = some r) : WX p l e rmX5_heardAt s m args below meth c (MQ below (cQ (dC, dI) (yW cI cZ ad) (yA ad) (some (.int r)) σ z) args s 0 0 (yA ad)) (dC, dI) (yW cI cZ ad) (yA ad) 6 σ z [(0, .ref (ad 0)), (1, .ref (ad q)), (2, .int a2), (3, .int a3)] 0 [] := by
  unfold fX5_heardAt at h
  refine x_iconst (v := 0) C dX5_heardAt_0 ic_0 ?_
  refine x_istore (lv' := [(4, .int 0), (0, .ref (ad 0)), (1, .ref (ad q)), (2, .int a2), (3, .int a3)]) C dX5_heardAt_1 (by decide) rfl ?_
  refine x_iconst (v := 0) C dX5_heardAt_3 ic_0 ?_
  refine x_istore (lv' := [(5, .int 0), (4, .int 0), (0, .ref (ad 0)), (1, .ref (ad q)), (2, .int a2), (3, .int a3)]) C dX5_heardAt_4 (by decide) rfl ?_
  refine x_sub (lv' := [(0, .ref (ad 0)), (1, .ref (ad q)), (2, .int a2), (3, .int a3), (4, .int 0), (5, .int 0)]) [2, 3, 4, 5, 1, 0] rfl ?_
  exact wX5_heardAt_6 hJ hq C _ _ _ h
set_option maxRecDepth 100000 in
set_option maxHeartbeats 4000000 in
theorem tX5_heardAt {l : Launch} {dC : Nat → ClassId} {dI : Nat → Nat → Nat} {cI cZ : ClassId} {ad : Nat → Nat} (hJ : eInj 16 ad) {q : Nat} (hq : q = 4 ∨ q = 5) {σ : eSt} {a2 : Int32} {a3 : Int32} {z : Int64} {r : Int32} (h : fX5_heardAt σ q a2 a3 = some r) : Con l yX5_heardAt cX5_heardAt 6 (some .int) rmX5_heardAt (dC, dI) (yW cI cZ ad) (yA ad) [(cI, .int), (cZ, .boolean)] ExY [.ref (ad 0), .ref (ad q), .int a2, .int a3] σ z (some (.int r)) σ z :=
  x_con (by decide) (yW_D hJ) (ExY_ok ad) (Nat.le_of_ble_eq_true rfl) (fun p e s m args below meth c C => wX5_heardAt_0 hJ hq C h)
set_option maxRecDepth 100000 in
set_option maxHeartbeats 4000000 in
theorem wX5_sureAt_112 (hJ : eInj 16 ad) {q : Nat} (hq : q = 4 ∨ q = 5) (C : Cx p s m args meth c (dC, dI) (yW cI cZ ad) (yA ad) ExY [(cI, .int), (cZ, .boolean)] cX5_sureAt 7 RX5 (some .int) yX5_sureAt) {σ : eSt} {a4 : Int32} {s0 : Int32} {s1 : Int32} {z : Int64} {r : Int32 × eSt} {k36 : Int32 → Int32 → Option (Int32 × eSt)} (hk36 : ∀ (a3 : Int32) (a4 : Int32), k36 a3 a4 = some r → WX p l e rmX5_sureAt s m args below meth c (MQ below (cQ (dC, dI) (yW cI cZ ad) (yA ad) (some (.int r.1)) r.2 z) args s 0 0 (yA ad)) (dC, dI) (yW cI cZ ad) (yA ad) 7 σ z [(0, .ref (ad 0)), (1, .ref (ad q)), (3, .int a3), (4, .int a4)] 36 []) (h : fX5_sureAt_112 k36 σ q a4 s0 s1 = some r) : WX p l e rmX5_sureAt s m args below meth c (MQ below (cQ (dC, dI) (yW cI cZ ad) (yA ad) (some (.int r.1)) r.2 z) args s 0 0 (yA ad)) (dC, dI) (yW cI cZ ad) (yA ad) 7 σ z [(0, .ref (ad 0)), (1, .ref (ad q)), (4, .int a4)] 112 [.int s0, .int s1] := by
  unfold fX5_sureAt_112 at h
  refine x_ior C dX5_sureAt_112 ?_
  refine x_istore_n_b C (fun v1 => [(3, .int v1), (0, .ref (ad 0)), (1, .ref (ad q)), (4, .int a4)]) dX5_sureAt_113 rfl (by decide) h (fun _ => rfl) ?_
  intro v1 h
  refine x_iinc_b (j := 3) (w := 1) C (fun v2 => [(4, .int v2), (3, .int v1), (0, .ref (ad 0)), (1, .ref (ad q))]) dX5_sureAt_114 ic_1 rfl (by decide) h (fun _ => rfl) ?_
  intro v2 h
  refine x_goto (tgt := 36) C dX5_sureAt_117 (by decide) ?_
  refine x_sub (lv' := [(0, .ref (ad 0)), (1, .ref (ad q)), (3, .int v1), (4, .int v2)]) [2, 3, 1, 0] rfl ?_
  exact hk36 _ _ h
set_option maxRecDepth 100000 in
set_option maxHeartbeats 4000000 in
theorem wX5_sureAt_90 (hJ : eInj 16 ad) {q : Nat} (hq : q = 4 ∨ q = 5) (C : Cx p s m args meth c (dC, dI) (yW cI cZ ad) (yA ad) ExY [(cI, .int), (cZ, .boolean)] cX5_sureAt 7 RX5 (some .int) yX5_sureAt) {σ : eSt} {a3 : Int32} {a4 : Int32} {a6 : Int32} {s0 : Int32} {z : Int64} {r : Int32 × eSt} {k36 : Int32 → Int32 → Option (Int32 × eSt)} (hk36 : ∀ (a3 : Int32) (a4 : Int32), k36 a3 a4 = some r → WX p l e rmX5_sureAt s m args below meth c (MQ below (cQ (dC, dI) (yW cI cZ ad) (yA ad) (some (.int r.1)) r.2 z) args s 0 0 (yA ad)) (dC, dI) (yW cI cZ ad) (yA ad) 7 σ z [(0, .ref (ad 0)), (1, .ref (ad q)), (3, .int a3), (4, .int a4)] 36 []) {k49 : Int32 → Int32 → Option (Int32 × eSt)} (hk49 : ∀ (a5 : Int32) (a6 : Int32), k49 a5 a6 = some r → WX p l e rmX5_sureAt s m args below meth c (MQ below (cQ (dC, dI) (yW cI cZ ad) (yA ad) (some (.int r.1)) r.2 z) args s 0 0 (yA ad)) (dC, dI) (yW cI cZ ad) (yA ad) 7 σ z [(0, .ref (ad 0)), (1, .ref (ad q)), (3, .int a3), (4, .int a4), (5, .int a5), (6, .int a6)] 49 []) (h : fX5_sureAt_90 k36 k49 σ q a3 a4 a6 s0 = some r) : WX p l e rmX5_sureAt s m args below meth c (MQ below (cQ (dC, dI) (yW cI cZ ad) (yA ad) (some (.int r.1)) r.2 z) args s 0 0 (yA ad)) (dC, dI) (yW cI cZ ad) (yA ad) 7 σ z [(0, .ref (ad 0)), (1, .ref (ad q)), (3, .int a3), (4, .int a4), (6, .int a6)] 90 [.int s0] := by
  unfold fX5_sureAt_90 at h
  refine x_istore (lv' := [(5, .int s0), (0, .ref (ad 0)), (1, .ref (ad q)), (3, .int a3), (4, .int a4), (6, .int a6)]) C dX5_sureAt_90 (by decide) rfl ?_
  refine x_iinc_b (j := 5) (w := 1) C (fun v1 => [(6, .int v1), (5, .int s0), (0, .ref (ad 0)), (1, .ref (ad q)), (3, .int a3), (4, .int a4)]) dX5_sureAt_92 ic_1 rfl (by decide) h (fun _ => rfl) ?_
  intro v1 h
  refine x_goto (tgt := 49) C dX5_sureAt_95 (by decide) ?_
  refine x_sub (lv' := [(0, .ref (ad 0)), (1, .ref (ad q)), (3, .int a3), (4, .int a4), (5, .int s0), (6, .int v1)]) [2, 3, 4, 5, 1, 0] rfl ?_
  exact hk49 _ _ h
set_option maxRecDepth 100000 in
set_option maxHeartbeats 4000000 in
theorem wX5_sureAt_89 (hJ : eInj 16 ad) {q : Nat} (hq : q = 4 ∨ q = 5) (C : Cx p s m args meth c (dC, dI) (yW cI cZ ad) (yA ad) ExY [(cI, .int), (cZ, .boolean)] cX5_sureAt 7 RX5 (some .int) yX5_sureAt) {σ : eSt} {a3 : Int32} {a4 : Int32} {a6 : Int32} {z : Int64} {r : Int32 × eSt} {k36 : Int32 → Int32 → Option (Int32 × eSt)} (hk36 : ∀ (a3 : Int32) (a4 : Int32), k36 a3 a4 = some r → WX p l e rmX5_sureAt s m args below meth c (MQ below (cQ (dC, dI) (yW cI cZ ad) (yA ad) (some (.int r.1)) r.2 z) args s 0 0 (yA ad)) (dC, dI) (yW cI cZ ad) (yA ad) 7 σ z [(0, .ref (ad 0)), (1, .ref (ad q)), (3, .int a3), (4, .int a4)] 36 []) {k49 : Int32 → Int32 → Option (Int32 × eSt)} (hk49 : ∀ (a5 : Int32) (a6 : Int32), k49 a5 a6 = some r → WX p l e rmX5_sureAt s m args below meth c (MQ below (cQ (dC, dI) (yW cI cZ ad) (yA ad) (some (.int r.1)) r.2 z) args s 0 0 (yA ad)) (dC, dI) (yW cI cZ ad) (yA ad) 7 σ z [(0, .ref (ad 0)), (1, .ref (ad q)), (3, .int a3), (4, .int a4), (5, .int a5), (6, .int a6)] 49 []) (h : fX5_sureAt_89 k36 k49 σ q a3 a4 a6 = some r) : WX p l e rmX5_sureAt s m args below meth c (MQ below (cQ (dC, dI) (yW cI cZ ad) (yA ad) (some (.int r.1)) r.2 z) args s 0 0 (yA ad)) (dC, dI) (yW cI cZ ad) (yA ad) 7 σ z [(0, .ref (ad 0)), (1, .ref (ad q)), (3, .int a3), (4, .int a4), (6, .int a6)] 89 [] := by
  unfold fX5_sureAt_89 at h
  refine x_iconst (v := 0) C dX5_sureAt_89 ic_0 ?_
  exact wX5_sureAt_90 hJ hq C hk36 hk49 h
set_option maxRecDepth 100000 in
set_option maxHeartbeats 4000000 in
theorem wX5_sureAt_85 (hJ : eInj 16 ad) {q : Nat} (hq : q = 4 ∨ q = 5) (C : Cx p s m args meth c (dC, dI) (yW cI cZ ad) (yA ad) ExY [(cI, .int), (cZ, .boolean)] cX5_sureAt 7 RX5 (some .int) yX5_sureAt) {σ : eSt} {a3 : Int32} {a4 : Int32} {a6 : Int32} {z : Int64} {r : Int32 × eSt} {k36 : Int32 → Int32 → Option (Int32 × eSt)} (hk36 : ∀ (a3 : Int32) (a4 : Int32), k36 a3 a4 = some r → WX p l e rmX5_sureAt s m args below meth c (MQ below (cQ (dC, dI) (yW cI cZ ad) (yA ad) (some (.int r.1)) r.2 z) args s 0 0 (yA ad)) (dC, dI) (yW cI cZ ad) (yA ad) 7 σ z [(0, .ref (ad 0)), (1, .ref (ad q)), (3, .int a3), (4, .int a4)] 36 []) {k49 : Int32 → Int32 → Option (Int32 × eSt)} (hk49 : ∀ (a5 : Int32) (a6 : Int32), k49 a5 a6 = some r → WX p l e rmX5_sureAt s m args below meth c (MQ below (cQ (dC, dI) (yW cI cZ ad) (yA ad) (some (.int r.1)) r.2 z) args s 0 0 (yA ad)) (dC, dI) (yW cI cZ ad) (yA ad) 7 σ z [(0, .ref (ad 0)), (1, .ref (ad q)), (3, .int a3), (4, .int a4), (5, .int a5), (6, .int a6)] 49 []) (h : fX5_sureAt_85 k36 k49 σ q a3 a4 a6 = some r) : WX p l e rmX5_sureAt s m args below meth c (MQ below (cQ (dC, dI) (yW cI cZ ad) (yA ad) (some (.int r.1)) r.2 z) args s 0 0 (yA ad)) (dC, dI) (yW cI cZ ad) (yA ad) 7 σ z [(0, .ref (ad 0)), (1, .ref (ad q)), (3, .int a3), (4, .int a4), (6, .int a6)] 85 [] := by
  unfold fX5_sureAt_85 at h
  refine x_iconst (v := 1) C dX5_sureAt_85 ic_1 ?_
  refine x_goto (tgt := 90) C dX5_sureAt_86 (by decide) ?_
  exact wX5_sureAt_90 hJ hq C hk36 hk49 h
set_option maxRecDepth 100000 in
set_option maxHeartbeats 4000000 in
theorem wX5_sureAt_49 (hJ : eInj 16 ad) {q : Nat} (hq : q = 4 ∨ q = 5) (C : Cx p s m args meth c (dC, dI) (yW cI cZ ad) (yA ad) ExY [(cI, .int), (cZ, .boolean)] cX5_sureAt 7 RX5 (some .int) yX5_sureAt) {σ : eSt} {a3 : Int32} {a4 : Int32} {z : Int64} {r : Int32 × eSt} {k36 : Int32 → Int32 → Option (Int32 × eSt)} (hk36 : ∀ (a3 : Int32) (a4 : Int32), k36 a3 a4 = some r → WX p l e rmX5_sureAt s m args below meth c (MQ below (cQ (dC, dI) (yW cI cZ ad) (yA ad) (some (.int r.1)) r.2 z) args s 0 0 (yA ad)) (dC, dI) (yW cI cZ ad) (yA ad) 7 σ z [(0, .ref (ad 0)), (1, .ref (ad q)), (3, .int a3), (4, .int a4)] 36 []) : ∀ (n : Nat) (a5 : Int32) (a6 : Int32), lo_2 (bX5_sureAt_49 k36 σ q a3 a4) n a5 a6 = some r → WX p l e rmX5_sureAt s m args below meth c (MQ below (cQ (dC, dI) (yW cI cZ ad) (yA ad) (some (.int r.1)) r.2 z) args s 0 0 (yA ad)) (dC, dI) (yW cI cZ ad) (yA ad) 7 σ z [(0, .ref (ad 0)), (1, .ref (ad q)), (3, .int a3), (4, .int a4), (5, .int a5), (6, .int a6)] 49 [] := by
  refine lo_2_ind (P := fun a5 a6 => WX p l e rmX5_sureAt s m args below meth c (MQ below (cQ (dC, dI) (yW cI cZ ad) (yA ad) (some (.int r.1)) r.2 z) args s 0 0 (yA ad)) (dC, dI) (yW cI cZ ad) (yA ad) 7 σ z [(0, .ref (ad 0)), (1, .ref (ad q)), (3, .int a3), (4, .int a4), (5, .int a5), (6, .int a6)] 49 []) ?_
  intro k49 hk49 a5 a6 h
  unfold bX5_sureAt_49 at h
  refine x_iload C dX5_sureAt_49 5 rfl ?_
  refine x_bipush (v := 10) C dX5_sureAt_51 bi_10 ?_
  refine x_icmp_ge (tgt := 98) C dX5_sureAt_53 (by decide) h ?_ ?_
  · intro h
    refine x_iload_n C dX5_sureAt_98 rfl 2 rfl ?_
    refine x_iload C dX5_sureAt_99 4 rfl ?_
    refine x_if_eq (tgt := 111) C dX5_sureAt_101 (by decide) h ?_ ?_
    · intro h
      refine x_iconst (v := 0) C dX5_sureAt_111 ic_0 ?_
      refine x_sub (lv' := [(0, .ref (ad 0)), (1, .ref (ad q)), (4, .int a4)]) [0, 1, 3] rfl ?_
      exact wX5_sureAt_112 hJ hq C hk36 h
    · intro h
      refine x_iconst (v := 1) C dX5_sureAt_104 ic_1 ?_
      refine x_iload C dX5_sureAt_105 3 rfl ?_
      refine x_ishl C dX5_sureAt_107 ?_
      refine x_goto (tgt := 112) C dX5_sureAt_108 (by decide) ?_
      refine x_sub (lv' := [(0, .ref (ad 0)), (1, .ref (ad q)), (4, .int a4)]) [0, 1, 3] rfl ?_
      exact wX5_sureAt_112 hJ hq C hk36 h
  · intro h
    refine x_iload C dX5_sureAt_56 4 rfl ?_
    refine x_if_eq (tgt := 89) C dX5_sureAt_58 (by decide) h ?_ ?_
    · intro h
      refine x_sub (lv' := [(0, .ref (ad 0)), (1, .ref (ad q)), (3, .int a3), (4, .int a4), (6, .int a6)]) [0, 1, 2, 3, 5] rfl ?_
      exact wX5_sureAt_89 hJ hq C hk36 hk49 h
    · intro h
      refine x_iload C dX5_sureAt_61 3 rfl ?_
      refine x_iload C dX5_sureAt_63 5 rfl ?_
      refine x_icmp_eq (tgt := 85) C dX5_sureAt_65 (by decide) h ?_ ?_
      · intro h
        refine x_sub (lv' := [(0, .ref (ad 0)), (1, .ref (ad q)), (3, .int a3), (4, .int a4), (6, .int a6)]) [0, 1, 2, 3, 5] rfl ?_
        exact wX5_sureAt_85 hJ hq C hk36 hk49 h
      · intro h
        refine x_aload_n C dX5_sureAt_68 rfl 0 rfl ?_
        refine fg_5_23 C 0 rfl rfl k_3_32 dX5_sureAt_69 ?_
        refine x_iload C dX5_sureAt_72 3 rfl ?_
        refine x_iald C 13 0 rfl rfl dX5_sureAt_74 h ?_
        intro h
        refine x_aload_n C dX5_sureAt_75 rfl 0 rfl ?_
        refine fg_5_23 C 0 rfl rfl k_3_32 dX5_sureAt_76 ?_
        refine x_iload C dX5_sureAt_79 5 rfl ?_
        refine x_iald C 13 0 rfl rfl dX5_sureAt_81 h ?_
        intro h
        refine x_icmp_eq (tgt := 89) C dX5_sureAt_82 (by decide) h ?_ ?_
        · intro h
          refine x_sub (lv' := [(0, .ref (ad 0)), (1, .ref (ad q)), (3, .int a3), (4, .int a4), (6, .int a6)]) [0, 1, 2, 3, 5] rfl ?_
          exact wX5_sureAt_89 hJ hq C hk36 hk49 h
        · intro h
          refine x_sub (lv' := [(0, .ref (ad 0)), (1, .ref (ad q)), (3, .int a3), (4, .int a4), (6, .int a6)]) [0, 1, 2, 3, 5] rfl ?_
          exact wX5_sureAt_85 hJ hq C hk36 hk49 h
set_option maxRecDepth 100000 in
set_option maxHeartbeats 4000000 in
theorem wX5_sureAt_36 (hJ : eInj 16 ad) {q : Nat} (hq : q = 4 ∨ q = 5) (C : Cx p s m args meth c (dC, dI) (yW cI cZ ad) (yA ad) ExY [(cI, .int), (cZ, .boolean)] cX5_sureAt 7 RX5 (some .int) yX5_sureAt) {σ : eSt} {z : Int64} {r : Int32 × eSt} : ∀ (n : Nat) (a3 : Int32) (a4 : Int32), lo_2 (bX5_sureAt_36 σ q) n a3 a4 = some r → WX p l e rmX5_sureAt s m args below meth c (MQ below (cQ (dC, dI) (yW cI cZ ad) (yA ad) (some (.int r.1)) r.2 z) args s 0 0 (yA ad)) (dC, dI) (yW cI cZ ad) (yA ad) 7 σ z [(0, .ref (ad 0)), (1, .ref (ad q)), (3, .int a3), (4, .int a4)] 36 [] := by
  refine lo_2_ind (P := fun a3 a4 => WX p l e rmX5_sureAt s m args below meth c (MQ below (cQ (dC, dI) (yW cI cZ ad) (yA ad) (some (.int r.1)) r.2 z) args s 0 0 (yA ad)) (dC, dI) (yW cI cZ ad) (yA ad) 7 σ z [(0, .ref (ad 0)), (1, .ref (ad q)), (3, .int a3), (4, .int a4)] 36 []) ?_
  intro k36 hk36 a3 a4 h
  unfold bX5_sureAt_36 at h
  refine x_iload C dX5_sureAt_36 3 rfl ?_
  refine x_bipush (v := 10) C dX5_sureAt_38 bi_10 ?_
  refine x_icmp_ge (tgt := 120) C dX5_sureAt_40 (by decide) h ?_ ?_
  · intro h
    refine x_iload_n C dX5_sureAt_120 rfl 2 rfl ?_
    exact xr_wi C h dX5_sureAt_121
  · intro h
    refine x_iconst (v := 1) C dX5_sureAt_43 ic_1 ?_
    refine x_istore (lv' := [(5, .int 1), (0, .ref (ad 0)), (1, .ref (ad q)), (3, .int a3), (4, .int a4)]) C dX5_sureAt_44 (by decide) rfl ?_
    refine x_iconst (v := 0) C dX5_sureAt_46 ic_0 ?_
    refine x_istore (lv' := [(6, .int 0), (5, .int 1), (0, .ref (ad 0)), (1, .ref (ad q)), (3, .int a3), (4, .int a4)]) C dX5_sureAt_47 (by decide) rfl ?_
    refine x_sub (lv' := [(0, .ref (ad 0)), (1, .ref (ad q)), (3, .int a3), (4, .int a4), (5, .int 1), (6, .int 0)]) [2, 3, 4, 5, 1, 0] rfl ?_
    exact wX5_sureAt_49 hJ hq C hk36 _ _ _ h
set_option maxRecDepth 100000 in
set_option maxHeartbeats 4000000 in
theorem wX5_sureAt_5 (hJ : eInj 16 ad) {q : Nat} (hq : q = 4 ∨ q = 5) (C : Cx p s m args meth c (dC, dI) (yW cI cZ ad) (yA ad) ExY [(cI, .int), (cZ, .boolean)] cX5_sureAt 7 RX5 (some .int) yX5_sureAt) {a2 : Int32} {a3 : Int32} {z : Int64} {r : Int32 × eSt} : ∀ (n : Nat) (a4 : Int32) (σ : eSt), lo_2 (bX5_sureAt_5 q a2 a3) n a4 σ = some r → WX p l e rmX5_sureAt s m args below meth c (MQ below (cQ (dC, dI) (yW cI cZ ad) (yA ad) (some (.int r.1)) r.2 z) args s 0 0 (yA ad)) (dC, dI) (yW cI cZ ad) (yA ad) 7 σ z [(0, .ref (ad 0)), (1, .ref (ad q)), (2, .int a2), (3, .int a3), (4, .int a4)] 5 [] := by
  refine lo_2_ind (P := fun a4 σ => WX p l e rmX5_sureAt s m args below meth c (MQ below (cQ (dC, dI) (yW cI cZ ad) (yA ad) (some (.int r.1)) r.2 z) args s 0 0 (yA ad)) (dC, dI) (yW cI cZ ad) (yA ad) 7 σ z [(0, .ref (ad 0)), (1, .ref (ad q)), (2, .int a2), (3, .int a3), (4, .int a4)] 5 []) ?_
  intro k5 hk5 a4 σ h
  unfold bX5_sureAt_5 at h
  refine x_iload C dX5_sureAt_5 4 rfl ?_
  refine x_bipush (v := 10) C dX5_sureAt_7 bi_10 ?_
  refine x_icmp_ge (tgt := 33) C dX5_sureAt_9 (by decide) h ?_ ?_
  · intro h
    refine x_iconst (v := 0) C dX5_sureAt_33 ic_0 ?_
    refine x_istore (lv' := [(4, .int 0), (0, .ref (ad 0)), (1, .ref (ad q)), (2, .int a2), (3, .int a3)]) C dX5_sureAt_34 (by decide) rfl ?_
    refine x_sub (lv' := [(0, .ref (ad 0)), (1, .ref (ad q)), (3, .int a3), (4, .int 0)]) [1, 2, 4, 0] rfl ?_
    exact wX5_sureAt_36 hJ hq C _ _ _ h
  · intro h
    refine x_aload_n C dX5_sureAt_12 rfl 0 rfl ?_
    refine fg_5_23 C 0 rfl rfl k_3_32 dX5_sureAt_13 ?_
    refine x_iload C dX5_sureAt_16 4 rfl ?_
    refine x_aload_n C dX5_sureAt_18 rfl 0 rfl ?_
    refine x_aload_n C dX5_sureAt_19 rfl 1 rfl ?_
    refine x_iload C dX5_sureAt_20 4 rfl ?_
    refine x_iload_n C dX5_sureAt_22 rfl 2 rfl ?_
    obtain ⟨v1, hv, h⟩ := e_bind h
    refine x_callV_i C (ci := 5) 0 [.ref (ad q), .int a4, .int a2] (tX5_heardAt hJ hq hv) k_3_181 k_3_183 k_p_29 k_1_6 k_3_184 hyX5_heardAt ⟨rfl, rfl⟩ (by decide) rfl rfl rfl rfl (Nat.le_of_ble_eq_true rfl) dX5_sureAt_23 ?_
    refine x_iast C 13 0 rfl rfl dX5_sureAt_26 h rfl ?_
    intro σ2 h
    refine x_iinc_b (j := 4) (w := 1) C (fun v3 => [(4, .int v3), (0, .ref (ad 0)), (1, .ref (ad q)), (2, .int a2), (3, .int a3)]) dX5_sureAt_27 ic_1 rfl (by decide) h (fun _ => rfl) ?_
    intro v3 h
    refine x_goto (tgt := 5) C dX5_sureAt_30 (by decide) ?_
    refine x_sub (lv' := [(0, .ref (ad 0)), (1, .ref (ad q)), (2, .int a2), (3, .int a3), (4, .int v3)]) [1, 2, 3, 4, 0] rfl ?_
    exact hk5 _ _ h
set_option maxRecDepth 100000 in
set_option maxHeartbeats 4000000 in
theorem wX5_sureAt_0 (hJ : eInj 16 ad) {q : Nat} (hq : q = 4 ∨ q = 5) (C : Cx p s m args meth c (dC, dI) (yW cI cZ ad) (yA ad) ExY [(cI, .int), (cZ, .boolean)] cX5_sureAt 7 RX5 (some .int) yX5_sureAt) {σ : eSt} {a2 : Int32} {z : Int64} {r : Int32 × eSt} (h : fX5_sureAt σ q a2 = some r) : WX p l e rmX5_sureAt s m args below meth c (MQ below (cQ (dC, dI) (yW cI cZ ad) (yA ad) (some (.int r.1)) r.2 z) args s 0 0 (yA ad)) (dC, dI) (yW cI cZ ad) (yA ad) 7 σ z [(0, .ref (ad 0)), (1, .ref (ad q)), (2, .int a2)] 0 [] := by
  unfold fX5_sureAt at h
  refine x_iconst (v := 0) C dX5_sureAt_0 ic_0 ?_
  refine x_istore_n (lv' := [(3, .int 0), (0, .ref (ad 0)), (1, .ref (ad q)), (2, .int a2)]) C dX5_sureAt_1 rfl (by decide) rfl ?_
  refine x_iconst (v := 0) C dX5_sureAt_2 ic_0 ?_
  refine x_istore (lv' := [(4, .int 0), (3, .int 0), (0, .ref (ad 0)), (1, .ref (ad q)), (2, .int a2)]) C dX5_sureAt_3 (by decide) rfl ?_
  refine x_sub (lv' := [(0, .ref (ad 0)), (1, .ref (ad q)), (2, .int a2), (3, .int 0), (4, .int 0)]) [2, 3, 4, 1, 0] rfl ?_
  exact wX5_sureAt_5 hJ hq C _ _ _ h
set_option maxRecDepth 100000 in
set_option maxHeartbeats 4000000 in
theorem tX5_sureAt {l : Launch} {dC : Nat → ClassId} {dI : Nat → Nat → Nat} {cI cZ : ClassId} {ad : Nat → Nat} (hJ : eInj 16 ad) {q : Nat} (hq : q = 4 ∨ q = 5) {σ : eSt} {a2 : Int32} {z : Int64} {r : Int32 × eSt} (h : fX5_sureAt σ q a2 = some r) : Con l yX5_sureAt cX5_sureAt 7 (some .int) rmX5_sureAt (dC, dI) (yW cI cZ ad) (yA ad) [(cI, .int), (cZ, .boolean)] ExY [.ref (ad 0), .ref (ad q), .int a2] σ z (some (.int r.1)) r.2 z :=
  x_con (by decide) (yW_D hJ) (ExY_ok ad) (Nat.le_of_ble_eq_true rfl) (fun p e s m args below meth c C => wX5_sureAt_0 hJ hq C h)
set_option maxRecDepth 100000 in
set_option maxHeartbeats 4000000 in
theorem wX5_begin_2 (hJ : eInj 16 ad) (C : Cx p s m args meth c (dC, dI) (yW cI cZ ad) (yA ad) ExY [(cI, .int), (cZ, .boolean)] cX5_begin 2 RX5 none yX5_begin) {z : Int64} {r : eSt} : ∀ (n : Nat) (a1 : Int32) (σ : eSt), lo_2 (bX5_begin_2) n a1 σ = some r → WX p l e rmX5_begin s m args below meth c (MQ below (cQ (dC, dI) (yW cI cZ ad) (yA ad) none r z) args s 0 0 (yA ad)) (dC, dI) (yW cI cZ ad) (yA ad) 2 σ z [(0, .ref (ad 0)), (1, .int a1)] 2 [] := by
  refine lo_2_ind (P := fun a1 σ => WX p l e rmX5_begin s m args below meth c (MQ below (cQ (dC, dI) (yW cI cZ ad) (yA ad) none r z) args s 0 0 (yA ad)) (dC, dI) (yW cI cZ ad) (yA ad) 2 σ z [(0, .ref (ad 0)), (1, .int a1)] 2 []) ?_
  intro k2 hk2 a1 σ h
  unfold bX5_begin_2 at h
  refine x_iload_n C dX5_begin_2 rfl 1 rfl ?_
  refine x_bipush (v := 8) C dX5_begin_3 bi_8 ?_
  refine x_icmp_ge (tgt := 26) C dX5_begin_5 (by decide) h ?_ ?_
  · intro h
    exact xr_wv C h dX5_begin_26
  · intro h
    refine x_aload_n C dX5_begin_8 rfl 0 rfl ?_
    refine fg_5_12 C 0 rfl rfl k_3_21 dX5_begin_9 ?_
    refine x_iload_n C dX5_begin_12 rfl 1 rfl ?_
    refine x_aload_n C dX5_begin_13 rfl 0 rfl ?_
    refine fg_5_11 C 0 rfl rfl k_3_20 dX5_begin_14 ?_
    refine x_iload_n C dX5_begin_17 rfl 1 rfl ?_
    refine x_iald C 4 0 rfl rfl dX5_begin_18 h ?_
    intro h
    refine x_iast C 5 0 rfl rfl dX5_begin_19 h rfl ?_
    intro σ1 h
    refine x_iinc_b (j := 1) (w := 1) C (fun v2 => [(1, .int v2), (0, .ref (ad 0))]) dX5_begin_20 ic_1 rfl (by decide) h (fun _ => rfl) ?_
    intro v2 h
    refine x_goto (tgt := 2) C dX5_begin_23 (by decide) ?_
    refine x_sub (lv' := [(0, .ref (ad 0)), (1, .int v2)]) [1, 0] rfl ?_
    exact hk2 _ _ h
set_option maxRecDepth 100000 in
set_option maxHeartbeats 4000000 in
theorem wX5_begin_0 (hJ : eInj 16 ad) (C : Cx p s m args meth c (dC, dI) (yW cI cZ ad) (yA ad) ExY [(cI, .int), (cZ, .boolean)] cX5_begin 2 RX5 none yX5_begin) {σ : eSt} {z : Int64} {r : eSt} (h : fX5_begin σ = some r) : WX p l e rmX5_begin s m args below meth c (MQ below (cQ (dC, dI) (yW cI cZ ad) (yA ad) none r z) args s 0 0 (yA ad)) (dC, dI) (yW cI cZ ad) (yA ad) 2 σ z [(0, .ref (ad 0))] 0 [] := by
  unfold fX5_begin at h
  refine x_iconst (v := 0) C dX5_begin_0 ic_0 ?_
  refine x_istore_n (lv' := [(1, .int 0), (0, .ref (ad 0))]) C dX5_begin_1 rfl (by decide) rfl ?_
  refine x_sub (lv' := [(0, .ref (ad 0)), (1, .int 0)]) [1, 0] rfl ?_
  exact wX5_begin_2 hJ C _ _ _ h
set_option maxRecDepth 100000 in
set_option maxHeartbeats 4000000 in
theorem tX5_begin {l : Launch} {dC : Nat → ClassId} {dI : Nat → Nat → Nat} {cI cZ : ClassId} {ad : Nat → Nat} (hJ : eInj 16 ad) {σ : eSt} {z : Int64} {r : eSt} (h : fX5_begin σ = some r) : Con l yX5_begin cX5_begin 2 none rmX5_begin (dC, dI) (yW cI cZ ad) (yA ad) [(cI, .int), (cZ, .boolean)] ExY [.ref (ad 0)] σ z none r z :=
  x_con (by decide) (yW_D hJ) (ExY_ok ad) (Nat.le_of_ble_eq_true rfl) (fun p e s m args below meth c C => wX5_begin_0 hJ C h)
set_option maxRecDepth 100000 in
set_option maxHeartbeats 4000000 in
theorem wX5_about_0 (hJ : eInj 16 ad) (C : Cx p s m args meth c (dC, dI) (yW cI cZ ad) (yA ad) ExY [(cI, .int), (cZ, .boolean)] cX5_about 2 RX5 (some .int) yX5_about) {σ : eSt} {a1 : Int32} {z : Int64} {r : Int32 × eSt} (h : fX5_about σ a1 = some r) : WX p l e rmX5_about s m args below meth c (MQ below (cQ (dC, dI) (yW cI cZ ad) (yA ad) (some (.int r.1)) r.2 z) args s 0 0 (yA ad)) (dC, dI) (yW cI cZ ad) (yA ad) 2 σ z [(0, .ref (ad 0)), (1, .int a1)] 0 [] := by
  unfold fX5_about at h
  refine x_aload_n C dX5_about_0 rfl 0 rfl ?_
  refine x_iconst (v := 0) C dX5_about_1 ic_0 ?_
  refine fp_5_0 C 0 rfl (Nat.le_of_ble_eq_true rfl) k_3_9 h rfl dX5_about_2 ?_
  intro σ1 h
  refine x_iload_n C dX5_about_5 rfl 1 rfl ?_
  refine x_tsw C dX5_about_6 (fun j => [68, 73, 80, 87, 95, 103, 110, 117, 124, 131, 136, 141].getD j 0) 146 12 (by decide) ?_ (by decide) ?_ ?_
  · intro j hj
    match j, hj with
    | 0, _ => exact ⟨62, rfl, by decide⟩
    | 1, _ => exact ⟨67, rfl, by decide⟩
    | 2, _ => exact ⟨74, rfl, by decide⟩
    | 3, _ => exact ⟨81, rfl, by decide⟩
    | 4, _ => exact ⟨89, rfl, by decide⟩
    | 5, _ => exact ⟨97, rfl, by decide⟩
    | 6, _ => exact ⟨104, rfl, by decide⟩
    | 7, _ => exact ⟨111, rfl, by decide⟩
    | 8, _ => exact ⟨118, rfl, by decide⟩
    | 9, _ => exact ⟨125, rfl, by decide⟩
    | 10, _ => exact ⟨130, rfl, by decide⟩
    | 11, _ => exact ⟨135, rfl, by decide⟩
    | j + 12, hj => exact absurd hj (by omega)
  · intro j hj ej
    match j, hj, ej with
    | 0, _, ej =>
      have ex : a1 = 0 := e_sw (by decide) ej
      rw [if_pos ex] at h
      refine x_aload_n C dX5_about_68 rfl 0 rfl ?_
      refine fg_5_4 C 0 rfl rfl k_3_13 dX5_about_69 ?_
      exact xr_wi C h dX5_about_72
    | 1, _, ej =>
      have ex : a1 = 1 := e_sw (by decide) ej
      rw [if_neg (by rw [ex]; decide), if_pos ex] at h
      refine x_aload_n C dX5_about_73 rfl 0 rfl ?_
      refine fg_5_11 C 0 rfl rfl k_3_20 dX5_about_74 ?_
      refine x_iconst (v := 0) C dX5_about_77 ic_0 ?_
      refine x_iald_c C 4 0 0 rfl rfl dX5_about_78 (by decide) (by decide) ?_
      exact xr_wi C h dX5_about_79
    | 2, _, ej =>
      have ex : a1 = 2 := e_sw (by decide) ej
      rw [if_neg (by rw [ex]; decide), if_neg (by rw [ex]; decide), if_pos ex] at h
      refine x_aload_n C dX5_about_80 rfl 0 rfl ?_
      refine fg_5_11 C 0 rfl rfl k_3_20 dX5_about_81 ?_
      refine x_iconst (v := 1) C dX5_about_84 ic_1 ?_
      refine x_iald_c C 4 0 1 rfl rfl dX5_about_85 (by decide) (by decide) ?_
      exact xr_wi C h dX5_about_86
    | 3, _, ej =>
      have ex : a1 = 3 := e_sw (by decide) ej
      rw [if_neg (by rw [ex]; decide), if_neg (by rw [ex]; decide), if_neg (by rw [ex]; decide), if_pos ex] at h
      refine x_aload_n C dX5_about_87 rfl 0 rfl ?_
      refine fg_5_11 C 0 rfl rfl k_3_20 dX5_about_88 ?_
      refine x_bipush (v := 6) C dX5_about_91 bi_6 ?_
      refine x_iald_c C 4 0 6 rfl rfl dX5_about_93 (by decide) (by decide) ?_
      exact xr_wi C h dX5_about_94
    | 4, _, ej =>
      have ex : a1 = 4 := e_sw (by decide) ej
      rw [if_neg (by rw [ex]; decide), if_neg (by rw [ex]; decide), if_neg (by rw [ex]; decide), if_neg (by rw [ex]; decide), if_pos ex] at h
      refine x_aload_n C dX5_about_95 rfl 0 rfl ?_
      refine fg_5_11 C 0 rfl rfl k_3_20 dX5_about_96 ?_
      refine x_bipush (v := 7) C dX5_about_99 bi_7 ?_
      refine x_iald_c C 4 0 7 rfl rfl dX5_about_101 (by decide) (by decide) ?_
      exact xr_wi C h dX5_about_102
    | 5, _, ej =>
      have ex : a1 = 5 := e_sw (by decide) ej
      rw [if_neg (by rw [ex]; decide), if_neg (by rw [ex]; decide), if_neg (by rw [ex]; decide), if_neg (by rw [ex]; decide), if_neg (by rw [ex]; decide), if_pos ex] at h
      refine x_aload_n C dX5_about_103 rfl 0 rfl ?_
      refine fg_5_11 C 0 rfl rfl k_3_20 dX5_about_104 ?_
      refine x_iconst (v := 2) C dX5_about_107 ic_2 ?_
      refine x_iald_c C 4 0 2 rfl rfl dX5_about_108 (by decide) (by decide) ?_
      exact xr_wi C h dX5_about_109
    | 6, _, ej =>
      have ex : a1 = 6 := e_sw (by decide) ej
      rw [if_neg (by rw [ex]; decide), if_neg (by rw [ex]; decide), if_neg (by rw [ex]; decide), if_neg (by rw [ex]; decide), if_neg (by rw [ex]; decide), if_neg (by rw [ex]; decide), if_pos ex] at h
      refine x_aload_n C dX5_about_110 rfl 0 rfl ?_
      refine fg_5_11 C 0 rfl rfl k_3_20 dX5_about_111 ?_
      refine x_iconst (v := 3) C dX5_about_114 ic_3 ?_
      refine x_iald_c C 4 0 3 rfl rfl dX5_about_115 (by decide) (by decide) ?_
      exact xr_wi C h dX5_about_116
    | 7, _, ej =>
      have ex : a1 = 7 := e_sw (by decide) ej
      rw [if_neg (by rw [ex]; decide), if_neg (by rw [ex]; decide), if_neg (by rw [ex]; decide), if_neg (by rw [ex]; decide), if_neg (by rw [ex]; decide), if_neg (by rw [ex]; decide), if_neg (by rw [ex]; decide), if_pos ex] at h
      refine x_aload_n C dX5_about_117 rfl 0 rfl ?_
      refine fg_5_11 C 0 rfl rfl k_3_20 dX5_about_118 ?_
      refine x_iconst (v := 4) C dX5_about_121 ic_4 ?_
      refine x_iald_c C 4 0 4 rfl rfl dX5_about_122 (by decide) (by decide) ?_
      exact xr_wi C h dX5_about_123
    | 8, _, ej =>
      have ex : a1 = 8 := e_sw (by decide) ej
      rw [if_neg (by rw [ex]; decide), if_neg (by rw [ex]; decide), if_neg (by rw [ex]; decide), if_neg (by rw [ex]; decide), if_neg (by rw [ex]; decide), if_neg (by rw [ex]; decide), if_neg (by rw [ex]; decide), if_neg (by rw [ex]; decide), if_pos ex] at h
      refine x_aload_n C dX5_about_124 rfl 0 rfl ?_
      refine fg_5_11 C 0 rfl rfl k_3_20 dX5_about_125 ?_
      refine x_iconst (v := 5) C dX5_about_128 ic_5 ?_
      refine x_iald_c C 4 0 5 rfl rfl dX5_about_129 (by decide) (by decide) ?_
      exact xr_wi C h dX5_about_130
    | 9, _, ej =>
      have ex : a1 = 9 := e_sw (by decide) ej
      rw [if_neg (by rw [ex]; decide), if_neg (by rw [ex]; decide), if_neg (by rw [ex]; decide), if_neg (by rw [ex]; decide), if_neg (by rw [ex]; decide), if_neg (by rw [ex]; decide), if_neg (by rw [ex]; decide), if_neg (by rw [ex]; decide), if_neg (by rw [ex]; decide), if_pos ex] at h
      refine x_aload_n C dX5_about_131 rfl 0 rfl ?_
      refine fg_5_14 C 0 rfl rfl k_3_23 dX5_about_132 ?_
      exact xr_wi C h dX5_about_135
    | 10, _, ej =>
      have ex : a1 = 10 := e_sw (by decide) ej
      rw [if_neg (by rw [ex]; decide), if_neg (by rw [ex]; decide), if_neg (by rw [ex]; decide), if_neg (by rw [ex]; decide), if_neg (by rw [ex]; decide), if_neg (by rw [ex]; decide), if_neg (by rw [ex]; decide), if_neg (by rw [ex]; decide), if_neg (by rw [ex]; decide), if_neg (by rw [ex]; decide), if_pos ex] at h
      refine x_aload_n C dX5_about_136 rfl 0 rfl ?_
      refine fg_5_17 C 0 rfl rfl k_3_26 dX5_about_137 ?_
      exact xr_wi C h dX5_about_140
    | 11, _, ej =>
      have ex : a1 = 11 := e_sw (by decide) ej
      rw [if_neg (by rw [ex]; decide), if_neg (by rw [ex]; decide), if_neg (by rw [ex]; decide), if_neg (by rw [ex]; decide), if_neg (by rw [ex]; decide), if_neg (by rw [ex]; decide), if_neg (by rw [ex]; decide), if_neg (by rw [ex]; decide), if_neg (by rw [ex]; decide), if_neg (by rw [ex]; decide), if_neg (by rw [ex]; decide), if_pos ex] at h
      refine x_aload_n C dX5_about_141 rfl 0 rfl ?_
      refine fg_5_2 C 0 rfl rfl k_3_11 dX5_about_142 ?_
      exact xr_wi C h dX5_about_145
    | j + 12, hj, _ => exact absurd hj (by omega)
  · intro hne
    rw [if_neg (e_sn (j := 0) (by decide) (hne 0 (by decide))), if_neg (e_sn (j := 1) (by decide) (hne 1 (by decide))), if_neg (e_sn (j := 2) (by decide) (hne 2 (by decide))), if_neg (e_sn (j := 3) (by decide) (hne 3 (by decide))), if_neg (e_sn (j := 4) (by decide) (hne 4 (by decide))), if_neg (e_sn (j := 5) (by decide) (hne 5 (by decide))), if_neg (e_sn (j := 6) (by decide) (hne 6 (by decide))), if_neg (e_sn (j := 7) (by decide) (hne 7 (by decide))), if_neg (e_sn (j := 8) (by decide) (hne 8 (by decide))), if_neg (e_sn (j := 9) (by decide) (hne 9 (by decide))), if_neg (e_sn (j := 10) (by decide) (hne 10 (by decide))), if_neg (e_sn (j := 11) (by decide) (hne 11 (by decide)))] at h
    refine x_bipush (v := (-2)) C dX5_about_146 bi_m2 ?_
    exact xr_wi C h dX5_about_148
set_option maxRecDepth 100000 in
set_option maxHeartbeats 4000000 in
theorem tX5_about {l : Launch} {dC : Nat → ClassId} {dI : Nat → Nat → Nat} {cI cZ : ClassId} {ad : Nat → Nat} (hJ : eInj 16 ad) {σ : eSt} {a1 : Int32} {z : Int64} {r : Int32 × eSt} (h : fX5_about σ a1 = some r) : Con l yX5_about cX5_about 2 (some .int) rmX5_about (dC, dI) (yW cI cZ ad) (yA ad) [(cI, .int), (cZ, .boolean)] ExY [.ref (ad 0), .int a1] σ z (some (.int r.1)) r.2 z :=
  x_con (by decide) (yW_D hJ) (ExY_ok ad) (Nat.le_of_ble_eq_true rfl) (fun p e s m args below meth c C => wX5_about_0 hJ C h)
set_option maxRecDepth 100000 in
set_option maxHeartbeats 4000000 in
theorem wX5_sound_87 (hJ : eInj 16 ad) (C : Cx p s m args meth c (dC, dI) (yW cI cZ ad) (yA ad) ExY [(cI, .int), (cZ, .boolean)] cX5_sound 5 RX5 (some .int) yX5_sound) {σ : eSt} {a1 : Int32} {a4 : Int32} {s0 : Int32} {s1 : Int32} {z : Int64} {r : Int32 × eSt} {k51 : Int32 → Int32 → Option (Int32 × eSt)} (hk51 : ∀ (a3 : Int32) (a4 : Int32), k51 a3 a4 = some r → WX p l e rmX5_sound s m args below meth c (MQ below (cQ (dC, dI) (yW cI cZ ad) (yA ad) (some (.int r.1)) r.2 z) args s 0 0 (yA ad)) (dC, dI) (yW cI cZ ad) (yA ad) 5 σ z [(0, .ref (ad 0)), (1, .int a1), (3, .int a3), (4, .int a4)] 51 []) (h : fX5_sound_87 k51 σ a1 a4 s0 s1 = some r) : WX p l e rmX5_sound s m args below meth c (MQ below (cQ (dC, dI) (yW cI cZ ad) (yA ad) (some (.int r.1)) r.2 z) args s 0 0 (yA ad)) (dC, dI) (yW cI cZ ad) (yA ad) 5 σ z [(0, .ref (ad 0)), (1, .int a1), (4, .int a4)] 87 [.int s0, .int s1] := by
  unfold fX5_sound_87 at h
  refine x_ior C dX5_sound_87 ?_
  refine x_istore_n_b C (fun v1 => [(3, .int v1), (0, .ref (ad 0)), (1, .int a1), (4, .int a4)]) dX5_sound_88 rfl (by decide) h (fun _ => rfl) ?_
  intro v1 h
  refine x_iinc_b (j := 3) (w := 1) C (fun v2 => [(4, .int v2), (3, .int v1), (0, .ref (ad 0)), (1, .int a1)]) dX5_sound_89 ic_1 rfl (by decide) h (fun _ => rfl) ?_
  intro v2 h
  refine x_goto (tgt := 51) C dX5_sound_92 (by decide) ?_
  refine x_sub (lv' := [(0, .ref (ad 0)), (1, .int a1), (3, .int v1), (4, .int v2)]) [2, 3, 1, 0] rfl ?_
  exact hk51 _ _ h
set_option maxRecDepth 100000 in
set_option maxHeartbeats 4000000 in
theorem wX5_sound_51 (hJ : eInj 16 ad) (C : Cx p s m args meth c (dC, dI) (yW cI cZ ad) (yA ad) ExY [(cI, .int), (cZ, .boolean)] cX5_sound 5 RX5 (some .int) yX5_sound) {σ : eSt} {a1 : Int32} {z : Int64} {r : Int32 × eSt} : ∀ (n : Nat) (a3 : Int32) (a4 : Int32), lo_2 (bX5_sound_51 σ a1) n a3 a4 = some r → WX p l e rmX5_sound s m args below meth c (MQ below (cQ (dC, dI) (yW cI cZ ad) (yA ad) (some (.int r.1)) r.2 z) args s 0 0 (yA ad)) (dC, dI) (yW cI cZ ad) (yA ad) 5 σ z [(0, .ref (ad 0)), (1, .int a1), (3, .int a3), (4, .int a4)] 51 [] := by
  refine lo_2_ind (P := fun a3 a4 => WX p l e rmX5_sound s m args below meth c (MQ below (cQ (dC, dI) (yW cI cZ ad) (yA ad) (some (.int r.1)) r.2 z) args s 0 0 (yA ad)) (dC, dI) (yW cI cZ ad) (yA ad) 5 σ z [(0, .ref (ad 0)), (1, .int a1), (3, .int a3), (4, .int a4)] 51 []) ?_
  intro k51 hk51 a3 a4 h
  unfold bX5_sound_51 at h
  refine x_iload C dX5_sound_51 3 rfl ?_
  refine x_bipush (v := 10) C dX5_sound_53 bi_10 ?_
  refine x_icmp_ge (tgt := 95) C dX5_sound_55 (by decide) h ?_ ?_
  · intro h
    refine x_iload_n C dX5_sound_95 rfl 2 rfl ?_
    exact xr_wi C h dX5_sound_96
  · intro h
    refine x_iload_n C dX5_sound_58 rfl 2 rfl ?_
    refine x_aload_n C dX5_sound_59 rfl 0 rfl ?_
    refine x_aload_n C dX5_sound_60 rfl 0 rfl ?_
    refine fg_5_11 C 0 rfl rfl k_3_20 dX5_sound_61 ?_
    refine x_iload_n C dX5_sound_64 rfl 1 rfl ?_
    refine x_iload C dX5_sound_65 3 rfl ?_
    refine x_aload_n C dX5_sound_67 rfl 0 rfl ?_
    refine fg_5_11 C 0 rfl rfl k_3_20 dX5_sound_68 ?_
    refine x_iconst (v := 1) C dX5_sound_71 ic_1 ?_
    refine x_iald_c C 4 0 1 rfl rfl dX5_sound_72 (by decide) (by decide) ?_
    obtain ⟨v1, hv, h⟩ := e_bind h
    refine x_callV_i C (ci := 5) 0 [.ref (ad 4), .int a1, .int a4, .int (σ 4 1)] (tX5_hears hJ (Or.inl rfl) hv) k_3_155 k_3_157 k_p_27 k_1_6 k_3_158 hyX5_hears ⟨rfl, rfl⟩ (by decide) rfl rfl rfl rfl (Nat.le_of_ble_eq_true rfl) dX5_sound_73 ?_
    refine x_if_eq (tgt := 86) C dX5_sound_76 (by decide) h ?_ ?_
    · intro h
      refine x_iconst (v := 0) C dX5_sound_86 ic_0 ?_
      refine x_sub (lv' := [(0, .ref (ad 0)), (1, .int a1), (4, .int a4)]) [0, 1, 3] rfl ?_
      exact wX5_sound_87 hJ C hk51 h
    · intro h
      refine x_iconst (v := 1) C dX5_sound_79 ic_1 ?_
      refine x_iload C dX5_sound_80 3 rfl ?_
      refine x_ishl C dX5_sound_82 ?_
      refine x_goto (tgt := 87) C dX5_sound_83 (by decide) ?_
      refine x_sub (lv' := [(0, .ref (ad 0)), (1, .int a1), (4, .int a4)]) [0, 1, 3] rfl ?_
      exact wX5_sound_87 hJ C hk51 h
set_option maxRecDepth 100000 in
set_option maxHeartbeats 4000000 in
theorem wX5_sound_0 (hJ : eInj 16 ad) (C : Cx p s m args meth c (dC, dI) (yW cI cZ ad) (yA ad) ExY [(cI, .int), (cZ, .boolean)] cX5_sound 5 RX5 (some .int) yX5_sound) {σ : eSt} {a1 : Int32} {a2 : Int32} {z : Int64} {r : Int32 × eSt} (h : fX5_sound σ a1 a2 = some r) : WX p l e rmX5_sound s m args below meth c (MQ below (cQ (dC, dI) (yW cI cZ ad) (yA ad) (some (.int r.1)) r.2 z) args s 0 0 (yA ad)) (dC, dI) (yW cI cZ ad) (yA ad) 5 σ z [(0, .ref (ad 0)), (1, .int a1), (2, .int a2)] 0 [] := by
  unfold fX5_sound at h
  refine x_aload_n C dX5_sound_0 rfl 0 rfl ?_
  refine x_iconst (v := 0) C dX5_sound_1 ic_0 ?_
  refine fp_5_0 C 0 rfl (Nat.le_of_ble_eq_true rfl) k_3_9 h rfl dX5_sound_2 ?_
  intro σ1 h
  refine x_aload_n C dX5_sound_5 rfl 0 rfl ?_
  refine x_iload_n C dX5_sound_6 rfl 1 rfl ?_
  obtain ⟨v2, hv, h⟩ := e_bind h
  refine x_callV_i C (ci := 5) 0 [.int a1] (tX5_noSound hJ hv) k_3_150 k_3_152 k_p_26 k_1_6 k_3_153 hyX5_noSound ⟨rfl, rfl⟩ (by decide) rfl rfl rfl rfl (Nat.le_of_ble_eq_true rfl) dX5_sound_7 ?_
  refine x_if_eq (tgt := 15) C dX5_sound_10 (by decide) h ?_ ?_
  · intro h
    refine x_iload_n C dX5_sound_15 rfl 2 rfl ?_
    refine x_i2l C dX5_sound_16 ?_
    refine x_lconst (v := 0) C dX5_sound_17 rfl ?_
    refine x_ldc2 (v := 4) C dX5_sound_18 k_3_154 ?_
    obtain ⟨v3, hv, h⟩ := e_bind h
    refine x_callS_i C [.long (a2.toInt64), .long 0, .long 4] (tX5_in hJ hv) k_3_111 k_3_112 k_1_6 k_3_113 hyX5_in.2 ⟨rfl, rfl⟩ (by decide) rfl rfl (Nat.le_of_ble_eq_true rfl) dX5_sound_21 ?_
    refine x_if_eq (tgt := 38) C dX5_sound_24 (by decide) h ?_ ?_
    · intro h
      refine x_iload_n C dX5_sound_38 rfl 2 rfl ?_
      refine x_iconst (v := 5) C dX5_sound_39 ic_5 ?_
      refine x_icmp_eq (tgt := 46) C dX5_sound_40 (by decide) h ?_ ?_
      · intro h
        refine x_iconst (v := 0) C dX5_sound_46 ic_0 ?_
        refine x_istore_n (lv' := [(3, .int 0), (0, .ref (ad 0)), (1, .int a1), (2, .int a2)]) C dX5_sound_47 rfl (by decide) rfl ?_
        refine x_iconst (v := 0) C dX5_sound_48 ic_0 ?_
        refine x_istore (lv' := [(4, .int 0), (3, .int 0), (0, .ref (ad 0)), (1, .int a1), (2, .int a2)]) C dX5_sound_49 (by decide) rfl ?_
        refine x_sub (lv' := [(0, .ref (ad 0)), (1, .int a1), (3, .int 0), (4, .int 0)]) [2, 3, 1, 0] rfl ?_
        exact wX5_sound_51 hJ C _ _ _ h
      · intro h
        refine x_bipush (v := (-2)) C dX5_sound_43 bi_m2 ?_
        exact xr_wi C h dX5_sound_45
    · intro h
      refine x_aload_n C dX5_sound_27 rfl 0 rfl ?_
      refine fg_5_5 C 0 rfl rfl k_3_14 dX5_sound_28 ?_
      refine x_iconst (v := 5) C dX5_sound_31 ic_5 ?_
      refine x_iload_n C dX5_sound_32 rfl 1 rfl ?_
      refine x_imul C dX5_sound_33 ?_
      refine x_iload_n C dX5_sound_34 rfl 2 rfl ?_
      refine x_iadd C dX5_sound_35 ?_
      refine x_iald C 2 0 rfl rfl dX5_sound_36 h ?_
      intro h
      exact xr_wi C h dX5_sound_37
  · intro h
    refine x_iconst (v := (-1)) C dX5_sound_13 ic_m1 ?_
    exact xr_wi C h dX5_sound_14
set_option maxRecDepth 100000 in
set_option maxHeartbeats 4000000 in
theorem tX5_sound {l : Launch} {dC : Nat → ClassId} {dI : Nat → Nat → Nat} {cI cZ : ClassId} {ad : Nat → Nat} (hJ : eInj 16 ad) {σ : eSt} {a1 : Int32} {a2 : Int32} {z : Int64} {r : Int32 × eSt} (h : fX5_sound σ a1 a2 = some r) : Con l yX5_sound cX5_sound 5 (some .int) rmX5_sound (dC, dI) (yW cI cZ ad) (yA ad) [(cI, .int), (cZ, .boolean)] ExY [.ref (ad 0), .int a1, .int a2] σ z (some (.int r.1)) r.2 z :=
  x_con (by decide) (yW_D hJ) (ExY_ok ad) (Nat.le_of_ble_eq_true rfl) (fun p e s m args below meth c C => wX5_sound_0 hJ C h)
set_option maxRecDepth 100000 in
set_option maxHeartbeats 4000000 in
theorem wX5_note_50 (hJ : eInj 16 ad) (C : Cx p s m args meth c (dC, dI) (yW cI cZ ad) (yA ad) ExY [(cI, .int), (cZ, .boolean)] cX5_note 2 RX5 none yX5_note) {z : Int64} {r : eSt} : ∀ (n : Nat) (a1 : Int32) (σ : eSt), lo_2 (bX5_note_50) n a1 σ = some r → WX p l e rmX5_note s m args below meth c (MQ below (cQ (dC, dI) (yW cI cZ ad) (yA ad) none r z) args s 0 0 (yA ad)) (dC, dI) (yW cI cZ ad) (yA ad) 2 σ z [(0, .ref (ad 0)), (1, .int a1)] 50 [] := by
  refine lo_2_ind (P := fun a1 σ => WX p l e rmX5_note s m args below meth c (MQ below (cQ (dC, dI) (yW cI cZ ad) (yA ad) none r z) args s 0 0 (yA ad)) (dC, dI) (yW cI cZ ad) (yA ad) 2 σ z [(0, .ref (ad 0)), (1, .int a1)] 50 []) ?_
  intro k50 hk50 a1 σ h
  unfold bX5_note_50 at h
  refine x_iload_n C dX5_note_50 rfl 1 rfl ?_
  refine x_bipush (v := 8) C dX5_note_51 bi_8 ?_
  refine x_icmp_ge (tgt := 82) C dX5_note_53 (by decide) h ?_ ?_
  · intro h
    refine x_aload_n C dX5_note_82 rfl 0 rfl ?_
    refine x_dup C dX5_note_83 rfl ?_
    refine fg_5_14 C 0 rfl rfl k_3_23 dX5_note_84 ?_
    refine x_iconst (v := 1) C dX5_note_87 ic_1 ?_
    refine x_iadd C dX5_note_88 ?_
    refine fp_5_14 C 0 rfl (Nat.le_of_ble_eq_true rfl) k_3_23 h rfl dX5_note_89 ?_
    intro σ1 h
    exact xr_wv C h dX5_note_92
  · intro h
    refine x_aload_n C dX5_note_56 rfl 0 rfl ?_
    refine fg_5_13 C 0 rfl rfl k_3_22 dX5_note_57 ?_
    refine x_bipush (v := 8) C dX5_note_60 bi_8 ?_
    refine x_aload_n C dX5_note_62 rfl 0 rfl ?_
    refine fg_5_14 C 0 rfl rfl k_3_23 dX5_note_63 ?_
    refine x_imul C dX5_note_66 ?_
    refine x_iload_n C dX5_note_67 rfl 1 rfl ?_
    refine x_iadd C dX5_note_68 ?_
    refine x_aload_n C dX5_note_69 rfl 0 rfl ?_
    refine fg_5_11 C 0 rfl rfl k_3_20 dX5_note_70 ?_
    refine x_iload_n C dX5_note_73 rfl 1 rfl ?_
    refine x_iald C 4 0 rfl rfl dX5_note_74 h ?_
    intro h
    refine x_iast C 6 0 rfl rfl dX5_note_75 h rfl ?_
    intro σ2 h
    refine x_iinc_b (j := 1) (w := 1) C (fun v3 => [(1, .int v3), (0, .ref (ad 0))]) dX5_note_76 ic_1 rfl (by decide) h (fun _ => rfl) ?_
    intro v3 h
    refine x_goto (tgt := 50) C dX5_note_79 (by decide) ?_
    refine x_sub (lv' := [(0, .ref (ad 0)), (1, .int v3)]) [1, 0] rfl ?_
    exact hk50 _ _ h
set_option maxRecDepth 100000 in
set_option maxHeartbeats 4000000 in
theorem wX5_note_48 (hJ : eInj 16 ad) (C : Cx p s m args meth c (dC, dI) (yW cI cZ ad) (yA ad) ExY [(cI, .int), (cZ, .boolean)] cX5_note 2 RX5 none yX5_note) {σ : eSt} {z : Int64} {r : eSt} (h : fX5_note_48 σ = some r) : WX p l e rmX5_note s m args below meth c (MQ below (cQ (dC, dI) (yW cI cZ ad) (yA ad) none r z) args s 0 0 (yA ad)) (dC, dI) (yW cI cZ ad) (yA ad) 2 σ z [(0, .ref (ad 0))] 48 [] := by
  unfold fX5_note_48 at h
  refine x_iconst (v := 0) C dX5_note_48 ic_0 ?_
  refine x_istore_n (lv' := [(1, .int 0), (0, .ref (ad 0))]) C dX5_note_49 rfl (by decide) rfl ?_
  refine x_sub (lv' := [(0, .ref (ad 0)), (1, .int 0)]) [1, 0] rfl ?_
  exact wX5_note_50 hJ C _ _ _ h
set_option maxRecDepth 100000 in
set_option maxHeartbeats 4000000 in
theorem wX5_note_11 (hJ : eInj 16 ad) (C : Cx p s m args meth c (dC, dI) (yW cI cZ ad) (yA ad) ExY [(cI, .int), (cZ, .boolean)] cX5_note 2 RX5 none yX5_note) {z : Int64} {r : eSt} : ∀ (n : Nat) (a1 : Int32) (σ : eSt), lo_2 (bX5_note_11) n a1 σ = some r → WX p l e rmX5_note s m args below meth c (MQ below (cQ (dC, dI) (yW cI cZ ad) (yA ad) none r z) args s 0 0 (yA ad)) (dC, dI) (yW cI cZ ad) (yA ad) 2 σ z [(0, .ref (ad 0)), (1, .int a1)] 11 [] := by
  refine lo_2_ind (P := fun a1 σ => WX p l e rmX5_note s m args below meth c (MQ below (cQ (dC, dI) (yW cI cZ ad) (yA ad) none r z) args s 0 0 (yA ad)) (dC, dI) (yW cI cZ ad) (yA ad) 2 σ z [(0, .ref (ad 0)), (1, .int a1)] 11 []) ?_
  intro k11 hk11 a1 σ h
  unfold bX5_note_11 at h
  refine x_iload_n C dX5_note_11 rfl 1 rfl ?_
  refine x_bipush (v := 104) C dX5_note_12 bi_104 ?_
  refine x_icmp_ge (tgt := 38) C dX5_note_14 (by decide) h ?_ ?_
  · intro h
    refine x_aload_n C dX5_note_38 rfl 0 rfl ?_
    refine x_dup C dX5_note_39 rfl ?_
    refine fg_5_14 C 0 rfl rfl k_3_23 dX5_note_40 ?_
    refine x_iconst (v := 1) C dX5_note_43 ic_1 ?_
    refine x_isub C dX5_note_44 ?_
    refine fp_5_14 C 0 rfl (Nat.le_of_ble_eq_true rfl) k_3_23 h rfl dX5_note_45 ?_
    intro σ1 h
    refine x_sub (lv' := [(0, .ref (ad 0))]) [0] rfl ?_
    exact wX5_note_48 hJ C h
  · intro h
    refine x_aload_n C dX5_note_17 rfl 0 rfl ?_
    refine fg_5_13 C 0 rfl rfl k_3_22 dX5_note_18 ?_
    refine x_iload_n C dX5_note_21 rfl 1 rfl ?_
    refine x_aload_n C dX5_note_22 rfl 0 rfl ?_
    refine fg_5_13 C 0 rfl rfl k_3_22 dX5_note_23 ?_
    refine x_iload_n C dX5_note_26 rfl 1 rfl ?_
    refine x_bipush (v := 8) C dX5_note_27 bi_8 ?_
    refine x_iadd C dX5_note_29 ?_
    refine x_iald C 6 0 rfl rfl dX5_note_30 h ?_
    intro h
    refine x_iast C 6 0 rfl rfl dX5_note_31 h rfl ?_
    intro σ2 h
    refine x_iinc_b (j := 1) (w := 1) C (fun v3 => [(1, .int v3), (0, .ref (ad 0))]) dX5_note_32 ic_1 rfl (by decide) h (fun _ => rfl) ?_
    intro v3 h
    refine x_goto (tgt := 11) C dX5_note_35 (by decide) ?_
    refine x_sub (lv' := [(0, .ref (ad 0)), (1, .int v3)]) [1, 0] rfl ?_
    exact hk11 _ _ h
set_option maxRecDepth 100000 in
set_option maxHeartbeats 4000000 in
theorem wX5_note_0 (hJ : eInj 16 ad) (C : Cx p s m args meth c (dC, dI) (yW cI cZ ad) (yA ad) ExY [(cI, .int), (cZ, .boolean)] cX5_note 2 RX5 none yX5_note) {σ : eSt} {z : Int64} {r : eSt} (h : fX5_note σ = some r) : WX p l e rmX5_note s m args below meth c (MQ below (cQ (dC, dI) (yW cI cZ ad) (yA ad) none r z) args s 0 0 (yA ad)) (dC, dI) (yW cI cZ ad) (yA ad) 2 σ z [(0, .ref (ad 0))] 0 [] := by
  unfold fX5_note at h
  refine x_aload_n C dX5_note_0 rfl 0 rfl ?_
  refine fg_5_14 C 0 rfl rfl k_3_23 dX5_note_1 ?_
  refine x_bipush (v := 14) C dX5_note_4 bi_14 ?_
  refine x_icmp_ne (tgt := 48) C dX5_note_6 (by decide) h ?_ ?_
  · intro h
    exact wX5_note_48 hJ C h
  · intro h
    refine x_iconst (v := 0) C dX5_note_9 ic_0 ?_
    refine x_istore_n (lv' := [(1, .int 0), (0, .ref (ad 0))]) C dX5_note_10 rfl (by decide) rfl ?_
    refine x_sub (lv' := [(0, .ref (ad 0)), (1, .int 0)]) [1, 0] rfl ?_
    exact wX5_note_11 hJ C _ _ _ h
set_option maxRecDepth 100000 in
set_option maxHeartbeats 4000000 in
theorem tX5_note {l : Launch} {dC : Nat → ClassId} {dI : Nat → Nat → Nat} {cI cZ : ClassId} {ad : Nat → Nat} (hJ : eInj 16 ad) {σ : eSt} {z : Int64} {r : eSt} (h : fX5_note σ = some r) : Con l yX5_note cX5_note 2 none rmX5_note (dC, dI) (yW cI cZ ad) (yA ad) [(cI, .int), (cZ, .boolean)] ExY [.ref (ad 0)] σ z none r z :=
  x_con (by decide) (yW_D hJ) (ExY_ok ad) (Nat.le_of_ble_eq_true rfl) (fun p e s m args below meth c C => wX5_note_0 hJ C h)
set_option maxRecDepth 100000 in
set_option maxHeartbeats 4000000 in
theorem wX5_row_36 (hJ : eInj 16 ad) (C : Cx p s m args meth c (dC, dI) (yW cI cZ ad) (yA ad) ExY [(cI, .int), (cZ, .boolean)] cX5_row 3 RX5 (some .int) yX5_row) {σ : eSt} {s0 : Int32} {s1 : Int32} {z : Int64} {r : Int32 × eSt} (h : fX5_row_36 σ s0 s1 = some r) : WX p l e rmX5_row s m args below meth c (MQ below (cQ (dC, dI) (yW cI cZ ad) (yA ad) (some (.int r.1)) r.2 z) args s 0 0 (yA ad)) (dC, dI) (yW cI cZ ad) (yA ad) 3 σ z [(0, .ref (ad 0))] 36 [.int s0, .int s1] := by
  unfold fX5_row_36 at h
  refine x_iadd C dX5_row_36 ?_
  refine x_istore_n_b C (fun v1 => [(2, .int v1), (0, .ref (ad 0))]) dX5_row_37 rfl (by decide) h (fun _ => rfl) ?_
  intro v1 h
  refine x_iload_n C dX5_row_38 rfl 0 rfl ?_
  obtain ⟨v2, hv, h⟩ := e_bind h
  refine x_callS_i C [.int v1] (tX5_noCell hJ hv) k_3_173 k_3_174 k_1_6 k_3_175 hyX5_noCell.2 ⟨rfl, rfl⟩ (by decide) rfl rfl (Nat.le_of_ble_eq_true rfl) dX5_row_39 ?_
  refine x_if_eq (tgt := 48) C dX5_row_42 (by decide) h ?_ ?_
  · intro h
    refine x_aload_n C dX5_row_48 rfl 1 rfl ?_
    obtain ⟨σ3, hv, h⟩ := e_bind h
    refine x_callV_v C (ci := 5) 0 [] (tX5_note hJ hv) k_3_177 k_3_179 k_p_28 k_1_6 k_3_180 hyX5_note ⟨rfl, rfl⟩ (by decide) rfl rfl rfl rfl (Nat.le_of_ble_eq_true rfl) dX5_row_49 ?_
    refine x_aload_n C dX5_row_52 rfl 1 rfl ?_
    refine fg_5_11 C 0 rfl rfl k_3_20 dX5_row_53 ?_
    refine x_iconst (v := 0) C dX5_row_56 ic_0 ?_
    refine x_iload_n C dX5_row_57 rfl 0 rfl ?_
    refine x_iast_c C 4 0 0 rfl rfl dX5_row_58 (by decide) (by decide) h rfl ?_
    intro σ4 h
    refine x_aload_n C dX5_row_59 rfl 1 rfl ?_
    refine x_aload_n C dX5_row_60 rfl 1 rfl ?_
    refine fg_5_11 C 0 rfl rfl k_3_20 dX5_row_61 ?_
    refine x_iload_n C dX5_row_64 rfl 0 rfl ?_
    refine x_aload_n C dX5_row_65 rfl 1 rfl ?_
    refine fg_5_11 C 0 rfl rfl k_3_20 dX5_row_66 ?_
    refine x_iconst (v := 1) C dX5_row_69 ic_1 ?_
    refine x_iald_c C 4 0 1 rfl rfl dX5_row_70 (by decide) (by decide) ?_
    obtain ⟨v5, hv, h⟩ := e_bind h
    refine x_callV_i C (ci := 5) 0 [.ref (ad 4), .int v1, .int (σ4 4 1)] (tX5_heardAt hJ (Or.inl rfl) hv) k_3_181 k_3_183 k_p_29 k_1_6 k_3_184 hyX5_heardAt ⟨rfl, rfl⟩ (by decide) rfl rfl rfl rfl (Nat.le_of_ble_eq_true rfl) dX5_row_71 ?_
    exact xr_wi C h dX5_row_74
  · intro h
    refine x_bipush (v := (-3)) C dX5_row_45 bi_m3 ?_
    exact xr_wi C h dX5_row_47
set_option maxRecDepth 100000 in
set_option maxHeartbeats 4000000 in
theorem wX5_row_0 (hJ : eInj 16 ad) (C : Cx p s m args meth c (dC, dI) (yW cI cZ ad) (yA ad) ExY [(cI, .int), (cZ, .boolean)] cX5_row 3 RX5 (some .int) yX5_row) {σ : eSt} {a1 : Int32} {z : Int64} {r : Int32 × eSt} (h : fX5_row σ a1 = some r) : WX p l e rmX5_row s m args below meth c (MQ below (cQ (dC, dI) (yW cI cZ ad) (yA ad) (some (.int r.1)) r.2 z) args s 0 0 (yA ad)) (dC, dI) (yW cI cZ ad) (yA ad) 3 σ z [(0, .ref (ad 0)), (1, .int a1)] 0 [] := by
  unfold fX5_row at h
  refine x_aload_n C dX5_row_0 rfl 0 rfl ?_
  refine x_iconst (v := 0) C dX5_row_1 ic_0 ?_
  refine fp_5_0 C 0 rfl (Nat.le_of_ble_eq_true rfl) k_3_9 h rfl dX5_row_2 ?_
  intro σ1 h
  refine x_iload_n C dX5_row_5 rfl 1 rfl ?_
  refine x_i2l C dX5_row_6 ?_
  refine x_lconst (v := 1) C dX5_row_7 rfl ?_
  refine x_ldc2 (v := 2) C dX5_row_8 k_3_172 ?_
  obtain ⟨v2, hv, h⟩ := e_bind h
  refine x_callS_i C [.long (a1.toInt64), .long 1, .long 2] (tX5_in hJ hv) k_3_111 k_3_112 k_1_6 k_3_113 hyX5_in.2 ⟨rfl, rfl⟩ (by decide) rfl rfl (Nat.le_of_ble_eq_true rfl) dX5_row_11 ?_
  refine x_if_ne (tgt := 20) C dX5_row_14 (by decide) h ?_ ?_
  · intro h
    refine x_aload_n C dX5_row_20 rfl 0 rfl ?_
    refine fg_5_11 C 0 rfl rfl k_3_20 dX5_row_21 ?_
    refine x_iconst (v := 0) C dX5_row_24 ic_0 ?_
    refine x_iald_c C 4 0 0 rfl rfl dX5_row_25 (by decide) (by decide) ?_
    refine x_iload_n C dX5_row_26 rfl 1 rfl ?_
    refine x_iconst (v := 1) C dX5_row_27 ic_1 ?_
    refine x_icmp_ne (tgt := 35) C dX5_row_28 (by decide) h ?_ ?_
    · intro h
      refine x_iconst (v := (-1)) C dX5_row_35 ic_m1 ?_
      refine x_sub (lv' := [(0, .ref (ad 0))]) [0] rfl ?_
      exact wX5_row_36 hJ C h
    · intro h
      refine x_iconst (v := 1) C dX5_row_31 ic_1 ?_
      refine x_goto (tgt := 36) C dX5_row_32 (by decide) ?_
      refine x_sub (lv' := [(0, .ref (ad 0))]) [0] rfl ?_
      exact wX5_row_36 hJ C h
  · intro h
    refine x_bipush (v := (-2)) C dX5_row_17 bi_m2 ?_
    exact xr_wi C h dX5_row_19
set_option maxRecDepth 100000 in
set_option maxHeartbeats 4000000 in
theorem tX5_row {l : Launch} {dC : Nat → ClassId} {dI : Nat → Nat → Nat} {cI cZ : ClassId} {ad : Nat → Nat} (hJ : eInj 16 ad) {σ : eSt} {a1 : Int32} {z : Int64} {r : Int32 × eSt} (h : fX5_row σ a1 = some r) : Con l yX5_row cX5_row 3 (some .int) rmX5_row (dC, dI) (yW cI cZ ad) (yA ad) [(cI, .int), (cZ, .boolean)] ExY [.ref (ad 0), .int a1] σ z (some (.int r.1)) r.2 z :=
  x_con (by decide) (yW_D hJ) (ExY_ok ad) (Nat.le_of_ble_eq_true rfl) (fun p e s m args below meth c C => wX5_row_0 hJ C h)
set_option maxRecDepth 100000 in
set_option maxHeartbeats 4000000 in
theorem wX5_hush_0 (hJ : eInj 16 ad) (C : Cx p s m args meth c (dC, dI) (yW cI cZ ad) (yA ad) ExY [(cI, .int), (cZ, .boolean)] cX5_hush 2 RX5 (some .int) yX5_hush) {σ : eSt} {a1 : Int32} {z : Int64} {r : Int32 × eSt} (h : fX5_hush σ a1 = some r) : WX p l e rmX5_hush s m args below meth c (MQ below (cQ (dC, dI) (yW cI cZ ad) (yA ad) (some (.int r.1)) r.2 z) args s 0 0 (yA ad)) (dC, dI) (yW cI cZ ad) (yA ad) 2 σ z [(0, .ref (ad 0)), (1, .int a1)] 0 [] := by
  unfold fX5_hush at h
  refine x_aload_n C dX5_hush_0 rfl 0 rfl ?_
  refine x_iconst (v := 0) C dX5_hush_1 ic_0 ?_
  refine fp_5_0 C 0 rfl (Nat.le_of_ble_eq_true rfl) k_3_9 h rfl dX5_hush_2 ?_
  intro σ1 h
  refine x_aload_n C dX5_hush_5 rfl 0 rfl ?_
  refine x_iload_n C dX5_hush_6 rfl 1 rfl ?_
  obtain ⟨v2, hv, h⟩ := e_bind h
  refine x_callV_i C (ci := 5) 0 [.int a1] (tX5_noSound hJ hv) k_3_150 k_3_152 k_p_26 k_1_6 k_3_153 hyX5_noSound ⟨rfl, rfl⟩ (by decide) rfl rfl rfl rfl (Nat.le_of_ble_eq_true rfl) dX5_hush_7 ?_
  refine x_if_eq (tgt := 15) C dX5_hush_10 (by decide) h ?_ ?_
  · intro h
    refine x_aload_n C dX5_hush_15 rfl 0 rfl ?_
    obtain ⟨σ3, hv, h⟩ := e_bind h
    refine x_callV_v C (ci := 5) 0 [] (tX5_note hJ hv) k_3_177 k_3_179 k_p_28 k_1_6 k_3_180 hyX5_note ⟨rfl, rfl⟩ (by decide) rfl rfl rfl rfl (Nat.le_of_ble_eq_true rfl) dX5_hush_16 ?_
    refine x_aload_n C dX5_hush_19 rfl 0 rfl ?_
    refine fg_5_11 C 0 rfl rfl k_3_20 dX5_hush_20 ?_
    refine x_iconst (v := 2) C dX5_hush_23 ic_2 ?_
    refine x_dup2 C dX5_hush_24 rfl rfl ?_
    refine x_iald_c C 4 0 2 rfl rfl dX5_hush_25 (by decide) (by decide) ?_
    refine x_iconst (v := 1) C dX5_hush_26 ic_1 ?_
    refine x_iload_n C dX5_hush_27 rfl 1 rfl ?_
    refine x_ishl C dX5_hush_28 ?_
    refine x_ixor C dX5_hush_29 ?_
    refine x_iast_c C 4 0 2 rfl rfl dX5_hush_30 (by decide) (by decide) h rfl ?_
    intro σ4 h
    refine x_aload_n C dX5_hush_31 rfl 0 rfl ?_
    refine fg_5_11 C 0 rfl rfl k_3_20 dX5_hush_32 ?_
    refine x_iconst (v := 2) C dX5_hush_35 ic_2 ?_
    refine x_iald_c C 4 0 2 rfl rfl dX5_hush_36 (by decide) (by decide) ?_
    refine x_iload_n C dX5_hush_37 rfl 1 rfl ?_
    refine x_ishr C dX5_hush_38 ?_
    refine x_iconst (v := 1) C dX5_hush_39 ic_1 ?_
    refine x_iand C dX5_hush_40 ?_
    exact xr_wi C h dX5_hush_41
  · intro h
    refine x_iconst (v := (-1)) C dX5_hush_13 ic_m1 ?_
    exact xr_wi C h dX5_hush_14
set_option maxRecDepth 100000 in
set_option maxHeartbeats 4000000 in
theorem tX5_hush {l : Launch} {dC : Nat → ClassId} {dI : Nat → Nat → Nat} {cI cZ : ClassId} {ad : Nat → Nat} (hJ : eInj 16 ad) {σ : eSt} {a1 : Int32} {z : Int64} {r : Int32 × eSt} (h : fX5_hush σ a1 = some r) : Con l yX5_hush cX5_hush 2 (some .int) rmX5_hush (dC, dI) (yW cI cZ ad) (yA ad) [(cI, .int), (cZ, .boolean)] ExY [.ref (ad 0), .int a1] σ z (some (.int r.1)) r.2 z :=
  x_con (by decide) (yW_D hJ) (ExY_ok ad) (Nat.le_of_ble_eq_true rfl) (fun p e s m args below meth c C => wX5_hush_0 hJ C h)
set_option maxRecDepth 100000 in
set_option maxHeartbeats 4000000 in
theorem wX5_hammer_156 (hJ : eInj 16 ad) (C : Cx p s m args meth c (dC, dI) (yW cI cZ ad) (yA ad) ExY [(cI, .int), (cZ, .boolean)] cX5_hammer 4 RX5 (some .int) yX5_hammer) {σ : eSt} {z : Int64} {r : Int32 × eSt} (h : fX5_hammer_156 σ = some r) : WX p l e rmX5_hammer s m args below meth c (MQ below (cQ (dC, dI) (yW cI cZ ad) (yA ad) (some (.int r.1)) r.2 z) args s 0 0 (yA ad)) (dC, dI) (yW cI cZ ad) (yA ad) 4 σ z [(0, .ref (ad 0))] 156 [] := by
  unfold fX5_hammer_156 at h
  refine x_aload_n C dX5_hammer_156 rfl 0 rfl ?_
  refine fg_5_11 C 0 rfl rfl k_3_20 dX5_hammer_157 ?_
  refine x_iconst (v := 3) C dX5_hammer_160 ic_3 ?_
  refine x_iald_c C 4 0 3 rfl rfl dX5_hammer_161 (by decide) (by decide) ?_
  exact xr_wi C h dX5_hammer_162
set_option maxRecDepth 100000 in
set_option maxHeartbeats 4000000 in
theorem wX5_hammer_104 (hJ : eInj 16 ad) (C : Cx p s m args meth c (dC, dI) (yW cI cZ ad) (yA ad) ExY [(cI, .int), (cZ, .boolean)] cX5_hammer 4 RX5 (some .int) yX5_hammer) {σ : eSt} {s0 : Int32} {s1 : Int32} {z : Int64} {r : Int32 × eSt} (h : fX5_hammer_104 σ s0 s1 = some r) : WX p l e rmX5_hammer s m args below meth c (MQ below (cQ (dC, dI) (yW cI cZ ad) (yA ad) (some (.int r.1)) r.2 z) args s 0 0 (yA ad)) (dC, dI) (yW cI cZ ad) (yA ad) 4 σ z [(0, .ref (ad 0))] 104 [.int s0, .int s1, .ref (ad 4)] := by
  unfold fX5_hammer_104 at h
  refine x_iast C 4 0 rfl rfl dX5_hammer_104 h rfl ?_
  intro σ1 h
  refine x_aload_n C dX5_hammer_105 rfl 0 rfl ?_
  refine fg_5_11 C 0 rfl rfl k_3_20 dX5_hammer_106 ?_
  refine x_iconst (v := 5) C dX5_hammer_109 ic_5 ?_
  refine x_bipush (v := (-9)) C dX5_hammer_110 bi_m9 ?_
  refine x_iast_c C 4 0 5 rfl rfl dX5_hammer_112 (by decide) (by decide) h rfl ?_
  intro σ2 h
  refine x_aload_n C dX5_hammer_113 rfl 0 rfl ?_
  refine fg_5_11 C 0 rfl rfl k_3_20 dX5_hammer_114 ?_
  refine x_iconst (v := 3) C dX5_hammer_117 ic_3 ?_
  refine x_dup2 C dX5_hammer_118 rfl rfl ?_
  refine x_iald_c C 4 0 3 rfl rfl dX5_hammer_119 (by decide) (by decide) ?_
  refine x_iconst (v := 1) C dX5_hammer_120 ic_1 ?_
  refine x_isub C dX5_hammer_121 ?_
  refine x_iast_c C 4 0 3 rfl rfl dX5_hammer_122 (by decide) (by decide) h rfl ?_
  intro σ3 h
  refine x_goto (tgt := 156) C dX5_hammer_123 (by decide) ?_
  exact wX5_hammer_156 hJ C h
set_option maxRecDepth 100000 in
set_option maxHeartbeats 4000000 in
theorem wX5_hammer_80 (hJ : eInj 16 ad) (C : Cx p s m args meth c (dC, dI) (yW cI cZ ad) (yA ad) ExY [(cI, .int), (cZ, .boolean)] cX5_hammer 4 RX5 (some .int) yX5_hammer) {σ : eSt} {a2 : Int32} {z : Int64} {r : Int32 × eSt} (h : fX5_hammer_80 σ a2 = some r) : WX p l e rmX5_hammer s m args below meth c (MQ below (cQ (dC, dI) (yW cI cZ ad) (yA ad) (some (.int r.1)) r.2 z) args s 0 0 (yA ad)) (dC, dI) (yW cI cZ ad) (yA ad) 4 σ z [(0, .ref (ad 0)), (2, .int a2)] 80 [] := by
  unfold fX5_hammer_80 at h
  refine x_aload_n C dX5_hammer_80 rfl 0 rfl ?_
  refine fg_5_11 C 0 rfl rfl k_3_20 dX5_hammer_81 ?_
  refine x_iconst (v := 4) C dX5_hammer_84 ic_4 ?_
  refine x_iload_n C dX5_hammer_85 rfl 1 rfl ?_
  refine x_if_eq (tgt := 98) C dX5_hammer_86 (by decide) h ?_ ?_
  · intro h
    refine x_aload_n C dX5_hammer_98 rfl 0 rfl ?_
    refine fg_5_11 C 0 rfl rfl k_3_20 dX5_hammer_99 ?_
    refine x_iconst (v := 4) C dX5_hammer_102 ic_4 ?_
    refine x_iald_c C 4 0 4 rfl rfl dX5_hammer_103 (by decide) (by decide) ?_
    refine x_sub (lv' := [(0, .ref (ad 0))]) [0] rfl ?_
    exact wX5_hammer_104 hJ C h
  · intro h
    refine x_aload_n C dX5_hammer_89 rfl 0 rfl ?_
    refine fg_5_11 C 0 rfl rfl k_3_20 dX5_hammer_90 ?_
    refine x_iconst (v := 5) C dX5_hammer_93 ic_5 ?_
    refine x_iald_c C 4 0 5 rfl rfl dX5_hammer_94 (by decide) (by decide) ?_
    refine x_goto (tgt := 104) C dX5_hammer_95 (by decide) ?_
    refine x_sub (lv' := [(0, .ref (ad 0))]) [0] rfl ?_
    exact wX5_hammer_104 hJ C h
set_option maxRecDepth 100000 in
set_option maxHeartbeats 4000000 in
theorem wX5_hammer_144 (hJ : eInj 16 ad) (C : Cx p s m args meth c (dC, dI) (yW cI cZ ad) (yA ad) ExY [(cI, .int), (cZ, .boolean)] cX5_hammer 4 RX5 (some .int) yX5_hammer) {σ : eSt} {a1 : Int32} {s0 : Int32} {z : Int64} {r : Int32 × eSt} (h : fX5_hammer_144 σ a1 s0 = some r) : WX p l e rmX5_hammer s m args below meth c (MQ below (cQ (dC, dI) (yW cI cZ ad) (yA ad) (some (.int r.1)) r.2 z) args s 0 0 (yA ad)) (dC, dI) (yW cI cZ ad) (yA ad) 4 σ z [(0, .ref (ad 0)), (1, .int a1)] 144 [.int s0, .ref (ad 4)] := by
  unfold fX5_hammer_144 at h
  refine x_iload_n C dX5_hammer_144 rfl 1 rfl ?_
  refine x_iast C 4 0 rfl rfl dX5_hammer_145 h rfl ?_
  intro σ1 h
  refine x_aload_n C dX5_hammer_146 rfl 0 rfl ?_
  refine fg_5_11 C 0 rfl rfl k_3_20 dX5_hammer_147 ?_
  refine x_iconst (v := 3) C dX5_hammer_150 ic_3 ?_
  refine x_dup2 C dX5_hammer_151 rfl rfl ?_
  refine x_iald_c C 4 0 3 rfl rfl dX5_hammer_152 (by decide) (by decide) ?_
  refine x_iconst (v := 1) C dX5_hammer_153 ic_1 ?_
  refine x_iadd C dX5_hammer_154 ?_
  refine x_iast_c C 4 0 3 rfl rfl dX5_hammer_155 (by decide) (by decide) h rfl ?_
  intro σ2 h
  refine x_sub (lv' := [(0, .ref (ad 0))]) [0] rfl ?_
  exact wX5_hammer_156 hJ C h
set_option maxRecDepth 100000 in
set_option maxHeartbeats 4000000 in
theorem wX5_hammer_68 (hJ : eInj 16 ad) (C : Cx p s m args meth c (dC, dI) (yW cI cZ ad) (yA ad) ExY [(cI, .int), (cZ, .boolean)] cX5_hammer 4 RX5 (some .int) yX5_hammer) {σ : eSt} {a1 : Int32} {a2 : Int32} {a3 : Int32} {z : Int64} {r : Int32 × eSt} (h : fX5_hammer_68 σ a1 a2 a3 = some r) : WX p l e rmX5_hammer s m args below meth c (MQ below (cQ (dC, dI) (yW cI cZ ad) (yA ad) (some (.int r.1)) r.2 z) args s 0 0 (yA ad)) (dC, dI) (yW cI cZ ad) (yA ad) 4 σ z [(0, .ref (ad 0)), (1, .int a1), (2, .int a2), (3, .int a3)] 68 [] := by
  unfold fX5_hammer_68 at h
  refine x_aload_n C dX5_hammer_68 rfl 0 rfl ?_
  obtain ⟨σ1, hv, h⟩ := e_bind h
  refine x_callV_v C (ci := 5) 0 [] (tX5_note hJ hv) k_3_177 k_3_179 k_p_28 k_1_6 k_3_180 hyX5_note ⟨rfl, rfl⟩ (by decide) rfl rfl rfl rfl (Nat.le_of_ble_eq_true rfl) dX5_hammer_69 ?_
  refine x_iload_n C dX5_hammer_72 rfl 2 rfl ?_
  refine x_if_ne (tgt := 80) C dX5_hammer_73 (by decide) h ?_ ?_
  · intro h
    refine x_sub (lv' := [(0, .ref (ad 0)), (2, .int a2)]) [0, 2] rfl ?_
    exact wX5_hammer_80 hJ C h
  · intro h
    refine x_iload_n C dX5_hammer_76 rfl 3 rfl ?_
    refine x_if_eq (tgt := 126) C dX5_hammer_77 (by decide) h ?_ ?_
    · intro h
      refine x_aload_n C dX5_hammer_126 rfl 0 rfl ?_
      refine fg_5_11 C 0 rfl rfl k_3_20 dX5_hammer_127 ?_
      refine x_aload_n C dX5_hammer_130 rfl 0 rfl ?_
      refine fg_5_11 C 0 rfl rfl k_3_20 dX5_hammer_131 ?_
      refine x_iconst (v := 3) C dX5_hammer_134 ic_3 ?_
      refine x_iald_c C 4 0 3 rfl rfl dX5_hammer_135 (by decide) (by decide) ?_
      refine x_if_ne (tgt := 143) C dX5_hammer_136 (by decide) h ?_ ?_
      · intro h
        refine x_iconst (v := 5) C dX5_hammer_143 ic_5 ?_
        refine x_sub (lv' := [(0, .ref (ad 0)), (1, .int a1)]) [0, 1] rfl ?_
        exact wX5_hammer_144 hJ C h
      · intro h
        refine x_iconst (v := 4) C dX5_hammer_139 ic_4 ?_
        refine x_goto (tgt := 144) C dX5_hammer_140 (by decide) ?_
        refine x_sub (lv' := [(0, .ref (ad 0)), (1, .int a1)]) [0, 1] rfl ?_
        exact wX5_hammer_144 hJ C h
    · intro h
      refine x_sub (lv' := [(0, .ref (ad 0)), (2, .int a2)]) [0, 2] rfl ?_
      exact wX5_hammer_80 hJ C h
set_option maxRecDepth 100000 in
set_option maxHeartbeats 4000000 in
theorem wX5_hammer_46 (hJ : eInj 16 ad) (C : Cx p s m args meth c (dC, dI) (yW cI cZ ad) (yA ad) ExY [(cI, .int), (cZ, .boolean)] cX5_hammer 4 RX5 (some .int) yX5_hammer) {σ : eSt} {a1 : Int32} {a2 : Int32} {s0 : Int32} {z : Int64} {r : Int32 × eSt} (h : fX5_hammer_46 σ a1 a2 s0 = some r) : WX p l e rmX5_hammer s m args below meth c (MQ below (cQ (dC, dI) (yW cI cZ ad) (yA ad) (some (.int r.1)) r.2 z) args s 0 0 (yA ad)) (dC, dI) (yW cI cZ ad) (yA ad) 4 σ z [(0, .ref (ad 0)), (1, .int a1), (2, .int a2)] 46 [.int s0] := by
  unfold fX5_hammer_46 at h
  refine x_istore_n (lv' := [(3, .int s0), (0, .ref (ad 0)), (1, .int a1), (2, .int a2)]) C dX5_hammer_46 rfl (by decide) rfl ?_
  refine x_iload_n C dX5_hammer_47 rfl 3 rfl ?_
  refine x_if_ne (tgt := 68) C dX5_hammer_48 (by decide) h ?_ ?_
  · intro h
    refine x_sub (lv' := [(0, .ref (ad 0)), (1, .int a1), (2, .int a2), (3, .int s0)]) [1, 2, 3, 0] rfl ?_
    exact wX5_hammer_68 hJ C h
  · intro h
    refine x_iload_n C dX5_hammer_51 rfl 0 rfl ?_
    refine x_if_ne (tgt := 68) C dX5_hammer_52 (by decide) h ?_ ?_
    · intro h
      refine x_sub (lv' := [(0, .ref (ad 0)), (1, .int a1), (2, .int a2), (3, .int s0)]) [1, 2, 3, 0] rfl ?_
      exact wX5_hammer_68 hJ C h
    · intro h
      refine x_aload_n C dX5_hammer_55 rfl 1 rfl ?_
      refine fg_5_11 C 0 rfl rfl k_3_20 dX5_hammer_56 ?_
      refine x_iconst (v := 3) C dX5_hammer_59 ic_3 ?_
      refine x_iald_c C 4 0 3 rfl rfl dX5_hammer_60 (by decide) (by decide) ?_
      refine x_iconst (v := 2) C dX5_hammer_61 ic_2 ?_
      refine x_icmp_ne (tgt := 68) C dX5_hammer_62 (by decide) h ?_ ?_
      · intro h
        refine x_sub (lv' := [(0, .ref (ad 0)), (1, .int a1), (2, .int a2), (3, .int s0)]) [1, 2, 3, 0] rfl ?_
        exact wX5_hammer_68 hJ C h
      · intro h
        refine x_bipush (v := (-4)) C dX5_hammer_65 bi_m4 ?_
        exact xr_wi C h dX5_hammer_67
set_option maxRecDepth 100000 in
set_option maxHeartbeats 4000000 in
theorem wX5_hammer_30 (hJ : eInj 16 ad) (C : Cx p s m args meth c (dC, dI) (yW cI cZ ad) (yA ad) ExY [(cI, .int), (cZ, .boolean)] cX5_hammer 4 RX5 (some .int) yX5_hammer) {σ : eSt} {a1 : Int32} {s0 : Int32} {z : Int64} {r : Int32 × eSt} (h : fX5_hammer_30 σ a1 s0 = some r) : WX p l e rmX5_hammer s m args below meth c (MQ below (cQ (dC, dI) (yW cI cZ ad) (yA ad) (some (.int r.1)) r.2 z) args s 0 0 (yA ad)) (dC, dI) (yW cI cZ ad) (yA ad) 4 σ z [(0, .ref (ad 0)), (1, .int a1)] 30 [.int s0] := by
  unfold fX5_hammer_30 at h
  refine x_istore_n (lv' := [(2, .int s0), (0, .ref (ad 0)), (1, .int a1)]) C dX5_hammer_30 rfl (by decide) rfl ?_
  refine x_aload_n C dX5_hammer_31 rfl 1 rfl ?_
  refine fg_5_11 C 0 rfl rfl k_3_20 dX5_hammer_32 ?_
  refine x_iconst (v := 5) C dX5_hammer_35 ic_5 ?_
  refine x_iald_c C 4 0 5 rfl rfl dX5_hammer_36 (by decide) (by decide) ?_
  refine x_iload_n C dX5_hammer_37 rfl 2 rfl ?_
  refine x_icmp_ne (tgt := 45) C dX5_hammer_38 (by decide) h ?_ ?_
  · intro h
    refine x_iconst (v := 0) C dX5_hammer_45 ic_0 ?_
    refine x_sub (lv' := [(0, .ref (ad 0)), (1, .int a1), (2, .int s0)]) [1, 2, 0] rfl ?_
    exact wX5_hammer_46 hJ C h
  · intro h
    refine x_iconst (v := 1) C dX5_hammer_41 ic_1 ?_
    refine x_goto (tgt := 46) C dX5_hammer_42 (by decide) ?_
    refine x_sub (lv' := [(0, .ref (ad 0)), (1, .int a1), (2, .int s0)]) [1, 2, 0] rfl ?_
    exact wX5_hammer_46 hJ C h
set_option maxRecDepth 100000 in
set_option maxHeartbeats 4000000 in
theorem wX5_hammer_0 (hJ : eInj 16 ad) (C : Cx p s m args meth c (dC, dI) (yW cI cZ ad) (yA ad) ExY [(cI, .int), (cZ, .boolean)] cX5_hammer 4 RX5 (some .int) yX5_hammer) {σ : eSt} {a1 : Int32} {z : Int64} {r : Int32 × eSt} (h : fX5_hammer σ a1 = some r) : WX p l e rmX5_hammer s m args below meth c (MQ below (cQ (dC, dI) (yW cI cZ ad) (yA ad) (some (.int r.1)) r.2 z) args s 0 0 (yA ad)) (dC, dI) (yW cI cZ ad) (yA ad) 4 σ z [(0, .ref (ad 0)), (1, .int a1)] 0 [] := by
  unfold fX5_hammer at h
  refine x_aload_n C dX5_hammer_0 rfl 0 rfl ?_
  refine x_iconst (v := 0) C dX5_hammer_1 ic_0 ?_
  refine fp_5_0 C 0 rfl (Nat.le_of_ble_eq_true rfl) k_3_9 h rfl dX5_hammer_2 ?_
  intro σ1 h
  refine x_iload_n C dX5_hammer_5 rfl 1 rfl ?_
  obtain ⟨v2, hv, h⟩ := e_bind h
  refine x_callS_i C [.int a1] (tX5_noCell hJ hv) k_3_173 k_3_174 k_1_6 k_3_175 hyX5_noCell.2 ⟨rfl, rfl⟩ (by decide) rfl rfl (Nat.le_of_ble_eq_true rfl) dX5_hammer_6 ?_
  refine x_if_eq (tgt := 15) C dX5_hammer_9 (by decide) h ?_ ?_
  · intro h
    refine x_aload_n C dX5_hammer_15 rfl 0 rfl ?_
    refine fg_5_11 C 0 rfl rfl k_3_20 dX5_hammer_16 ?_
    refine x_iconst (v := 4) C dX5_hammer_19 ic_4 ?_
    refine x_iald_c C 4 0 4 rfl rfl dX5_hammer_20 (by decide) (by decide) ?_
    refine x_iload_n C dX5_hammer_21 rfl 1 rfl ?_
    refine x_icmp_ne (tgt := 29) C dX5_hammer_22 (by decide) h ?_ ?_
    · intro h
      refine x_iconst (v := 0) C dX5_hammer_29 ic_0 ?_
      exact wX5_hammer_30 hJ C h
    · intro h
      refine x_iconst (v := 1) C dX5_hammer_25 ic_1 ?_
      refine x_goto (tgt := 30) C dX5_hammer_26 (by decide) ?_
      exact wX5_hammer_30 hJ C h
  · intro h
    refine x_bipush (v := (-2)) C dX5_hammer_12 bi_m2 ?_
    exact xr_wi C h dX5_hammer_14
set_option maxRecDepth 100000 in
set_option maxHeartbeats 4000000 in
theorem tX5_hammer {l : Launch} {dC : Nat → ClassId} {dI : Nat → Nat → Nat} {cI cZ : ClassId} {ad : Nat → Nat} (hJ : eInj 16 ad) {σ : eSt} {a1 : Int32} {z : Int64} {r : Int32 × eSt} (h : fX5_hammer σ a1 = some r) : Con l yX5_hammer cX5_hammer 4 (some .int) rmX5_hammer (dC, dI) (yW cI cZ ad) (yA ad) [(cI, .int), (cZ, .boolean)] ExY [.ref (ad 0), .int a1] σ z (some (.int r.1)) r.2 z :=
  x_con (by decide) (yW_D hJ) (ExY_ok ad) (Nat.le_of_ble_eq_true rfl) (fun p e s m args below meth c C => wX5_hammer_0 hJ C h)
set_option maxRecDepth 100000 in
set_option maxHeartbeats 4000000 in
theorem wX5_change_0 (hJ : eInj 16 ad) (C : Cx p s m args meth c (dC, dI) (yW cI cZ ad) (yA ad) ExY [(cI, .int), (cZ, .boolean)] cX5_change 4 RX5 (some .int) yX5_change) {σ : eSt} {a1 : Int32} {a2 : Int32} {z : Int64} {r : Int32 × eSt} (h : fX5_change σ a1 a2 = some r) : WX p l e rmX5_change s m args below meth c (MQ below (cQ (dC, dI) (yW cI cZ ad) (yA ad) (some (.int r.1)) r.2 z) args s 0 0 (yA ad)) (dC, dI) (yW cI cZ ad) (yA ad) 4 σ z [(0, .ref (ad 0)), (1, .int a1), (2, .int a2)] 0 [] := by
  unfold fX5_change at h
  refine x_aload_n C dX5_change_0 rfl 0 rfl ?_
  refine x_iconst (v := 0) C dX5_change_1 ic_0 ?_
  refine fp_5_0 C 0 rfl (Nat.le_of_ble_eq_true rfl) k_3_9 h rfl dX5_change_2 ?_
  intro σ1 h
  refine x_iload_n C dX5_change_5 rfl 1 rfl ?_
  refine x_i2l C dX5_change_6 ?_
  refine x_lconst (v := 0) C dX5_change_7 rfl ?_
  refine x_ldc2 (v := 4) C dX5_change_8 k_3_154 ?_
  obtain ⟨v2, hv, h⟩ := e_bind h
  refine x_callS_i C [.long (a1.toInt64), .long 0, .long 4] (tX5_in hJ hv) k_3_111 k_3_112 k_1_6 k_3_113 hyX5_in.2 ⟨rfl, rfl⟩ (by decide) rfl rfl (Nat.le_of_ble_eq_true rfl) dX5_change_11 ?_
  refine x_if_eq (tgt := 29) C dX5_change_14 (by decide) h ?_ ?_
  · intro h
    refine x_bipush (v := (-2)) C dX5_change_29 bi_m2 ?_
    exact xr_wi C h dX5_change_31
  · intro h
    refine x_iload_n C dX5_change_17 rfl 2 rfl ?_
    refine x_i2l C dX5_change_18 ?_
    refine x_lconst (v := 0) C dX5_change_19 rfl ?_
    refine x_ldc2 (v := 2) C dX5_change_20 k_3_172 ?_
    obtain ⟨v3, hv, h⟩ := e_bind h
    refine x_callS_i C [.long (a2.toInt64), .long 0, .long 2] (tX5_in hJ hv) k_3_111 k_3_112 k_1_6 k_3_113 hyX5_in.2 ⟨rfl, rfl⟩ (by decide) rfl rfl (Nat.le_of_ble_eq_true rfl) dX5_change_23 ?_
    refine x_if_ne (tgt := 32) C dX5_change_26 (by decide) h ?_ ?_
    · intro h
      refine x_bipush (v := 10) C dX5_change_32 bi_10 ?_
      refine x_aload_n C dX5_change_34 rfl 0 rfl ?_
      refine fg_5_11 C 0 rfl rfl k_3_20 dX5_change_35 ?_
      refine x_bipush (v := 6) C dX5_change_38 bi_6 ?_
      refine x_iald_c C 4 0 6 rfl rfl dX5_change_40 (by decide) (by decide) ?_
      refine x_imul C dX5_change_41 ?_
      refine x_aload_n C dX5_change_42 rfl 0 rfl ?_
      refine fg_5_11 C 0 rfl rfl k_3_20 dX5_change_43 ?_
      refine x_bipush (v := 7) C dX5_change_46 bi_7 ?_
      refine x_iald_c C 4 0 7 rfl rfl dX5_change_48 (by decide) (by decide) ?_
      refine x_iadd C dX5_change_49 ?_
      refine x_istore_n_b C (fun v4 => [(3, .int v4), (0, .ref (ad 0)), (1, .int a1), (2, .int a2)]) dX5_change_50 rfl (by decide) h (fun _ => rfl) ?_
      intro v4 h
      refine x_iload_n C dX5_change_51 rfl 0 rfl ?_
      refine x_bipush (v := 10) C dX5_change_52 bi_10 ?_
      refine x_iload_n C dX5_change_54 rfl 2 rfl ?_
      refine x_imul C dX5_change_55 ?_
      refine x_iload_n C dX5_change_56 rfl 3 rfl ?_
      refine x_iadd C dX5_change_57 ?_
      refine x_icmp_ne (tgt := 64) C dX5_change_58 (by decide) h ?_ ?_
      · intro h
        refine x_aload_n C dX5_change_64 rfl 1 rfl ?_
        obtain ⟨σ5, hv, h⟩ := e_bind h
        refine x_callV_v C (ci := 5) 0 [] (tX5_note hJ hv) k_3_177 k_3_179 k_p_28 k_1_6 k_3_180 hyX5_note ⟨rfl, rfl⟩ (by decide) rfl rfl rfl rfl (Nat.le_of_ble_eq_true rfl) dX5_change_65 ?_
        refine x_aload_n C dX5_change_68 rfl 1 rfl ?_
        refine fg_5_11 C 0 rfl rfl k_3_20 dX5_change_69 ?_
        refine x_bipush (v := 6) C dX5_change_72 bi_6 ?_
        refine x_iload_n C dX5_change_74 rfl 2 rfl ?_
        refine x_iast_c C 4 0 6 rfl rfl dX5_change_75 (by decide) (by decide) h rfl ?_
        intro σ6 h
        refine x_aload_n C dX5_change_76 rfl 1 rfl ?_
        refine fg_5_11 C 0 rfl rfl k_3_20 dX5_change_77 ?_
        refine x_bipush (v := 7) C dX5_change_80 bi_7 ?_
        refine x_iload_n C dX5_change_82 rfl 3 rfl ?_
        refine x_iast_c C 4 0 7 rfl rfl dX5_change_83 (by decide) (by decide) h rfl ?_
        intro σ7 h
        refine x_iload_n C dX5_change_84 rfl 0 rfl ?_
        exact xr_wi C h dX5_change_85
      · intro h
        refine x_bipush (v := (-3)) C dX5_change_61 bi_m3 ?_
        exact xr_wi C h dX5_change_63
    · intro h
      refine x_bipush (v := (-2)) C dX5_change_29 bi_m2 ?_
      exact xr_wi C h dX5_change_31
set_option maxRecDepth 100000 in
set_option maxHeartbeats 4000000 in
theorem tX5_change {l : Launch} {dC : Nat → ClassId} {dI : Nat → Nat → Nat} {cI cZ : ClassId} {ad : Nat → Nat} (hJ : eInj 16 ad) {σ : eSt} {a1 : Int32} {a2 : Int32} {z : Int64} {r : Int32 × eSt} (h : fX5_change σ a1 a2 = some r) : Con l yX5_change cX5_change 4 (some .int) rmX5_change (dC, dI) (yW cI cZ ad) (yA ad) [(cI, .int), (cZ, .boolean)] ExY [.ref (ad 0), .int a1, .int a2] σ z (some (.int r.1)) r.2 z :=
  x_con (by decide) (yW_D hJ) (ExY_ok ad) (Nat.le_of_ble_eq_true rfl) (fun p e s m args below meth c C => wX5_change_0 hJ C h)
end WK

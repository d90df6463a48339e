section WK
variable {p : Program} {l : Launch} {e : Env} {s : State} {m : MethodId} {args : Array Value} {below : List Frame} {meth : Method} {c : Code} {dC : Nat → ClassId} {dI : Nat → Nat → Nat} {cI cZ : ClassId} {ad : Nat → Nat}
set_option maxRecDepth 100000 in
set_option maxHeartbeats 4000000 in
theorem wX5_seed_0 (hJ : eInj 16 ad) (C : Cx p s m args meth c (dC, dI) (yW cI cZ ad) (yA ad) ExY [(cI, .int), (cZ, .boolean)] cX5_seed 5 RX5 (some .long) yX5_seed) {σ : eSt} {z : Int64} {a1 : Int64} {r : Int64 × eSt × Int64} (h : fX5_seed σ z a1 = some r) : WX p l e rmX5_seed s m args below meth c (MQ below (cQ (dC, dI) (yW cI cZ ad) (yA ad) (some (.long r.1)) r.2.1 r.2.2) args s 0 0 (yA ad)) (dC, dI) (yW cI cZ ad) (yA ad) 5 σ z [(0, .ref (ad 0)), (1, .long a1)] 0 [] := by
  unfold fX5_seed at h
  refine x_aload_n C dX5_seed_0 rfl 0 rfl ?_
  refine x_iconst (v := 0) C dX5_seed_1 ic_0 ?_
  refine fp_5_0 C 0 rfl (Nat.le_of_ble_eq_true rfl) k_3_9 h rfl dX5_seed_2 ?_
  intro σ1 h
  refine x_aload_n C dX5_seed_5 rfl 0 rfl ?_
  refine fg_5_22 C 0 rfl rfl k_3_31 dX5_seed_6 ?_
  refine x_lstore_n (lv' := [(3, .long z), (0, .ref (ad 0)), (1, .long a1)]) C dX5_seed_9 rfl (by decide) rfl ?_
  refine x_aload_n C dX5_seed_10 rfl 1 rfl ?_
  refine x_lload_n C dX5_seed_11 rfl 2 rfl ?_
  refine fp_5_22 C 0 rfl (Nat.le_of_ble_eq_true rfl) k_3_31 h rfl dX5_seed_12 ?_
  intro z2 h
  refine x_lload_n C dX5_seed_15 rfl 0 rfl ?_
  exact xr_zl C h dX5_seed_16
set_option maxRecDepth 100000 in
set_option maxHeartbeats 4000000 in
theorem tX5_seed {l : Launch} {dC : Nat → ClassId} {dI : Nat → Nat → Nat} {cI cZ : ClassId} {ad : Nat → Nat} (hJ : eInj 16 ad) {σ : eSt} {z : Int64} {a1 : Int64} {r : Int64 × eSt × Int64} (h : fX5_seed σ z a1 = some r) : Con l yX5_seed cX5_seed 5 (some .long) rmX5_seed (dC, dI) (yW cI cZ ad) (yA ad) [(cI, .int), (cZ, .boolean)] ExY [.ref (ad 0), .long a1] σ z (some (.long r.1)) r.2.1 r.2.2 :=
  x_con (by decide) (yW_D hJ) (ExY_ok ad) (Nat.le_of_ble_eq_true rfl) (fun p e s m args below meth c C => wX5_seed_0 hJ C h)
set_option maxRecDepth 100000 in
set_option maxHeartbeats 4000000 in
theorem wX5_days_107 (hJ : eInj 16 ad) (C : Cx p s m args meth c (dC, dI) (yW cI cZ ad) (yA ad) ExY [(cI, .int), (cZ, .boolean)] cX5_days 4 RX5 (some .int) yX5_days) {σ : eSt} {z : Int64} {a1 : Int32} {a3 : Int32} {s0 : Int32} {s1 : Int32} {r : Int32 × eSt × Int64} {k24 : Int32 → Int32 → eSt → Int64 → Option (Int32 × eSt × Int64)} (hk24 : ∀ (a2 : Int32) (a3 : Int32) (σ : eSt) (z : Int64), k24 a2 a3 σ z = some r → WX p l e rmX5_days s m args below meth c (MQ below (cQ (dC, dI) (yW cI cZ ad) (yA ad) (some (.int r.1)) r.2.1 r.2.2) args s 0 0 (yA ad)) (dC, dI) (yW cI cZ ad) (yA ad) 4 σ z [(0, .ref (ad 0)), (1, .int a1), (2, .int a2), (3, .int a3)] 24 []) (h : fX5_days_107 k24 σ z a1 a3 s0 s1 = some r) : WX p l e rmX5_days s m args below meth c (MQ below (cQ (dC, dI) (yW cI cZ ad) (yA ad) (some (.int r.1)) r.2.1 r.2.2) args s 0 0 (yA ad)) (dC, dI) (yW cI cZ ad) (yA ad) 4 σ z [(0, .ref (ad 0)), (1, .int a1), (3, .int a3)] 107 [.int s0, .int s1] := by
  unfold fX5_days_107 at h
  refine x_iadd C dX5_days_107 ?_
  refine x_istore_n_b C (fun v1 => [(2, .int v1), (0, .ref (ad 0)), (1, .int a1), (3, .int a3)]) dX5_days_108 rfl (by decide) h (fun _ => rfl) ?_
  intro v1 h
  refine x_iinc_b (j := 3) (w := 1) C (fun v2 => [(3, .int v2), (2, .int v1), (0, .ref (ad 0)), (1, .int a1)]) dX5_days_109 ic_1 rfl (by decide) h (fun _ => rfl) ?_
  intro v2 h
  refine x_goto (tgt := 24) C dX5_days_112 (by decide) ?_
  refine x_sub (lv' := [(0, .ref (ad 0)), (1, .int a1), (2, .int v1), (3, .int v2)]) [2, 3, 1, 0] rfl ?_
  exact hk24 _ _ _ _ h
set_option maxRecDepth 100000 in
set_option maxHeartbeats 4000000 in
theorem wX5_days_24 (hJ : eInj 16 ad) (C : Cx p s m args meth c (dC, dI) (yW cI cZ ad) (yA ad) ExY [(cI, .int), (cZ, .boolean)] cX5_days 4 RX5 (some .int) yX5_days) {a1 : Int32} {r : Int32 × eSt × Int64} : ∀ (n : Nat) (a2 : Int32) (a3 : Int32) (σ : eSt) (z : Int64), lo_4 (bX5_days_24 a1) n a2 a3 σ z = some r → WX p l e rmX5_days s m args below meth c (MQ below (cQ (dC, dI) (yW cI cZ ad) (yA ad) (some (.int r.1)) r.2.1 r.2.2) args s 0 0 (yA ad)) (dC, dI) (yW cI cZ ad) (yA ad) 4 σ z [(0, .ref (ad 0)), (1, .int a1), (2, .int a2), (3, .int a3)] 24 [] := by
  refine lo_4_ind (P := fun a2 a3 σ z => WX p l e rmX5_days s m args below meth c (MQ below (cQ (dC, dI) (yW cI cZ ad) (yA ad) (some (.int r.1)) r.2.1 r.2.2) args s 0 0 (yA ad)) (dC, dI) (yW cI cZ ad) (yA ad) 4 σ z [(0, .ref (ad 0)), (1, .int a1), (2, .int a2), (3, .int a3)] 24 []) ?_
  intro k24 hk24 a2 a3 σ z h
  unfold bX5_days_24 at h
  refine x_iload_n C dX5_days_24 rfl 3 rfl ?_
  refine x_iload_n C dX5_days_25 rfl 1 rfl ?_
  refine x_icmp_ge (tgt := 115) C dX5_days_26 (by decide) h ?_ ?_
  · intro h
    refine x_iload_n C dX5_days_115 rfl 2 rfl ?_
    exact xr_zi C h dX5_days_116
  · intro h
    refine x_aload_n C dX5_days_29 rfl 0 rfl ?_
    refine x_aload_n C dX5_days_30 rfl 0 rfl ?_
    refine fg_5_22 C 0 rfl rfl k_3_31 dX5_days_31 ?_
    refine x_ldc2 (v := 6364136223846793005) C dX5_days_34 k_4_69 ?_
    refine x_lmul C dX5_days_37 ?_
    refine x_ldc2 (v := 1442695040888963407) C dX5_days_38 k_4_70 ?_
    refine x_ladd C dX5_days_41 ?_
    refine fp_5_22 C 0 rfl (Nat.le_of_ble_eq_true rfl) k_3_31 h rfl dX5_days_42 ?_
    intro z1 h
    refine x_aload_n C dX5_days_45 rfl 0 rfl ?_
    obtain ⟨σ2, hv, h⟩ := e_bind h
    refine x_callV_v C (ci := 5) 0 [] (tX5_begin hJ hv) k_3_232 k_3_234 k_p_31 k_1_6 k_3_235 hyX5_begin ⟨rfl, rfl⟩ (by decide) rfl rfl rfl rfl (Nat.le_of_ble_eq_true rfl) dX5_days_46 ?_
    refine x_aload_n C dX5_days_49 rfl 0 rfl ?_
    refine fg_5_12 C 0 rfl rfl k_3_21 dX5_days_50 ?_
    refine x_iconst (v := 2) C dX5_days_53 ic_2 ?_
    refine x_dup2 C dX5_days_54 rfl rfl ?_
    refine x_iald_c C 5 0 2 rfl rfl dX5_days_55 (by decide) (by decide) ?_
    refine x_aload_n C dX5_days_56 rfl 0 rfl ?_
    refine fg_5_22 C 0 rfl rfl k_3_31 dX5_days_57 ?_
    refine x_bipush (v := 33) C dX5_days_60 bi_33 ?_
    refine x_lushr C dX5_days_62 ?_
    refine x_ldc2 (v := 64) C dX5_days_63 k_4_71 ?_
    refine x_lrem_c C dX5_days_66 (by decide) ?_
    refine x_l2i C dX5_days_67 ?_
    refine x_ior C dX5_days_68 ?_
    refine x_iast_c C 5 0 2 rfl rfl dX5_days_69 (by decide) (by decide) h rfl ?_
    intro σ3 h
    refine x_iload_n C dX5_days_70 rfl 2 rfl ?_
    refine x_aload_n C dX5_days_71 rfl 0 rfl ?_
    refine x_aload_n C dX5_days_72 rfl 0 rfl ?_
    refine fg_5_12 C 0 rfl rfl k_3_21 dX5_days_73 ?_
    refine x_aload_n C dX5_days_76 rfl 0 rfl ?_
    refine fg_5_11 C 0 rfl rfl k_3_20 dX5_days_77 ?_
    refine x_iconst (v := 1) C dX5_days_80 ic_1 ?_
    refine x_iald_c C 4 0 1 rfl rfl dX5_days_81 (by decide) (by decide) ?_
    refine x_iload_n C dX5_days_82 rfl 3 rfl ?_
    refine x_iadd C dX5_days_83 ?_
    refine x_bipush (v := 10) C dX5_days_84 bi_10 ?_
    refine x_irem_c C dX5_days_86 (by decide) ?_
    obtain ⟨w4, hv, h⟩ := e_bind h
    refine x_callV_i C (ci := 5) 0 [.ref (ad 5), .int (e_rem ((σ3 4 1) + a3) 10)] (tX5_sureAt hJ (Or.inr rfl) hv) k_3_216 k_3_218 k_p_30 k_1_6 k_3_219 hyX5_sureAt ⟨rfl, rfl⟩ (by decide) rfl rfl rfl rfl (Nat.le_of_ble_eq_true rfl) dX5_days_87 ?_
    refine x_aload_n C dX5_days_90 rfl 0 rfl ?_
    refine fg_5_11 C 0 rfl rfl k_3_20 dX5_days_91 ?_
    refine x_iconst (v := 0) C dX5_days_94 ic_0 ?_
    refine x_iald_c C 4 0 0 rfl rfl dX5_days_95 (by decide) (by decide) ?_
    obtain ⟨v5, hv, h⟩ := e_bind h
    refine x_callS_i C [.int w4.1, .int (w4.2 4 0)] (tX5_has hJ hv) k_3_159 k_3_160 k_1_6 k_3_161 hyX5_has.2 ⟨rfl, rfl⟩ (by decide) rfl rfl (Nat.le_of_ble_eq_true rfl) dX5_days_96 ?_
    refine x_if_eq (tgt := 106) C dX5_days_99 (by decide) h ?_ ?_
    · intro h
      refine x_iconst (v := 0) C dX5_days_106 ic_0 ?_
      refine x_sub (lv' := [(0, .ref (ad 0)), (1, .int a1), (3, .int a3)]) [0, 1, 3] rfl ?_
      exact wX5_days_107 hJ C hk24 h
    · intro h
      refine x_iconst (v := 1) C dX5_days_102 ic_1 ?_
      refine x_goto (tgt := 107) C dX5_days_103 (by decide) ?_
      refine x_sub (lv' := [(0, .ref (ad 0)), (1, .int a1), (3, .int a3)]) [0, 1, 3] rfl ?_
      exact wX5_days_107 hJ C hk24 h
set_option maxRecDepth 100000 in
set_option maxHeartbeats 4000000 in
theorem wX5_days_0 (hJ : eInj 16 ad) (C : Cx p s m args meth c (dC, dI) (yW cI cZ ad) (yA ad) ExY [(cI, .int), (cZ, .boolean)] cX5_days 4 RX5 (some .int) yX5_days) {σ : eSt} {z : Int64} {a1 : Int32} {r : Int32 × eSt × Int64} (h : fX5_days σ z a1 = some r) : WX p l e rmX5_days s m args below meth c (MQ below (cQ (dC, dI) (yW cI cZ ad) (yA ad) (some (.int r.1)) r.2.1 r.2.2) args s 0 0 (yA ad)) (dC, dI) (yW cI cZ ad) (yA ad) 4 σ z [(0, .ref (ad 0)), (1, .int a1)] 0 [] := by
  unfold fX5_days at h
  refine x_aload_n C dX5_days_0 rfl 0 rfl ?_
  refine x_iconst (v := 0) C dX5_days_1 ic_0 ?_
  refine fp_5_0 C 0 rfl (Nat.le_of_ble_eq_true rfl) k_3_9 h rfl dX5_days_2 ?_
  intro σ1 h
  refine x_iload_n C dX5_days_5 rfl 1 rfl ?_
  refine x_i2l C dX5_days_6 ?_
  refine x_lconst (v := 1) C dX5_days_7 rfl ?_
  refine x_ldc2 (v := 30) C dX5_days_8 k_4_68 ?_
  obtain ⟨v2, hv, h⟩ := e_bind h
  refine x_callS_i C [.long (a1.toInt64), .long 1, .long 30] (tX5_in hJ hv) k_3_111 k_3_112 k_1_6 k_3_113 hyX5_in.2 ⟨rfl, rfl⟩ (by decide) rfl rfl (Nat.le_of_ble_eq_true rfl) dX5_days_11 ?_
  refine x_if_ne (tgt := 20) C dX5_days_14 (by decide) h ?_ ?_
  · intro h
    refine x_iconst (v := 0) C dX5_days_20 ic_0 ?_
    refine x_istore_n (lv' := [(2, .int 0), (0, .ref (ad 0)), (1, .int a1)]) C dX5_days_21 rfl (by decide) rfl ?_
    refine x_iconst (v := 0) C dX5_days_22 ic_0 ?_
    refine x_istore_n (lv' := [(3, .int 0), (2, .int 0), (0, .ref (ad 0)), (1, .int a1)]) C dX5_days_23 rfl (by decide) rfl ?_
    refine x_sub (lv' := [(0, .ref (ad 0)), (1, .int a1), (2, .int 0), (3, .int 0)]) [2, 3, 1, 0] rfl ?_
    exact wX5_days_24 hJ C _ _ _ _ _ h
  · intro h
    refine x_bipush (v := (-2)) C dX5_days_17 bi_m2 ?_
    exact xr_zi C h dX5_days_19
set_option maxRecDepth 100000 in
set_option maxHeartbeats 4000000 in
theorem tX5_days {l : Launch} {dC : Nat → ClassId} {dI : Nat → Nat → Nat} {cI cZ : ClassId} {ad : Nat → Nat} (hJ : eInj 16 ad) {σ : eSt} {z : Int64} {a1 : Int32} {r : Int32 × eSt × Int64} (h : fX5_days σ z a1 = some r) : Con l yX5_days cX5_days 4 (some .int) rmX5_days (dC, dI) (yW cI cZ ad) (yA ad) [(cI, .int), (cZ, .boolean)] ExY [.ref (ad 0), .int a1] σ z (some (.int r.1)) r.2.1 r.2.2 :=
  x_con (by decide) (yW_D hJ) (ExY_ok ad) (Nat.le_of_ble_eq_true rfl) (fun p e s m args below meth c C => wX5_days_0 hJ C h)
set_option maxRecDepth 100000 in
set_option maxHeartbeats 4000000 in
theorem wX5_keep_26 (hJ : eInj 16 ad) (C : Cx p s m args meth c (dC, dI) (yW cI cZ ad) (yA ad) ExY [(cI, .int), (cZ, .boolean)] cX5_keep 3 RX5 (some .int) yX5_keep) {a1 : Int32} {z : Int64} {r : Int32 × eSt} : ∀ (n : Nat) (a2 : Int32) (σ : eSt), lo_2 (bX5_keep_26 a1) n a2 σ = some r → WX p l e rmX5_keep s m args below meth c (MQ below (cQ (dC, dI) (yW cI cZ ad) (yA ad) (some (.int r.1)) r.2 z) args s 0 0 (yA ad)) (dC, dI) (yW cI cZ ad) (yA ad) 3 σ z [(0, .ref (ad 0)), (1, .int a1), (2, .int a2)] 26 [] := by
  refine lo_2_ind (P := fun a2 σ => WX p l e rmX5_keep s m args below meth c (MQ below (cQ (dC, dI) (yW cI cZ ad) (yA ad) (some (.int r.1)) r.2 z) args s 0 0 (yA ad)) (dC, dI) (yW cI cZ ad) (yA ad) 3 σ z [(0, .ref (ad 0)), (1, .int a1), (2, .int a2)] 26 []) ?_
  intro k26 hk26 a2 σ h
  unfold bX5_keep_26 at h
  refine x_iload_n C dX5_keep_26 rfl 2 rfl ?_
  refine x_bipush (v := 8) C dX5_keep_27 bi_8 ?_
  refine x_icmp_ge (tgt := 55) C dX5_keep_29 (by decide) h ?_ ?_
  · intro h
    refine x_aload_n C dX5_keep_55 rfl 0 rfl ?_
    refine fg_5_11 C 0 rfl rfl k_3_20 dX5_keep_56 ?_
    refine x_iconst (v := 1) C dX5_keep_59 ic_1 ?_
    refine x_iald_c C 4 0 1 rfl rfl dX5_keep_60 (by decide) (by decide) ?_
    exact xr_wi C h dX5_keep_61
  · intro h
    refine x_aload_n C dX5_keep_32 rfl 0 rfl ?_
    refine fg_5_15 C 0 rfl rfl k_3_24 dX5_keep_33 ?_
    refine x_bipush (v := 8) C dX5_keep_36 bi_8 ?_
    refine x_iload_n C dX5_keep_38 rfl 1 rfl ?_
    refine x_imul C dX5_keep_39 ?_
    refine x_iload_n C dX5_keep_40 rfl 2 rfl ?_
    refine x_iadd C dX5_keep_41 ?_
    refine x_aload_n C dX5_keep_42 rfl 0 rfl ?_
    refine fg_5_11 C 0 rfl rfl k_3_20 dX5_keep_43 ?_
    refine x_iload_n C dX5_keep_46 rfl 2 rfl ?_
    refine x_iald C 4 0 rfl rfl dX5_keep_47 h ?_
    intro h
    refine x_iast C 7 0 rfl rfl dX5_keep_48 h rfl ?_
    intro σ1 h
    refine x_iinc_b (j := 2) (w := 1) C (fun v2 => [(2, .int v2), (0, .ref (ad 0)), (1, .int a1)]) dX5_keep_49 ic_1 rfl (by decide) h (fun _ => rfl) ?_
    intro v2 h
    refine x_goto (tgt := 26) C dX5_keep_52 (by decide) ?_
    refine x_sub (lv' := [(0, .ref (ad 0)), (1, .int a1), (2, .int v2)]) [1, 2, 0] rfl ?_
    exact hk26 _ _ h
set_option maxRecDepth 100000 in
set_option maxHeartbeats 4000000 in
theorem wX5_keep_0 (hJ : eInj 16 ad) (C : Cx p s m args meth c (dC, dI) (yW cI cZ ad) (yA ad) ExY [(cI, .int), (cZ, .boolean)] cX5_keep 3 RX5 (some .int) yX5_keep) {σ : eSt} {a1 : Int32} {z : Int64} {r : Int32 × eSt} (h : fX5_keep σ a1 = some r) : WX p l e rmX5_keep s m args below meth c (MQ below (cQ (dC, dI) (yW cI cZ ad) (yA ad) (some (.int r.1)) r.2 z) args s 0 0 (yA ad)) (dC, dI) (yW cI cZ ad) (yA ad) 3 σ z [(0, .ref (ad 0)), (1, .int a1)] 0 [] := by
  unfold fX5_keep at h
  refine x_aload_n C dX5_keep_0 rfl 0 rfl ?_
  refine x_iconst (v := 0) C dX5_keep_1 ic_0 ?_
  refine fp_5_0 C 0 rfl (Nat.le_of_ble_eq_true rfl) k_3_9 h rfl dX5_keep_2 ?_
  intro σ1 h
  refine x_iload_n C dX5_keep_5 rfl 1 rfl ?_
  refine x_i2l C dX5_keep_6 ?_
  refine x_lconst (v := 0) C dX5_keep_7 rfl ?_
  refine x_lconst (v := 1) C dX5_keep_8 rfl ?_
  obtain ⟨v2, hv, h⟩ := e_bind h
  refine x_callS_i C [.long (a1.toInt64), .long 0, .long 1] (tX5_in hJ hv) k_3_111 k_3_112 k_1_6 k_3_113 hyX5_in.2 ⟨rfl, rfl⟩ (by decide) rfl rfl (Nat.le_of_ble_eq_true rfl) dX5_keep_9 ?_
  refine x_if_ne (tgt := 17) C dX5_keep_12 (by decide) h ?_ ?_
  · intro h
    refine x_aload_n C dX5_keep_17 rfl 0 rfl ?_
    refine fg_5_16 C 0 rfl rfl k_3_25 dX5_keep_18 ?_
    refine x_iload_n C dX5_keep_21 rfl 1 rfl ?_
    refine x_iconst (v := 1) C dX5_keep_22 ic_1 ?_
    refine x_zast C 8 1 rfl rfl dX5_keep_23 h rfl ?_
    intro σ3 h
    refine x_iconst (v := 0) C dX5_keep_24 ic_0 ?_
    refine x_istore_n (lv' := [(2, .int 0), (0, .ref (ad 0)), (1, .int a1)]) C dX5_keep_25 rfl (by decide) rfl ?_
    refine x_sub (lv' := [(0, .ref (ad 0)), (1, .int a1), (2, .int 0)]) [1, 2, 0] rfl ?_
    exact wX5_keep_26 hJ C _ _ _ h
  · intro h
    refine x_iconst (v := (-1)) C dX5_keep_15 ic_m1 ?_
    exact xr_wi C h dX5_keep_16
set_option maxRecDepth 100000 in
set_option maxHeartbeats 4000000 in
theorem tX5_keep {l : Launch} {dC : Nat → ClassId} {dI : Nat → Nat → Nat} {cI cZ : ClassId} {ad : Nat → Nat} (hJ : eInj 16 ad) {σ : eSt} {a1 : Int32} {z : Int64} {r : Int32 × eSt} (h : fX5_keep σ a1 = some r) : Con l yX5_keep cX5_keep 3 (some .int) rmX5_keep (dC, dI) (yW cI cZ ad) (yA ad) [(cI, .int), (cZ, .boolean)] ExY [.ref (ad 0), .int a1] σ z (some (.int r.1)) r.2 z :=
  x_con (by decide) (yW_D hJ) (ExY_ok ad) (Nat.le_of_ble_eq_true rfl) (fun p e s m args below meth c C => wX5_keep_0 hJ C h)
set_option maxRecDepth 100000 in
set_option maxHeartbeats 4000000 in
theorem wX5_again_31 (hJ : eInj 16 ad) (C : Cx p s m args meth c (dC, dI) (yW cI cZ ad) (yA ad) ExY [(cI, .int), (cZ, .boolean)] cX5_again 3 RX5 (some .int) yX5_again) {a1 : Int32} {z : Int64} {r : Int32 × eSt} : ∀ (n : Nat) (a2 : Int32) (σ : eSt), lo_2 (bX5_again_31 a1) n a2 σ = some r → WX p l e rmX5_again s m args below meth c (MQ below (cQ (dC, dI) (yW cI cZ ad) (yA ad) (some (.int r.1)) r.2 z) args s 0 0 (yA ad)) (dC, dI) (yW cI cZ ad) (yA ad) 3 σ z [(0, .ref (ad 0)), (1, .int a1), (2, .int a2)] 31 [] := by
  refine lo_2_ind (P := fun a2 σ => WX p l e rmX5_again s m args below meth c (MQ below (cQ (dC, dI) (yW cI cZ ad) (yA ad) (some (.int r.1)) r.2 z) args s 0 0 (yA ad)) (dC, dI) (yW cI cZ ad) (yA ad) 3 σ z [(0, .ref (ad 0)), (1, .int a1), (2, .int a2)] 31 []) ?_
  intro k31 hk31 a2 σ h
  unfold bX5_again_31 at h
  refine x_iload_n C dX5_again_31 rfl 2 rfl ?_
  refine x_bipush (v := 8) C dX5_again_32 bi_8 ?_
  refine x_icmp_ge (tgt := 60) C dX5_again_34 (by decide) h ?_ ?_
  · intro h
    refine x_aload_n C dX5_again_60 rfl 0 rfl ?_
    refine x_iconst (v := 0) C dX5_again_61 ic_0 ?_
    refine fp_5_14 C 0 rfl (Nat.le_of_ble_eq_true rfl) k_3_23 h rfl dX5_again_62 ?_
    intro σ1 h
    refine x_aload_n C dX5_again_65 rfl 0 rfl ?_
    refine fg_5_11 C 0 rfl rfl k_3_20 dX5_again_66 ?_
    refine x_iconst (v := 1) C dX5_again_69 ic_1 ?_
    refine x_iald_c C 4 0 1 rfl rfl dX5_again_70 (by decide) (by decide) ?_
    exact xr_wi C h dX5_again_71
  · intro h
    refine x_aload_n C dX5_again_37 rfl 0 rfl ?_
    refine fg_5_11 C 0 rfl rfl k_3_20 dX5_again_38 ?_
    refine x_iload_n C dX5_again_41 rfl 2 rfl ?_
    refine x_aload_n C dX5_again_42 rfl 0 rfl ?_
    refine fg_5_15 C 0 rfl rfl k_3_24 dX5_again_43 ?_
    refine x_bipush (v := 8) C dX5_again_46 bi_8 ?_
    refine x_iload_n C dX5_again_48 rfl 1 rfl ?_
    refine x_imul C dX5_again_49 ?_
    refine x_iload_n C dX5_again_50 rfl 2 rfl ?_
    refine x_iadd C dX5_again_51 ?_
    refine x_iald C 7 0 rfl rfl dX5_again_52 h ?_
    intro h
    refine x_iast C 4 0 rfl rfl dX5_again_53 h rfl ?_
    intro σ2 h
    refine x_iinc_b (j := 2) (w := 1) C (fun v3 => [(2, .int v3), (0, .ref (ad 0)), (1, .int a1)]) dX5_again_54 ic_1 rfl (by decide) h (fun _ => rfl) ?_
    intro v3 h
    refine x_goto (tgt := 31) C dX5_again_57 (by decide) ?_
    refine x_sub (lv' := [(0, .ref (ad 0)), (1, .int a1), (2, .int v3)]) [1, 2, 0] rfl ?_
    exact hk31 _ _ h
set_option maxRecDepth 100000 in
set_option maxHeartbeats 4000000 in
theorem wX5_again_0 (hJ : eInj 16 ad) (C : Cx p s m args meth c (dC, dI) (yW cI cZ ad) (yA ad) ExY [(cI, .int), (cZ, .boolean)] cX5_again 3 RX5 (some .int) yX5_again) {σ : eSt} {a1 : Int32} {z : Int64} {r : Int32 × eSt} (h : fX5_again σ a1 = some r) : WX p l e rmX5_again s m args below meth c (MQ below (cQ (dC, dI) (yW cI cZ ad) (yA ad) (some (.int r.1)) r.2 z) args s 0 0 (yA ad)) (dC, dI) (yW cI cZ ad) (yA ad) 3 σ z [(0, .ref (ad 0)), (1, .int a1)] 0 [] := by
  unfold fX5_again at h
  refine x_aload_n C dX5_again_0 rfl 0 rfl ?_
  refine x_iconst (v := 0) C dX5_again_1 ic_0 ?_
  refine fp_5_0 C 0 rfl (Nat.le_of_ble_eq_true rfl) k_3_9 h rfl dX5_again_2 ?_
  intro σ1 h
  refine x_iload_n C dX5_again_5 rfl 1 rfl ?_
  refine x_i2l C dX5_again_6 ?_
  refine x_lconst (v := 0) C dX5_again_7 rfl ?_
  refine x_lconst (v := 1) C dX5_again_8 rfl ?_
  obtain ⟨v2, hv, h⟩ := e_bind h
  refine x_callS_i C [.long (a1.toInt64), .long 0, .long 1] (tX5_in hJ hv) k_3_111 k_3_112 k_1_6 k_3_113 hyX5_in.2 ⟨rfl, rfl⟩ (by decide) rfl rfl (Nat.le_of_ble_eq_true rfl) dX5_again_9 ?_
  refine x_if_ne (tgt := 17) C dX5_again_12 (by decide) h ?_ ?_
  · intro h
    refine x_aload_n C dX5_again_17 rfl 0 rfl ?_
    refine fg_5_16 C 0 rfl rfl k_3_25 dX5_again_18 ?_
    refine x_iload_n C dX5_again_21 rfl 1 rfl ?_
    refine x_zald C 8 1 rfl rfl dX5_again_22 h ?_
    intro h
    refine x_if_ne (tgt := 29) C dX5_again_23 (by decide) h ?_ ?_
    · intro h
      refine x_iconst (v := 0) C dX5_again_29 ic_0 ?_
      refine x_istore_n (lv' := [(2, .int 0), (0, .ref (ad 0)), (1, .int a1)]) C dX5_again_30 rfl (by decide) rfl ?_
      refine x_sub (lv' := [(0, .ref (ad 0)), (1, .int a1), (2, .int 0)]) [1, 2, 0] rfl ?_
      exact wX5_again_31 hJ C _ _ _ h
    · intro h
      refine x_bipush (v := (-3)) C dX5_again_26 bi_m3 ?_
      exact xr_wi C h dX5_again_28
  · intro h
    refine x_iconst (v := (-1)) C dX5_again_15 ic_m1 ?_
    exact xr_wi C h dX5_again_16
set_option maxRecDepth 100000 in
set_option maxHeartbeats 4000000 in
theorem tX5_again {l : Launch} {dC : Nat → ClassId} {dI : Nat → Nat → Nat} {cI cZ : ClassId} {ad : Nat → Nat} (hJ : eInj 16 ad) {σ : eSt} {a1 : Int32} {z : Int64} {r : Int32 × eSt} (h : fX5_again σ a1 = some r) : Con l yX5_again cX5_again 3 (some .int) rmX5_again (dC, dI) (yW cI cZ ad) (yA ad) [(cI, .int), (cZ, .boolean)] ExY [.ref (ad 0), .int a1] σ z (some (.int r.1)) r.2 z :=
  x_con (by decide) (yW_D hJ) (ExY_ok ad) (Nat.le_of_ble_eq_true rfl) (fun p e s m args below meth c C => wX5_again_0 hJ C h)
end WK

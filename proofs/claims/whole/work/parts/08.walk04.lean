section WK
variable {p : Program} {l : Launch} {e : Env} {s : State} {m : MethodId} {args : Array Value} {below : List Frame} {meth : Method} {c : Code} {dC : Nat → ClassId} {dI : Nat → Nat → Nat} {cI cZ : ClassId} {ad : Nat → Nat}
set_option maxRecDepth 100000 in
set_option maxHeartbeats 4000000 in
theorem wX4_seed_0 (hJ : eInj 21 ad) (C : Cx p s m args meth c (dC, dI) (xW cI cZ ad) (xA ad) (ExX ad) [(cI, .int), (cZ, .boolean)] cX4_seed 5 RX4 (some .long) yX4_seed) {σ : eSt} {z : Int64} {a1 : Int64} {r : Int64 × eSt × Int64} (h : fX4_seed σ z a1 = some r) : WX p l e rmX4_seed s m args below meth c (MQ below (cQ (dC, dI) (xW cI cZ ad) (xA ad) (some (.long r.1)) r.2.1 r.2.2) args s 0 0 (xA ad)) (dC, dI) (xW cI cZ ad) (xA ad) 5 σ z [(0, .ref (ad 0)), (1, .long a1)] 0 [] := by
  unfold fX4_seed at h
  refine x_aload_n C dX4_seed_0 rfl 0 rfl ?_
  refine fg_4_7 C 0 rfl rfl k_1_134 dX4_seed_1 ?_
  refine x_lstore_n (lv' := [(3, .long z), (0, .ref (ad 0)), (1, .long a1)]) C dX4_seed_4 rfl (by decide) rfl ?_
  refine x_aload_n C dX4_seed_5 rfl 1 rfl ?_
  refine x_lload_n C dX4_seed_6 rfl 2 rfl ?_
  refine fp_4_7 C 0 rfl (Nat.le_of_ble_eq_true rfl) k_1_134 h rfl dX4_seed_7 ?_
  intro z1 h
  refine x_lload_n C dX4_seed_10 rfl 0 rfl ?_
  exact xr_zl C h dX4_seed_11
set_option maxRecDepth 100000 in
set_option maxHeartbeats 4000000 in
theorem tX4_seed {l : Launch} {dC : Nat → ClassId} {dI : Nat → Nat → Nat} {cI cZ : ClassId} {ad : Nat → Nat} (hJ : eInj 21 ad) {σ : eSt} {z : Int64} {a1 : Int64} {r : Int64 × eSt × Int64} (h : fX4_seed σ z a1 = some r) : Con l yX4_seed cX4_seed 5 (some .long) rmX4_seed (dC, dI) (xW cI cZ ad) (xA ad) [(cI, .int), (cZ, .boolean)] (ExX ad) [.ref (ad 0), .long a1] σ z (some (.long r.1)) r.2.1 r.2.2 :=
  x_con (by decide) (xW_D hJ) (ExX_ok ad) (Nat.le_of_ble_eq_true rfl) (fun p e s m args below meth c C => wX4_seed_0 hJ C h)
set_option maxRecDepth 100000 in
set_option maxHeartbeats 4000000 in
theorem wX4_days_94 (hJ : eInj 21 ad) (C : Cx p s m args meth c (dC, dI) (xW cI cZ ad) (xA ad) (ExX ad) [(cI, .int), (cZ, .boolean)] cX4_days 6 RX4 (some .int) yX4_days) {σ : eSt} {z : Int64} {a1 : Int32} {a2 : Int32} {a3 : Int32} {a4 : Int32} {r : Int32 × eSt × Int64} {k27 : Int32 → Int32 → Int32 → eSt → Int64 → Option (Int32 × eSt × Int64)} (hk27 : ∀ (a2 : Int32) (a3 : Int32) (a4 : Int32) (σ : eSt) (z : Int64), k27 a2 a3 a4 σ z = some r → WX p l e rmX4_days s m args below meth c (MQ below (cQ (dC, dI) (xW cI cZ ad) (xA ad) (some (.int r.1)) r.2.1 r.2.2) args s 0 0 (xA ad)) (dC, dI) (xW cI cZ ad) (xA ad) 6 σ z [(0, .ref (ad 0)), (1, .int a1), (2, .int a2), (3, .int a3), (4, .int a4)] 27 []) (h : fX4_days_94 k27 σ z a1 a2 a3 a4 = some r) : WX p l e rmX4_days s m args below meth c (MQ below (cQ (dC, dI) (xW cI cZ ad) (xA ad) (some (.int r.1)) r.2.1 r.2.2) args s 0 0 (xA ad)) (dC, dI) (xW cI cZ ad) (xA ad) 6 σ z [(0, .ref (ad 0)), (1, .int a1), (2, .int a2), (3, .int a3), (4, .int a4)] 94 [] := by
  unfold fX4_days_94 at h
  refine x_iload_n C dX4_days_94 rfl 2 rfl ?_
  obtain ⟨v1, hv, h⟩ := e_bind h
  refine x_callS_i C [.int a2] (tX4_hourBehind hJ hv) k_2_78 k_2_79 k_1_1 k_2_80 hyX4_hourBehind.2 ⟨rfl, rfl⟩ (by decide) rfl rfl (Nat.le_of_ble_eq_true rfl) dX4_days_95 ?_
  refine x_istore_n (lv' := [(2, .int v1), (0, .ref (ad 0)), (1, .int a1), (3, .int a3), (4, .int a4)]) C dX4_days_98 rfl (by decide) rfl ?_
  refine x_iinc_b (j := 4) (w := 1) C (fun v2 => [(4, .int v2), (2, .int v1), (0, .ref (ad 0)), (1, .int a1), (3, .int a3)]) dX4_days_99 ic_1 rfl (by decide) h (fun _ => rfl) ?_
  intro v2 h
  refine x_goto (tgt := 27) C dX4_days_102 (by decide) ?_
  refine x_sub (lv' := [(0, .ref (ad 0)), (1, .int a1), (2, .int v1), (3, .int a3), (4, .int v2)]) [2, 3, 1, 4, 0] rfl ?_
  exact hk27 _ _ _ _ _ h
set_option maxRecDepth 100000 in
set_option maxHeartbeats 4000000 in
theorem wX4_days_27 (hJ : eInj 21 ad) (C : Cx p s m args meth c (dC, dI) (xW cI cZ ad) (xA ad) (ExX ad) [(cI, .int), (cZ, .boolean)] cX4_days 6 RX4 (some .int) yX4_days) {a1 : Int32} {r : Int32 × eSt × Int64} : ∀ (n : Nat) (a2 : Int32) (a3 : Int32) (a4 : Int32) (σ : eSt) (z : Int64), lo_5 (bX4_days_27 a1) n a2 a3 a4 σ z = some r → WX p l e rmX4_days s m args below meth c (MQ below (cQ (dC, dI) (xW cI cZ ad) (xA ad) (some (.int r.1)) r.2.1 r.2.2) args s 0 0 (xA ad)) (dC, dI) (xW cI cZ ad) (xA ad) 6 σ z [(0, .ref (ad 0)), (1, .int a1), (2, .int a2), (3, .int a3), (4, .int a4)] 27 [] := by
  refine lo_5_ind (P := fun a2 a3 a4 σ z => WX p l e rmX4_days s m args below meth c (MQ below (cQ (dC, dI) (xW cI cZ ad) (xA ad) (some (.int r.1)) r.2.1 r.2.2) args s 0 0 (xA ad)) (dC, dI) (xW cI cZ ad) (xA ad) 6 σ z [(0, .ref (ad 0)), (1, .int a1), (2, .int a2), (3, .int a3), (4, .int a4)] 27 []) ?_
  intro k27 hk27 a2 a3 a4 σ z h
  unfold bX4_days_27 at h
  refine x_iload C dX4_days_27 4 rfl ?_
  refine x_iload_n C dX4_days_29 rfl 1 rfl ?_
  refine x_icmp_ge (tgt := 105) C dX4_days_30 (by decide) h ?_ ?_
  · intro h
    refine x_iload_n C dX4_days_105 rfl 3 rfl ?_
    exact xr_zi C h dX4_days_106
  · intro h
    refine x_aload_n C dX4_days_33 rfl 0 rfl ?_
    refine x_aload_n C dX4_days_34 rfl 0 rfl ?_
    refine fg_4_7 C 0 rfl rfl k_1_134 dX4_days_35 ?_
    refine x_ldc2 (v := 6364136223846793005) C dX4_days_38 k_2_232 ?_
    refine x_lmul C dX4_days_41 ?_
    refine x_ldc2 (v := 1442695040888963407) C dX4_days_42 k_2_233 ?_
    refine x_ladd C dX4_days_45 ?_
    refine fp_4_7 C 0 rfl (Nat.le_of_ble_eq_true rfl) k_1_134 h rfl dX4_days_46 ?_
    intro z1 h
    refine x_aload_n C dX4_days_49 rfl 0 rfl ?_
    refine fg_4_7 C 0 rfl rfl k_1_134 dX4_days_50 ?_
    refine x_bipush (v := 33) C dX4_days_53 bi_33 ?_
    refine x_lushr C dX4_days_55 ?_
    refine x_ldc2 (v := 64) C dX4_days_56 k_2_234 ?_
    refine x_lrem_c C dX4_days_59 (by decide) ?_
    refine x_l2i C dX4_days_60 ?_
    refine x_istore_b C (fun v2 => [(5, .int v2), (0, .ref (ad 0)), (1, .int a1), (2, .int a2), (3, .int a3), (4, .int a4)]) dX4_days_61 (by decide) h (fun _ => rfl) ?_
    intro v2 h
    refine x_aload_n C dX4_days_63 rfl 1 rfl ?_
    refine x_iload_n C dX4_days_64 rfl 3 rfl ?_
    obtain ⟨σ3, hv, h⟩ := e_bind h
    refine x_callV_v C (ci := 4) 0 [.int a2] (tX4_fillSetsNow hJ hv) k_2_100 k_2_102 k_p_11 k_1_1 k_2_103 hyX4_fillSetsNow ⟨rfl, rfl⟩ (by decide) rfl rfl rfl rfl (Nat.le_of_ble_eq_true rfl) dX4_days_65 ?_
    refine x_aload_n C dX4_days_68 rfl 1 rfl ?_
    refine x_aload_n C dX4_days_69 rfl 1 rfl ?_
    refine fg_4_2 C 0 rfl rfl k_1_129 dX4_days_70 ?_
    refine fg_0_0 C 9 rfl rfl k_1_71 dX4_days_73 ?_
    refine x_aload_n C dX4_days_76 rfl 1 rfl ?_
    obtain ⟨v4, hv, h⟩ := e_bind h
    refine x_callV_i C (ci := 4) 0 [] (tX4_liveSounds hJ hv) k_2_45 k_2_47 k_p_9 k_1_1 k_2_48 hyX4_liveSounds ⟨rfl, rfl⟩ (by decide) rfl rfl rfl rfl (Nat.le_of_ble_eq_true rfl) dX4_days_77 ?_
    refine x_iload C dX4_days_80 0 rfl ?_
    refine x_iconst (v := (-1)) C dX4_days_82 ic_m1 ?_
    refine x_ixor C dX4_days_83 ?_
    refine x_iand C dX4_days_84 ?_
    obtain ⟨v5, hv, h⟩ := e_bind h
    refine x_callV_i C (ci := 4) 0 [.int (σ3 9 0), .int (v4 &&& (v2 ^^^ (-1)))] (tX4_isSure hJ hv) k_2_217 k_2_219 k_p_21 k_1_1 k_2_220 hyX4_isSure ⟨rfl, rfl⟩ (by decide) rfl rfl rfl rfl (Nat.le_of_ble_eq_true rfl) dX4_days_85 ?_
    refine x_if_eq (tgt := 94) C dX4_days_88 (by decide) h ?_ ?_
    · intro h
      refine x_sub (lv' := [(0, .ref (ad 0)), (1, .int a1), (2, .int a2), (3, .int a3), (4, .int a4)]) [1, 2, 3, 4, 5] rfl ?_
      exact wX4_days_94 hJ C hk27 h
    · intro h
      refine x_iinc_b (j := 4) (w := 1) C (fun v6 => [(3, .int v6), (5, .int v2), (0, .ref (ad 0)), (1, .int a1), (2, .int a2), (4, .int a4)]) dX4_days_91 ic_1 rfl (by decide) h (fun _ => rfl) ?_
      intro v6 h
      refine x_sub (lv' := [(0, .ref (ad 0)), (1, .int a1), (2, .int a2), (3, .int v6), (4, .int a4)]) [2, 3, 4, 0, 5] rfl ?_
      exact wX4_days_94 hJ C hk27 h
set_option maxRecDepth 100000 in
set_option maxHeartbeats 4000000 in
theorem wX4_days_0 (hJ : eInj 21 ad) (C : Cx p s m args meth c (dC, dI) (xW cI cZ ad) (xA ad) (ExX ad) [(cI, .int), (cZ, .boolean)] cX4_days 6 RX4 (some .int) yX4_days) {σ : eSt} {z : Int64} {a1 : Int32} {r : Int32 × eSt × Int64} (h : fX4_days σ z a1 = some r) : WX p l e rmX4_days s m args below meth c (MQ below (cQ (dC, dI) (xW cI cZ ad) (xA ad) (some (.int r.1)) r.2.1 r.2.2) args s 0 0 (xA ad)) (dC, dI) (xW cI cZ ad) (xA ad) 6 σ z [(0, .ref (ad 0)), (1, .int a1)] 0 [] := by
  unfold fX4_days at h
  refine x_iload_n C dX4_days_0 rfl 1 rfl ?_
  refine x_iconst (v := 1) C dX4_days_1 ic_1 ?_
  refine x_icmp_lt (tgt := 11) C dX4_days_2 (by decide) h ?_ ?_
  · intro h
    refine x_bipush (v := (-2)) C dX4_days_11 bi_m2 ?_
    exact xr_zi C h dX4_days_13
  · intro h
    refine x_iload_n C dX4_days_5 rfl 1 rfl ?_
    refine x_bipush (v := 30) C dX4_days_6 bi_30 ?_
    refine x_icmp_le (tgt := 14) C dX4_days_8 (by decide) h ?_ ?_
    · intro h
      refine x_aload_n C dX4_days_14 rfl 0 rfl ?_
      refine fg_4_2 C 0 rfl rfl k_1_129 dX4_days_15 ?_
      refine fg_0_1 C 9 rfl rfl k_1_73 dX4_days_18 ?_
      refine x_istore_n_b C (fun v1 => [(2, .int v1), (0, .ref (ad 0)), (1, .int a1)]) dX4_days_21 rfl (by decide) h (fun _ => rfl) ?_
      intro v1 h
      refine x_iconst (v := 0) C dX4_days_22 ic_0 ?_
      refine x_istore_n (lv' := [(3, .int 0), (2, .int v1), (0, .ref (ad 0)), (1, .int a1)]) C dX4_days_23 rfl (by decide) rfl ?_
      refine x_iconst (v := 0) C dX4_days_24 ic_0 ?_
      refine x_istore (lv' := [(4, .int 0), (3, .int 0), (2, .int v1), (0, .ref (ad 0)), (1, .int a1)]) C dX4_days_25 (by decide) rfl ?_
      refine x_sub (lv' := [(0, .ref (ad 0)), (1, .int a1), (2, .int v1), (3, .int 0), (4, .int 0)]) [3, 4, 2, 1, 0] rfl ?_
      exact wX4_days_27 hJ C _ _ _ _ _ _ h
    · intro h
      refine x_bipush (v := (-2)) C dX4_days_11 bi_m2 ?_
      exact xr_zi C h dX4_days_13
set_option maxRecDepth 100000 in
set_option maxHeartbeats 4000000 in
theorem tX4_days {l : Launch} {dC : Nat → ClassId} {dI : Nat → Nat → Nat} {cI cZ : ClassId} {ad : Nat → Nat} (hJ : eInj 21 ad) {σ : eSt} {z : Int64} {a1 : Int32} {r : Int32 × eSt × Int64} (h : fX4_days σ z a1 = some r) : Con l yX4_days cX4_days 6 (some .int) rmX4_days (dC, dI) (xW cI cZ ad) (xA ad) [(cI, .int), (cZ, .boolean)] (ExX ad) [.ref (ad 0), .int a1] σ z (some (.int r.1)) r.2.1 r.2.2 :=
  x_con (by decide) (xW_D hJ) (ExX_ok ad) (Nat.le_of_ble_eq_true rfl) (fun p e s m args below meth c C => wX4_days_0 hJ C h)
set_option maxRecDepth 100000 in
set_option maxHeartbeats 4000000 in
theorem wX4_keep_0 (hJ : eInj 21 ad) (C : Cx p s m args meth c (dC, dI) (xW cI cZ ad) (xA ad) (ExX ad) [(cI, .int), (cZ, .boolean)] cX4_keep 2 RX4 (some .int) yX4_keep) {σ : eSt} {a1 : Int32} {z : Int64} {r : Int32 × eSt} (h : fX4_keep σ a1 = some r) : WX p l e rmX4_keep s m args below meth c (MQ below (cQ (dC, dI) (xW cI cZ ad) (xA ad) (some (.int r.1)) r.2 z) args s 0 0 (xA ad)) (dC, dI) (xW cI cZ ad) (xA ad) 2 σ z [(0, .ref (ad 0)), (1, .int a1)] 0 [] := by
  unfold fX4_keep at h
  refine x_iload_n C dX4_keep_0 rfl 1 rfl ?_
  refine x_if_lt (tgt := 9) C dX4_keep_1 (by decide) h ?_ ?_
  · intro h
    refine x_iconst (v := (-1)) C dX4_keep_9 ic_m1 ?_
    exact xr_wi C h dX4_keep_10
  · intro h
    refine x_iload_n C dX4_keep_4 rfl 1 rfl ?_
    refine x_iconst (v := 2) C dX4_keep_5 ic_2 ?_
    refine x_icmp_lt (tgt := 11) C dX4_keep_6 (by decide) h ?_ ?_
    · intro h
      refine x_aload_n C dX4_keep_11 rfl 0 rfl ?_
      refine fg_4_6 C 0 rfl rfl k_1_133 dX4_keep_12 ?_
      refine x_iload_n C dX4_keep_15 rfl 1 rfl ?_
      refine x_aload_n C dX4_keep_16 rfl 0 rfl ?_
      refine fg_4_2 C 0 rfl rfl k_1_129 dX4_keep_17 ?_
      obtain ⟨v1, hv, h⟩ := e_bind h
      refine x_callV_i C (ci := 0) 9 [] (tX0_packed hJ hv) k_2_33 k_2_34 k_2_35 k_1_4 k_2_36 hyX0_packed ⟨rfl, rfl⟩ (by decide) rfl rfl rfl rfl (Nat.le_of_ble_eq_true rfl) dX4_keep_20 ?_
      refine x_iast C 16 0 rfl rfl dX4_keep_23 h rfl ?_
      intro σ2 h
      refine x_aload_n C dX4_keep_24 rfl 0 rfl ?_
      refine fg_4_2 C 0 rfl rfl k_1_129 dX4_keep_25 ?_
      refine fg_0_1 C 9 rfl rfl k_1_73 dX4_keep_28 ?_
      exact xr_wi C h dX4_keep_31
    · intro h
      refine x_iconst (v := (-1)) C dX4_keep_9 ic_m1 ?_
      exact xr_wi C h dX4_keep_10
set_option maxRecDepth 100000 in
set_option maxHeartbeats 4000000 in
theorem tX4_keep {l : Launch} {dC : Nat → ClassId} {dI : Nat → Nat → Nat} {cI cZ : ClassId} {ad : Nat → Nat} (hJ : eInj 21 ad) {σ : eSt} {a1 : Int32} {z : Int64} {r : Int32 × eSt} (h : fX4_keep σ a1 = some r) : Con l yX4_keep cX4_keep 2 (some .int) rmX4_keep (dC, dI) (xW cI cZ ad) (xA ad) [(cI, .int), (cZ, .boolean)] (ExX ad) [.ref (ad 0), .int a1] σ z (some (.int r.1)) r.2 z :=
  x_con (by decide) (xW_D hJ) (ExX_ok ad) (Nat.le_of_ble_eq_true rfl) (fun p e s m args below meth c C => wX4_keep_0 hJ C h)
set_option maxRecDepth 100000 in
set_option maxHeartbeats 4000000 in
theorem wX4_again_0 (hJ : eInj 21 ad) (C : Cx p s m args meth c (dC, dI) (xW cI cZ ad) (xA ad) (ExX ad) [(cI, .int), (cZ, .boolean)] cX4_again 2 RX4 (some .int) yX4_again) {σ : eSt} {a1 : Int32} {z : Int64} {r : Int32 × eSt} (h : fX4_again σ a1 = some r) : WX p l e rmX4_again s m args below meth c (MQ below (cQ (dC, dI) (xW cI cZ ad) (xA ad) (some (.int r.1)) r.2 z) args s 0 0 (xA ad)) (dC, dI) (xW cI cZ ad) (xA ad) 2 σ z [(0, .ref (ad 0)), (1, .int a1)] 0 [] := by
  unfold fX4_again at h
  refine x_iload_n C dX4_again_0 rfl 1 rfl ?_
  refine x_if_lt (tgt := 9) C dX4_again_1 (by decide) h ?_ ?_
  · intro h
    refine x_iconst (v := (-1)) C dX4_again_9 ic_m1 ?_
    exact xr_wi C h dX4_again_10
  · intro h
    refine x_iload_n C dX4_again_4 rfl 1 rfl ?_
    refine x_iconst (v := 2) C dX4_again_5 ic_2 ?_
    refine x_icmp_lt (tgt := 11) C dX4_again_6 (by decide) h ?_ ?_
    · intro h
      refine x_aload_n C dX4_again_11 rfl 0 rfl ?_
      refine fg_4_6 C 0 rfl rfl k_1_133 dX4_again_12 ?_
      refine x_iload_n C dX4_again_15 rfl 1 rfl ?_
      refine x_iald C 16 0 rfl rfl dX4_again_16 h ?_
      intro h
      refine x_iconst (v := (-1)) C dX4_again_17 ic_m1 ?_
      refine x_icmp_ne (tgt := 24) C dX4_again_18 (by decide) h ?_ ?_
      · intro h
        refine x_aload_n C dX4_again_24 rfl 0 rfl ?_
        refine fg_4_2 C 0 rfl rfl k_1_129 dX4_again_25 ?_
        refine x_aload_n C dX4_again_28 rfl 0 rfl ?_
        refine fg_4_6 C 0 rfl rfl k_1_133 dX4_again_29 ?_
        refine x_iload_n C dX4_again_32 rfl 1 rfl ?_
        refine x_iald C 16 0 rfl rfl dX4_again_33 h ?_
        intro h
        obtain ⟨σ1, hv, h⟩ := e_bind h
        refine x_callV_v C (ci := 0) 9 [.int (σ 16 a1.toNatClampNeg)] (tX0_unpack hJ hv) k_2_85 k_2_86 k_2_87 k_1_4 k_2_88 hyX0_unpack ⟨rfl, rfl⟩ (by decide) rfl rfl rfl rfl (Nat.le_of_ble_eq_true rfl) dX4_again_34 ?_
        refine x_aload_n C dX4_again_37 rfl 0 rfl ?_
        refine x_iconst (v := 0) C dX4_again_38 ic_0 ?_
        refine fp_4_5 C 0 rfl (Nat.le_of_ble_eq_true rfl) k_1_132 h rfl dX4_again_39 ?_
        intro σ2 h
        refine x_aload_n C dX4_again_42 rfl 0 rfl ?_
        refine fg_4_2 C 0 rfl rfl k_1_129 dX4_again_43 ?_
        refine fg_0_1 C 9 rfl rfl k_1_73 dX4_again_46 ?_
        exact xr_wi C h dX4_again_49
      · intro h
        refine x_bipush (v := (-3)) C dX4_again_21 bi_m3 ?_
        exact xr_wi C h dX4_again_23
    · intro h
      refine x_iconst (v := (-1)) C dX4_again_9 ic_m1 ?_
      exact xr_wi C h dX4_again_10
set_option maxRecDepth 100000 in
set_option maxHeartbeats 4000000 in
theorem tX4_again {l : Launch} {dC : Nat → ClassId} {dI : Nat → Nat → Nat} {cI cZ : ClassId} {ad : Nat → Nat} (hJ : eInj 21 ad) {σ : eSt} {a1 : Int32} {z : Int64} {r : Int32 × eSt} (h : fX4_again σ a1 = some r) : Con l yX4_again cX4_again 2 (some .int) rmX4_again (dC, dI) (xW cI cZ ad) (xA ad) [(cI, .int), (cZ, .boolean)] (ExX ad) [.ref (ad 0), .int a1] σ z (some (.int r.1)) r.2 z :=
  x_con (by decide) (xW_D hJ) (ExX_ok ad) (Nat.le_of_ble_eq_true rfl) (fun p e s m args below meth c C => wX4_again_0 hJ C h)
set_option maxRecDepth 100000 in
set_option maxHeartbeats 4000000 in
theorem wX5_in_0 (hJ : eInj 16 ad) (C : Cx p s m args meth c (dC, dI) (yW cI cZ ad) (yA ad) ExY [(cI, .int), (cZ, .boolean)] cX5_in 6 RX5 (some .boolean) yX5_in) {σ : eSt} {a0 : Int64} {a2 : Int64} {a4 : Int64} {z : Int64} {r : Int32} (h : fX5_in a0 a2 a4 = some r) : WX p l e rmX5_in s m args below meth c (MQ below (cQ (dC, dI) (yW cI cZ ad) (yA ad) (some (.int r)) σ z) args s 0 0 (yA ad)) (dC, dI) (yW cI cZ ad) (yA ad) 6 σ z [(0, .long a0), (2, .long a2), (4, .long a4)] 0 [] := by
  unfold fX5_in at h
  refine x_lload_n C dX5_in_0 rfl 0 rfl ?_
  refine x_lload_n C dX5_in_1 rfl 1 rfl ?_
  refine x_lcmp C dX5_in_2 ?_
  refine x_if_lt (tgt := 17) C dX5_in_3 (by decide) h ?_ ?_
  · intro h
    refine x_iconst (v := 0) C dX5_in_17 ic_0 ?_
    exact xr_z C h dX5_in_18
  · intro h
    refine x_lload_n C dX5_in_6 rfl 0 rfl ?_
    refine x_lload C dX5_in_7 2 rfl ?_
    refine x_lcmp C dX5_in_9 ?_
    refine x_if_gt (tgt := 17) C dX5_in_10 (by decide) h ?_ ?_
    · intro h
      refine x_iconst (v := 0) C dX5_in_17 ic_0 ?_
      exact xr_z C h dX5_in_18
    · intro h
      refine x_iconst (v := 1) C dX5_in_13 ic_1 ?_
      refine x_goto (tgt := 18) C dX5_in_14 (by decide) ?_
      exact xr_z C h dX5_in_18
set_option maxRecDepth 100000 in
set_option maxHeartbeats 4000000 in
theorem tX5_in {l : Launch} {dC : Nat → ClassId} {dI : Nat → Nat → Nat} {cI cZ : ClassId} {ad : Nat → Nat} (hJ : eInj 16 ad) {a0 : Int64} {a2 : Int64} {a4 : Int64} {σ : eSt} {z : Int64} {r : Int32} (h : fX5_in a0 a2 a4 = some r) : Con l yX5_in cX5_in 6 (some .boolean) rmX5_in (dC, dI) (yW cI cZ ad) (yA ad) [(cI, .int), (cZ, .boolean)] ExY [.long a0, .long a2, .long a4] σ z (some (.int r)) σ z :=
  x_con (by decide) (yW_D hJ) (ExY_ok ad) (Nat.le_of_ble_eq_true rfl) (fun p e s m args below meth c C => wX5_in_0 hJ C h)
set_option maxRecDepth 100000 in
set_option maxHeartbeats 4000000 in
theorem wX5_has_0 (hJ : eInj 16 ad) (C : Cx p s m args meth c (dC, dI) (yW cI cZ ad) (yA ad) ExY [(cI, .int), (cZ, .boolean)] cX5_has 2 RX5 (some .boolean) yX5_has) {σ : eSt} {a0 : Int32} {a1 : Int32} {z : Int64} {r : Int32} (h : fX5_has a0 a1 = some r) : WX p l e rmX5_has s m args below meth c (MQ below (cQ (dC, dI) (yW cI cZ ad) (yA ad) (some (.int r)) σ z) args s 0 0 (yA ad)) (dC, dI) (yW cI cZ ad) (yA ad) 2 σ z [(0, .int a0), (1, .int a1)] 0 [] := by
  unfold fX5_has at h
  refine x_iload_n C dX5_has_0 rfl 0 rfl ?_
  refine x_iload_n C dX5_has_1 rfl 1 rfl ?_
  refine x_ishr C dX5_has_2 ?_
  refine x_iconst (v := 1) C dX5_has_3 ic_1 ?_
  refine x_iand C dX5_has_4 ?_
  refine x_iconst (v := 1) C dX5_has_5 ic_1 ?_
  refine x_icmp_ne (tgt := 13) C dX5_has_6 (by decide) h ?_ ?_
  · intro h
    refine x_iconst (v := 0) C dX5_has_13 ic_0 ?_
    exact xr_z C h dX5_has_14
  · intro h
    refine x_iconst (v := 1) C dX5_has_9 ic_1 ?_
    refine x_goto (tgt := 14) C dX5_has_10 (by decide) ?_
    exact xr_z C h dX5_has_14
set_option maxRecDepth 100000 in
set_option maxHeartbeats 4000000 in
theorem tX5_has {l : Launch} {dC : Nat → ClassId} {dI : Nat → Nat → Nat} {cI cZ : ClassId} {ad : Nat → Nat} (hJ : eInj 16 ad) {a0 : Int32} {a1 : Int32} {σ : eSt} {z : Int64} {r : Int32} (h : fX5_has a0 a1 = some r) : Con l yX5_has cX5_has 2 (some .boolean) rmX5_has (dC, dI) (yW cI cZ ad) (yA ad) [(cI, .int), (cZ, .boolean)] ExY [.int a0, .int a1] σ z (some (.int r)) σ z :=
  x_con (by decide) (yW_D hJ) (ExY_ok ad) (Nat.le_of_ble_eq_true rfl) (fun p e s m args below meth c C => wX5_has_0 hJ C h)
set_option maxRecDepth 100000 in
set_option maxHeartbeats 4000000 in
theorem wX5_bits_4 (hJ : eInj 16 ad) (C : Cx p s m args meth c (dC, dI) (yW cI cZ ad) (yA ad) ExY [(cI, .int), (cZ, .boolean)] cX5_bits 3 RX5 (some .int) yX5_bits) {σ : eSt} {a0 : Int32} {z : Int64} {r : Int32} : ∀ (n : Nat) (a1 : Int32) (a2 : Int32), lo_2 (bX5_bits_4 a0) n a1 a2 = some r → WX p l e rmX5_bits s m args below meth c (MQ below (cQ (dC, dI) (yW cI cZ ad) (yA ad) (some (.int r)) σ z) args s 0 0 (yA ad)) (dC, dI) (yW cI cZ ad) (yA ad) 3 σ z [(0, .int a0), (1, .int a1), (2, .int a2)] 4 [] := by
  refine lo_2_ind (P := fun a1 a2 => WX p l e rmX5_bits s m args below meth c (MQ below (cQ (dC, dI) (yW cI cZ ad) (yA ad) (some (.int r)) σ z) args s 0 0 (yA ad)) (dC, dI) (yW cI cZ ad) (yA ad) 3 σ z [(0, .int a0), (1, .int a1), (2, .int a2)] 4 []) ?_
  intro k4 hk4 a1 a2 h
  unfold bX5_bits_4 at h
  refine x_iload_n C dX5_bits_4 rfl 2 rfl ?_
  refine x_bipush (v := 10) C dX5_bits_5 bi_10 ?_
  refine x_icmp_ge (tgt := 24) C dX5_bits_7 (by decide) h ?_ ?_
  · intro h
    refine x_iload_n C dX5_bits_24 rfl 1 rfl ?_
    exact xr_i C h dX5_bits_25
  · intro h
    refine x_iload_n C dX5_bits_10 rfl 1 rfl ?_
    refine x_iload_n C dX5_bits_11 rfl 0 rfl ?_
    refine x_iload_n C dX5_bits_12 rfl 2 rfl ?_
    refine x_ishr C dX5_bits_13 ?_
    refine x_iconst (v := 1) C dX5_bits_14 ic_1 ?_
    refine x_iand C dX5_bits_15 ?_
    refine x_iadd C dX5_bits_16 ?_
    refine x_istore_n_b C (fun v1 => [(1, .int v1), (0, .int a0), (2, .int a2)]) dX5_bits_17 rfl (by decide) h (fun _ => rfl) ?_
    intro v1 h
    refine x_iinc_b (j := 2) (w := 1) C (fun v2 => [(2, .int v2), (1, .int v1), (0, .int a0)]) dX5_bits_18 ic_1 rfl (by decide) h (fun _ => rfl) ?_
    intro v2 h
    refine x_goto (tgt := 4) C dX5_bits_21 (by decide) ?_
    refine x_sub (lv' := [(0, .int a0), (1, .int v1), (2, .int v2)]) [2, 1, 0] rfl ?_
    exact hk4 _ _ h
set_option maxRecDepth 100000 in
set_option maxHeartbeats 4000000 in
theorem wX5_bits_0 (hJ : eInj 16 ad) (C : Cx p s m args meth c (dC, dI) (yW cI cZ ad) (yA ad) ExY [(cI, .int), (cZ, .boolean)] cX5_bits 3 RX5 (some .int) yX5_bits) {σ : eSt} {a0 : Int32} {z : Int64} {r : Int32} (h : fX5_bits a0 = some r) : WX p l e rmX5_bits s m args below meth c (MQ below (cQ (dC, dI) (yW cI cZ ad) (yA ad) (some (.int r)) σ z) args s 0 0 (yA ad)) (dC, dI) (yW cI cZ ad) (yA ad) 3 σ z [(0, .int a0)] 0 [] := by
  unfold fX5_bits at h
  refine x_iconst (v := 0) C dX5_bits_0 ic_0 ?_
  refine x_istore_n (lv' := [(1, .int 0), (0, .int a0)]) C dX5_bits_1 rfl (by decide) rfl ?_
  refine x_iconst (v := 0) C dX5_bits_2 ic_0 ?_
  refine x_istore_n (lv' := [(2, .int 0), (1, .int 0), (0, .int a0)]) C dX5_bits_3 rfl (by decide) rfl ?_
  refine x_sub (lv' := [(0, .int a0), (1, .int 0), (2, .int 0)]) [2, 1, 0] rfl ?_
  exact wX5_bits_4 hJ C _ _ _ h
set_option maxRecDepth 100000 in
set_option maxHeartbeats 4000000 in
theorem tX5_bits {l : Launch} {dC : Nat → ClassId} {dI : Nat → Nat → Nat} {cI cZ : ClassId} {ad : Nat → Nat} (hJ : eInj 16 ad) {a0 : Int32} {σ : eSt} {z : Int64} {r : Int32} (h : fX5_bits a0 = some r) : Con l yX5_bits cX5_bits 3 (some .int) rmX5_bits (dC, dI) (yW cI cZ ad) (yA ad) [(cI, .int), (cZ, .boolean)] ExY [.int a0] σ z (some (.int r)) σ z :=
  x_con (by decide) (yW_D hJ) (ExY_ok ad) (Nat.le_of_ble_eq_true rfl) (fun p e s m args below meth c C => wX5_bits_0 hJ C h)
set_option maxRecDepth 100000 in
set_option maxHeartbeats 4000000 in
theorem wX5_far_0 (hJ : eInj 16 ad) (C : Cx p s m args meth c (dC, dI) (yW cI cZ ad) (yA ad) ExY [(cI, .int), (cZ, .boolean)] cX5_far 2 RX5 (some .int) yX5_far) {σ : eSt} {a0 : Int32} {a1 : Int32} {z : Int64} {r : Int32} (h : fX5_far a0 a1 = some r) : WX p l e rmX5_far s m args below meth c (MQ below (cQ (dC, dI) (yW cI cZ ad) (yA ad) (some (.int r)) σ z) args s 0 0 (yA ad)) (dC, dI) (yW cI cZ ad) (yA ad) 2 σ z [(0, .int a0), (1, .int a1)] 0 [] := by
  unfold fX5_far at h
  refine x_iload_n C dX5_far_0 rfl 0 rfl ?_
  refine x_iload_n C dX5_far_1 rfl 1 rfl ?_
  refine x_icmp_ge (tgt := 11) C dX5_far_2 (by decide) h ?_ ?_
  · intro h
    refine x_iload_n C dX5_far_11 rfl 0 rfl ?_
    refine x_iload_n C dX5_far_12 rfl 1 rfl ?_
    refine x_isub C dX5_far_13 ?_
    exact xr_i C h dX5_far_14
  · intro h
    refine x_iload_n C dX5_far_5 rfl 1 rfl ?_
    refine x_iload_n C dX5_far_6 rfl 0 rfl ?_
    refine x_isub C dX5_far_7 ?_
    refine x_goto (tgt := 14) C dX5_far_8 (by decide) ?_
    exact xr_i C h dX5_far_14
set_option maxRecDepth 100000 in
set_option maxHeartbeats 4000000 in
theorem tX5_far {l : Launch} {dC : Nat → ClassId} {dI : Nat → Nat → Nat} {cI cZ : ClassId} {ad : Nat → Nat} (hJ : eInj 16 ad) {a0 : Int32} {a1 : Int32} {σ : eSt} {z : Int64} {r : Int32} (h : fX5_far a0 a1 = some r) : Con l yX5_far cX5_far 2 (some .int) rmX5_far (dC, dI) (yW cI cZ ad) (yA ad) [(cI, .int), (cZ, .boolean)] ExY [.int a0, .int a1] σ z (some (.int r)) σ z :=
  x_con (by decide) (yW_D hJ) (ExY_ok ad) (Nat.le_of_ble_eq_true rfl) (fun p e s m args below meth c C => wX5_far_0 hJ C h)
set_option maxRecDepth 100000 in
set_option maxHeartbeats 4000000 in
theorem wX5_noSound_0 (hJ : eInj 16 ad) (C : Cx p s m args meth c (dC, dI) (yW cI cZ ad) (yA ad) ExY [(cI, .int), (cZ, .boolean)] cX5_noSound 2 RX5 (some .boolean) yX5_noSound) {σ : eSt} {a1 : Int32} {z : Int64} {r : Int32} (h : fX5_noSound σ a1 = some r) : WX p l e rmX5_noSound s m args below meth c (MQ below (cQ (dC, dI) (yW cI cZ ad) (yA ad) (some (.int r)) σ z) args s 0 0 (yA ad)) (dC, dI) (yW cI cZ ad) (yA ad) 2 σ z [(0, .ref (ad 0)), (1, .int a1)] 0 [] := by
  unfold fX5_noSound at h
  refine x_iload_n C dX5_noSound_0 rfl 1 rfl ?_
  refine x_i2l C dX5_noSound_1 ?_
  refine x_lconst (v := 0) C dX5_noSound_2 rfl ?_
  refine x_aload_n C dX5_noSound_3 rfl 0 rfl ?_
  refine fg_5_4 C 0 rfl rfl k_3_13 dX5_noSound_4 ?_
  refine x_iconst (v := 1) C dX5_noSound_7 ic_1 ?_
  refine x_isub C dX5_noSound_8 ?_
  refine x_i2l C dX5_noSound_9 ?_
  obtain ⟨v1, hv, h⟩ := e_bind h
  refine x_callS_i C [.long (a1.toInt64), .long 0, .long (((σ 0 4) - 1).toInt64)] (tX5_in hJ hv) k_3_111 k_3_112 k_1_6 k_3_113 hyX5_in.2 ⟨rfl, rfl⟩ (by decide) rfl rfl (Nat.le_of_ble_eq_true rfl) dX5_noSound_10 ?_
  refine x_if_ne (tgt := 20) C dX5_noSound_13 (by decide) h ?_ ?_
  · intro h
    refine x_iconst (v := 0) C dX5_noSound_20 ic_0 ?_
    exact xr_z C h dX5_noSound_21
  · intro h
    refine x_iconst (v := 1) C dX5_noSound_16 ic_1 ?_
    refine x_goto (tgt := 21) C dX5_noSound_17 (by decide) ?_
    exact xr_z C h dX5_noSound_21
set_option maxRecDepth 100000 in
set_option maxHeartbeats 4000000 in
theorem tX5_noSound {l : Launch} {dC : Nat → ClassId} {dI : Nat → Nat → Nat} {cI cZ : ClassId} {ad : Nat → Nat} (hJ : eInj 16 ad) {σ : eSt} {a1 : Int32} {z : Int64} {r : Int32} (h : fX5_noSound σ a1 = some r) : Con l yX5_noSound cX5_noSound 2 (some .boolean) rmX5_noSound (dC, dI) (yW cI cZ ad) (yA ad) [(cI, .int), (cZ, .boolean)] ExY [.ref (ad 0), .int a1] σ z (some (.int r)) σ z :=
  x_con (by decide) (yW_D hJ) (ExY_ok ad) (Nat.le_of_ble_eq_true rfl) (fun p e s m args below meth c C => wX5_noSound_0 hJ C h)
set_option maxRecDepth 100000 in
set_option maxHeartbeats 4000000 in
theorem wX5_noCell_0 (hJ : eInj 16 ad) (C : Cx p s m args meth c (dC, dI) (yW cI cZ ad) (yA ad) ExY [(cI, .int), (cZ, .boolean)] cX5_noCell 1 RX5 (some .boolean) yX5_noCell) {σ : eSt} {a0 : Int32} {z : Int64} {r : Int32} (h : fX5_noCell a0 = some r) : WX p l e rmX5_noCell s m args below meth c (MQ below (cQ (dC, dI) (yW cI cZ ad) (yA ad) (some (.int r)) σ z) args s 0 0 (yA ad)) (dC, dI) (yW cI cZ ad) (yA ad) 1 σ z [(0, .int a0)] 0 [] := by
  unfold fX5_noCell at h
  refine x_iload_n C dX5_noCell_0 rfl 0 rfl ?_
  refine x_i2l C dX5_noCell_1 ?_
  refine x_lconst (v := 0) C dX5_noCell_2 rfl ?_
  refine x_ldc2 (v := 9) C dX5_noCell_3 k_3_176 ?_
  obtain ⟨v1, hv, h⟩ := e_bind h
  refine x_callS_i C [.long (a0.toInt64), .long 0, .long 9] (tX5_in hJ hv) k_3_111 k_3_112 k_1_6 k_3_113 hyX5_in.2 ⟨rfl, rfl⟩ (by decide) rfl rfl (Nat.le_of_ble_eq_true rfl) dX5_noCell_6 ?_
  refine x_if_ne (tgt := 16) C dX5_noCell_9 (by decide) h ?_ ?_
  · intro h
    refine x_iconst (v := 0) C dX5_noCell_16 ic_0 ?_
    exact xr_z C h dX5_noCell_17
  · intro h
    refine x_iconst (v := 1) C dX5_noCell_12 ic_1 ?_
    refine x_goto (tgt := 17) C dX5_noCell_13 (by decide) ?_
    exact xr_z C h dX5_noCell_17
set_option maxRecDepth 100000 in
set_option maxHeartbeats 4000000 in
theorem tX5_noCell {l : Launch} {dC : Nat → ClassId} {dI : Nat → Nat → Nat} {cI cZ : ClassId} {ad : Nat → Nat} (hJ : eInj 16 ad) {a0 : Int32} {σ : eSt} {z : Int64} {r : Int32} (h : fX5_noCell a0 = some r) : Con l yX5_noCell cX5_noCell 1 (some .boolean) rmX5_noCell (dC, dI) (yW cI cZ ad) (yA ad) [(cI, .int), (cZ, .boolean)] ExY [.int a0] σ z (some (.int r)) σ z :=
  x_con (by decide) (yW_D hJ) (ExY_ok ad) (Nat.le_of_ble_eq_true rfl) (fun p e s m args below meth c C => wX5_noCell_0 hJ C h)
set_option maxRecDepth 100000 in
set_option maxHeartbeats 4000000 in
theorem wX5_noHour_0 (hJ : eInj 16 ad) (C : Cx p s m args meth c (dC, dI) (yW cI cZ ad) (yA ad) ExY [(cI, .int), (cZ, .boolean)] cX5_noHour 1 RX5 (some .boolean) yX5_noHour) {σ : eSt} {a0 : Int32} {z : Int64} {r : Int32} (h : fX5_noHour a0 = some r) : WX p l e rmX5_noHour s m args below meth c (MQ below (cQ (dC, dI) (yW cI cZ ad) (yA ad) (some (.int r)) σ z) args s 0 0 (yA ad)) (dC, dI) (yW cI cZ ad) (yA ad) 1 σ z [(0, .int a0)] 0 [] := by
  unfold fX5_noHour at h
  refine x_iload_n C dX5_noHour_0 rfl 0 rfl ?_
  refine x_i2l C dX5_noHour_1 ?_
  refine x_lconst (v := 0) C dX5_noHour_2 rfl ?_
  refine x_ldc2 (v := 9) C dX5_noHour_3 k_3_176 ?_
  obtain ⟨v1, hv, h⟩ := e_bind h
  refine x_callS_i C [.long (a0.toInt64), .long 0, .long 9] (tX5_in hJ hv) k_3_111 k_3_112 k_1_6 k_3_113 hyX5_in.2 ⟨rfl, rfl⟩ (by decide) rfl rfl (Nat.le_of_ble_eq_true rfl) dX5_noHour_6 ?_
  refine x_if_ne (tgt := 16) C dX5_noHour_9 (by decide) h ?_ ?_
  · intro h
    refine x_iconst (v := 0) C dX5_noHour_16 ic_0 ?_
    exact xr_z C h dX5_noHour_17
  · intro h
    refine x_iconst (v := 1) C dX5_noHour_12 ic_1 ?_
    refine x_goto (tgt := 17) C dX5_noHour_13 (by decide) ?_
    exact xr_z C h dX5_noHour_17
set_option maxRecDepth 100000 in
set_option maxHeartbeats 4000000 in
theorem tX5_noHour {l : Launch} {dC : Nat → ClassId} {dI : Nat → Nat → Nat} {cI cZ : ClassId} {ad : Nat → Nat} (hJ : eInj 16 ad) {a0 : Int32} {σ : eSt} {z : Int64} {r : Int32} (h : fX5_noHour a0 = some r) : Con l yX5_noHour cX5_noHour 1 (some .boolean) rmX5_noHour (dC, dI) (yW cI cZ ad) (yA ad) [(cI, .int), (cZ, .boolean)] ExY [.int a0] σ z (some (.int r)) σ z :=
  x_con (by decide) (yW_D hJ) (ExY_ok ad) (Nat.le_of_ble_eq_true rfl) (fun p e s m args below meth c C => wX5_noHour_0 hJ C h)
set_option maxRecDepth 100000 in
set_option maxHeartbeats 4000000 in
theorem wX5_write_0 (hJ : eInj 16 ad) (C : Cx p s m args meth c (dC, dI) (yW cI cZ ad) (yA ad) ExY [(cI, .int), (cZ, .boolean)] cX5_write 2 RX5 (some .int) yX5_write) {σ : eSt} {a1 : Int32} {z : Int64} {r : Int32 × eSt} (h : fX5_write σ a1 = some r) : WX p l e rmX5_write s m args below meth c (MQ below (cQ (dC, dI) (yW cI cZ ad) (yA ad) (some (.int r.1)) r.2 z) args s 0 0 (yA ad)) (dC, dI) (yW cI cZ ad) (yA ad) 2 σ z [(0, .ref (ad 0)), (1, .int a1)] 0 [] := by
  unfold fX5_write at h
  refine x_aload_n C dX5_write_0 rfl 0 rfl ?_
  refine x_iconst (v := 0) C dX5_write_1 ic_0 ?_
  refine fp_5_0 C 0 rfl (Nat.le_of_ble_eq_true rfl) k_3_9 h rfl dX5_write_2 ?_
  intro σ1 h
  refine x_iload_n C dX5_write_5 rfl 1 rfl ?_
  refine x_i2l C dX5_write_6 ?_
  refine x_lconst (v := 0) C dX5_write_7 rfl ?_
  refine x_ldc2 (v := 255) C dX5_write_8 k_3_110 ?_
  obtain ⟨v2, hv, h⟩ := e_bind h
  refine x_callS_i C [.long (a1.toInt64), .long 0, .long 255] (tX5_in hJ hv) k_3_111 k_3_112 k_1_6 k_3_113 hyX5_in.2 ⟨rfl, rfl⟩ (by decide) rfl rfl (Nat.le_of_ble_eq_true rfl) dX5_write_11 ?_
  refine x_if_ne (tgt := 20) C dX5_write_14 (by decide) h ?_ ?_
  · intro h
    refine x_aload_n C dX5_write_20 rfl 0 rfl ?_
    refine fg_5_2 C 0 rfl rfl k_3_11 dX5_write_21 ?_
    refine x_bipush (v := 40) C dX5_write_24 bi_40 ?_
    refine x_icmp_ne (tgt := 32) C dX5_write_26 (by decide) h ?_ ?_
    · intro h
      refine x_aload_n C dX5_write_32 rfl 0 rfl ?_
      refine fg_5_1 C 0 rfl rfl k_3_10 dX5_write_33 ?_
      refine x_aload_n C dX5_write_36 rfl 0 rfl ?_
      refine fg_5_2 C 0 rfl rfl k_3_11 dX5_write_37 ?_
      refine x_iload_n C dX5_write_40 rfl 1 rfl ?_
      refine x_iast C 1 0 rfl rfl dX5_write_41 h rfl ?_
      intro σ3 h
      refine x_aload_n C dX5_write_42 rfl 0 rfl ?_
      refine x_dup C dX5_write_43 rfl ?_
      refine fg_5_2 C 0 rfl rfl k_3_11 dX5_write_44 ?_
      refine x_iconst (v := 1) C dX5_write_47 ic_1 ?_
      refine x_iadd C dX5_write_48 ?_
      refine fp_5_2 C 0 rfl (Nat.le_of_ble_eq_true rfl) k_3_11 h rfl dX5_write_49 ?_
      intro σ4 h
      refine x_aload_n C dX5_write_52 rfl 0 rfl ?_
      refine fg_5_2 C 0 rfl rfl k_3_11 dX5_write_53 ?_
      exact xr_wi C h dX5_write_56
    · intro h
      refine x_bipush (v := (-4)) C dX5_write_29 bi_m4 ?_
      exact xr_wi C h dX5_write_31
  · intro h
    refine x_bipush (v := (-2)) C dX5_write_17 bi_m2 ?_
    exact xr_wi C h dX5_write_19
set_option maxRecDepth 100000 in
set_option maxHeartbeats 4000000 in
theorem tX5_write {l : Launch} {dC : Nat → ClassId} {dI : Nat → Nat → Nat} {cI cZ : ClassId} {ad : Nat → Nat} (hJ : eInj 16 ad) {σ : eSt} {a1 : Int32} {z : Int64} {r : Int32 × eSt} (h : fX5_write σ a1 = some r) : Con l yX5_write cX5_write 2 (some .int) rmX5_write (dC, dI) (yW cI cZ ad) (yA ad) [(cI, .int), (cZ, .boolean)] ExY [.ref (ad 0), .int a1] σ z (some (.int r.1)) r.2 z :=
  x_con (by decide) (yW_D hJ) (ExY_ok ad) (Nat.le_of_ble_eq_true rfl) (fun p e s m args below meth c C => wX5_write_0 hJ C h)
set_option maxRecDepth 100000 in
set_option maxHeartbeats 4000000 in
theorem wX5_wipe_0 (hJ : eInj 16 ad) (C : Cx p s m args meth c (dC, dI) (yW cI cZ ad) (yA ad) ExY [(cI, .int), (cZ, .boolean)] cX5_wipe 2 RX5 (some .int) yX5_wipe) {σ : eSt} {z : Int64} {r : Int32 × eSt} (h : fX5_wipe σ = some r) : WX p l e rmX5_wipe s m args below meth c (MQ below (cQ (dC, dI) (yW cI cZ ad) (yA ad) (some (.int r.1)) r.2 z) args s 0 0 (yA ad)) (dC, dI) (yW cI cZ ad) (yA ad) 2 σ z [(0, .ref (ad 0))] 0 [] := by
  unfold fX5_wipe at h
  refine x_aload_n C dX5_wipe_0 rfl 0 rfl ?_
  refine x_iconst (v := 0) C dX5_wipe_1 ic_0 ?_
  refine fp_5_0 C 0 rfl (Nat.le_of_ble_eq_true rfl) k_3_9 h rfl dX5_wipe_2 ?_
  intro σ1 h
  refine x_aload_n C dX5_wipe_5 rfl 0 rfl ?_
  refine fg_5_2 C 0 rfl rfl k_3_11 dX5_wipe_6 ?_
  refine x_istore_n_b C (fun v2 => [(1, .int v2), (0, .ref (ad 0))]) dX5_wipe_9 rfl (by decide) h (fun _ => rfl) ?_
  intro v2 h
  refine x_aload_n C dX5_wipe_10 rfl 1 rfl ?_
  refine x_iconst (v := 0) C dX5_wipe_11 ic_0 ?_
  refine fp_5_2 C 0 rfl (Nat.le_of_ble_eq_true rfl) k_3_11 h rfl dX5_wipe_12 ?_
  intro σ3 h
  refine x_iload_n C dX5_wipe_15 rfl 0 rfl ?_
  exact xr_wi C h dX5_wipe_16
set_option maxRecDepth 100000 in
set_option maxHeartbeats 4000000 in
theorem tX5_wipe {l : Launch} {dC : Nat → ClassId} {dI : Nat → Nat → Nat} {cI cZ : ClassId} {ad : Nat → Nat} (hJ : eInj 16 ad) {σ : eSt} {z : Int64} {r : Int32 × eSt} (h : fX5_wipe σ = some r) : Con l yX5_wipe cX5_wipe 2 (some .int) rmX5_wipe (dC, dI) (yW cI cZ ad) (yA ad) [(cI, .int), (cZ, .boolean)] ExY [.ref (ad 0)] σ z (some (.int r.1)) r.2 z :=
  x_con (by decide) (yW_D hJ) (ExY_ok ad) (Nat.le_of_ble_eq_true rfl) (fun p e s m args below meth c C => wX5_wipe_0 hJ C h)
set_option maxRecDepth 100000 in
set_option maxHeartbeats 4000000 in
theorem wX5_figure_0 (hJ : eInj 16 ad) (C : Cx p s m args meth c (dC, dI) (yW cI cZ ad) (yA ad) ExY [(cI, .int), (cZ, .boolean)] cX5_figure 3 RX5 (some .int) yX5_figure) {σ : eSt} {a1 : Int32} {a2 : Int32} {z : Int64} {r : Int32 × eSt} (h : fX5_figure σ a1 a2 = some r) : WX p l e rmX5_figure s m args below meth c (MQ below (cQ (dC, dI) (yW cI cZ ad) (yA ad) (some (.int r.1)) r.2 z) args s 0 0 (yA ad)) (dC, dI) (yW cI cZ ad) (yA ad) 3 σ z [(0, .ref (ad 0)), (1, .int a1), (2, .int a2)] 0 [] := by
  unfold fX5_figure at h
  refine x_aload_n C dX5_figure_0 rfl 0 rfl ?_
  refine fg_5_3 C 0 rfl rfl k_3_12 dX5_figure_1 ?_
  refine x_aload_n C dX5_figure_4 rfl 0 rfl ?_
  refine fg_5_2 C 0 rfl rfl k_3_11 dX5_figure_5 ?_
  refine x_icmp_eq (tgt := 34) C dX5_figure_8 (by decide) h ?_ ?_
  · intro h
    refine x_bipush (v := (-9)) C dX5_figure_34 bi_m9 ?_
    exact xr_wi C h dX5_figure_36
  · intro h
    refine x_aload_n C dX5_figure_11 rfl 0 rfl ?_
    refine fg_5_1 C 0 rfl rfl k_3_10 dX5_figure_12 ?_
    refine x_aload_n C dX5_figure_15 rfl 0 rfl ?_
    refine fg_5_3 C 0 rfl rfl k_3_12 dX5_figure_16 ?_
    refine x_iald C 1 0 rfl rfl dX5_figure_19 h ?_
    intro h
    refine x_bipush (v := 48) C dX5_figure_20 bi_48 ?_
    refine x_isub C dX5_figure_22 ?_
    refine x_i2l C dX5_figure_23 ?_
    refine x_iload_n C dX5_figure_24 rfl 1 rfl ?_
    refine x_i2l C dX5_figure_25 ?_
    refine x_iload_n C dX5_figure_26 rfl 2 rfl ?_
    refine x_i2l C dX5_figure_27 ?_
    obtain ⟨v1, hv, h⟩ := e_bind h
    refine x_callS_i C [.long (((σ 1 (σ 0 3).toNatClampNeg) - 48).toInt64), .long (a1.toInt64), .long (a2.toInt64)] (tX5_in hJ hv) k_3_111 k_3_112 k_1_6 k_3_113 hyX5_in.2 ⟨rfl, rfl⟩ (by decide) rfl rfl (Nat.le_of_ble_eq_true rfl) dX5_figure_28 ?_
    refine x_if_ne (tgt := 37) C dX5_figure_31 (by decide) h ?_ ?_
    · intro h
      refine x_aload_n C dX5_figure_37 rfl 0 rfl ?_
      refine x_dup C dX5_figure_38 rfl ?_
      refine fg_5_3 C 0 rfl rfl k_3_12 dX5_figure_39 ?_
      refine x_iconst (v := 1) C dX5_figure_42 ic_1 ?_
      refine x_iadd C dX5_figure_43 ?_
      refine fp_5_3 C 0 rfl (Nat.le_of_ble_eq_true rfl) k_3_12 h rfl dX5_figure_44 ?_
      intro σ2 h
      refine x_aload_n C dX5_figure_47 rfl 0 rfl ?_
      refine fg_5_1 C 0 rfl rfl k_3_10 dX5_figure_48 ?_
      refine x_aload_n C dX5_figure_51 rfl 0 rfl ?_
      refine fg_5_3 C 0 rfl rfl k_3_12 dX5_figure_52 ?_
      refine x_iconst (v := 1) C dX5_figure_55 ic_1 ?_
      refine x_isub C dX5_figure_56 ?_
      refine x_iald C 1 0 rfl rfl dX5_figure_57 h ?_
      intro h
      refine x_bipush (v := 48) C dX5_figure_58 bi_48 ?_
      refine x_isub C dX5_figure_60 ?_
      exact xr_wi C h dX5_figure_61
    · intro h
      refine x_bipush (v := (-9)) C dX5_figure_34 bi_m9 ?_
      exact xr_wi C h dX5_figure_36
set_option maxRecDepth 100000 in
set_option maxHeartbeats 4000000 in
theorem tX5_figure {l : Launch} {dC : Nat → ClassId} {dI : Nat → Nat → Nat} {cI cZ : ClassId} {ad : Nat → Nat} (hJ : eInj 16 ad) {σ : eSt} {a1 : Int32} {a2 : Int32} {z : Int64} {r : Int32 × eSt} (h : fX5_figure σ a1 a2 = some r) : Con l yX5_figure cX5_figure 3 (some .int) rmX5_figure (dC, dI) (yW cI cZ ad) (yA ad) [(cI, .int), (cZ, .boolean)] ExY [.ref (ad 0), .int a1, .int a2] σ z (some (.int r.1)) r.2 z :=
  x_con (by decide) (yW_D hJ) (ExY_ok ad) (Nat.le_of_ble_eq_true rfl) (fun p e s m args below meth c C => wX5_figure_0 hJ C h)
set_option maxRecDepth 100000 in
set_option maxHeartbeats 4000000 in
theorem wX5_readHead_56 (hJ : eInj 16 ad) (C : Cx p s m args meth c (dC, dI) (yW cI cZ ad) (yA ad) ExY [(cI, .int), (cZ, .boolean)] cX5_readHead 1 RX5 (some .boolean) yX5_readHead) {σ : eSt} {s0 : Int32} {z : Int64} {r : Int32 × eSt} (h : fX5_readHead_56 σ s0 = some r) : WX p l e rmX5_readHead s m args below meth c (MQ below (cQ (dC, dI) (yW cI cZ ad) (yA ad) (some (.int r.1)) r.2 z) args s 0 0 (yA ad)) (dC, dI) (yW cI cZ ad) (yA ad) 1 σ z [(0, .ref (ad 0))] 56 [.int s0, .ref (ad 0)] := by
  unfold fX5_readHead_56 at h
  refine fp_5_9 C 0 rfl (Nat.le_of_ble_eq_true rfl) k_3_18 h rfl dX5_readHead_56 ?_
  intro σ1 h
  refine x_aload_n C dX5_readHead_59 rfl 0 rfl ?_
  refine fg_5_9 C 0 rfl rfl k_3_18 dX5_readHead_60 ?_
  refine x_bipush (v := (-9)) C dX5_readHead_63 bi_m9 ?_
  refine x_icmp_eq (tgt := 72) C dX5_readHead_65 (by decide) h ?_ ?_
  · intro h
    refine x_iconst (v := 0) C dX5_readHead_72 ic_0 ?_
    exact xr_wz C h dX5_readHead_73
  · intro h
    refine x_iconst (v := 1) C dX5_readHead_68 ic_1 ?_
    refine x_goto (tgt := 73) C dX5_readHead_69 (by decide) ?_
    exact xr_wz C h dX5_readHead_73
set_option maxRecDepth 100000 in
set_option maxHeartbeats 4000000 in
theorem wX5_readHead_32 (hJ : eInj 16 ad) (C : Cx p s m args meth c (dC, dI) (yW cI cZ ad) (yA ad) ExY [(cI, .int), (cZ, .boolean)] cX5_readHead 1 RX5 (some .boolean) yX5_readHead) {σ : eSt} {s0 : Int32} {z : Int64} {r : Int32 × eSt} (h : fX5_readHead_32 σ s0 = some r) : WX p l e rmX5_readHead s m args below meth c (MQ below (cQ (dC, dI) (yW cI cZ ad) (yA ad) (some (.int r.1)) r.2 z) args s 0 0 (yA ad)) (dC, dI) (yW cI cZ ad) (yA ad) 1 σ z [(0, .ref (ad 0))] 32 [.int s0, .ref (ad 0)] := by
  unfold fX5_readHead_32 at h
  refine fp_5_8 C 0 rfl (Nat.le_of_ble_eq_true rfl) k_3_17 h rfl dX5_readHead_32 ?_
  intro σ1 h
  refine x_aload_n C dX5_readHead_35 rfl 0 rfl ?_
  refine x_aload_n C dX5_readHead_36 rfl 0 rfl ?_
  refine fg_5_8 C 0 rfl rfl k_3_17 dX5_readHead_37 ?_
  refine x_bipush (v := (-9)) C dX5_readHead_40 bi_m9 ?_
  refine x_icmp_ne (tgt := 50) C dX5_readHead_42 (by decide) h ?_ ?_
  · intro h
    refine x_aload_n C dX5_readHead_50 rfl 0 rfl ?_
    refine x_iconst (v := 0) C dX5_readHead_51 ic_0 ?_
    refine x_iconst (v := 2) C dX5_readHead_52 ic_2 ?_
    obtain ⟨w2, hv, h⟩ := e_bind h
    refine x_callV_i C (ci := 5) 0 [.int 0, .int 2] (tX5_figure hJ hv) k_3_130 k_3_132 k_p_24 k_1_6 k_3_133 hyX5_figure ⟨rfl, rfl⟩ (by decide) rfl rfl rfl rfl (Nat.le_of_ble_eq_true rfl) dX5_readHead_53 ?_
    exact wX5_readHead_56 hJ C h
  · intro h
    refine x_bipush (v := (-9)) C dX5_readHead_45 bi_m9 ?_
    refine x_goto (tgt := 56) C dX5_readHead_47 (by decide) ?_
    exact wX5_readHead_56 hJ C h
set_option maxRecDepth 100000 in
set_option maxHeartbeats 4000000 in
theorem wX5_readHead_0 (hJ : eInj 16 ad) (C : Cx p s m args meth c (dC, dI) (yW cI cZ ad) (yA ad) ExY [(cI, .int), (cZ, .boolean)] cX5_readHead 1 RX5 (some .boolean) yX5_readHead) {σ : eSt} {z : Int64} {r : Int32 × eSt} (h : fX5_readHead σ = some r) : WX p l e rmX5_readHead s m args below meth c (MQ below (cQ (dC, dI) (yW cI cZ ad) (yA ad) (some (.int r.1)) r.2 z) args s 0 0 (yA ad)) (dC, dI) (yW cI cZ ad) (yA ad) 1 σ z [(0, .ref (ad 0))] 0 [] := by
  unfold fX5_readHead at h
  refine x_aload_n C dX5_readHead_0 rfl 0 rfl ?_
  refine x_aload_n C dX5_readHead_1 rfl 0 rfl ?_
  refine x_iconst (v := 0) C dX5_readHead_2 ic_0 ?_
  refine x_bipush (v := 9) C dX5_readHead_3 bi_9 ?_
  obtain ⟨w1, hv, h⟩ := e_bind h
  refine x_callV_i C (ci := 5) 0 [.int 0, .int 9] (tX5_figure hJ hv) k_3_130 k_3_132 k_p_24 k_1_6 k_3_133 hyX5_figure ⟨rfl, rfl⟩ (by decide) rfl rfl rfl rfl (Nat.le_of_ble_eq_true rfl) dX5_readHead_5 ?_
  refine fp_5_7 C 0 rfl (Nat.le_of_ble_eq_true rfl) k_3_16 h rfl dX5_readHead_8 ?_
  intro σ2 h
  refine x_aload_n C dX5_readHead_11 rfl 0 rfl ?_
  refine x_aload_n C dX5_readHead_12 rfl 0 rfl ?_
  refine fg_5_7 C 0 rfl rfl k_3_16 dX5_readHead_13 ?_
  refine x_bipush (v := (-9)) C dX5_readHead_16 bi_m9 ?_
  refine x_icmp_ne (tgt := 26) C dX5_readHead_18 (by decide) h ?_ ?_
  · intro h
    refine x_aload_n C dX5_readHead_26 rfl 0 rfl ?_
    refine x_iconst (v := 0) C dX5_readHead_27 ic_0 ?_
    refine x_iconst (v := 4) C dX5_readHead_28 ic_4 ?_
    obtain ⟨w3, hv, h⟩ := e_bind h
    refine x_callV_i C (ci := 5) 0 [.int 0, .int 4] (tX5_figure hJ hv) k_3_130 k_3_132 k_p_24 k_1_6 k_3_133 hyX5_figure ⟨rfl, rfl⟩ (by decide) rfl rfl rfl rfl (Nat.le_of_ble_eq_true rfl) dX5_readHead_29 ?_
    exact wX5_readHead_32 hJ C h
  · intro h
    refine x_bipush (v := (-9)) C dX5_readHead_21 bi_m9 ?_
    refine x_goto (tgt := 32) C dX5_readHead_23 (by decide) ?_
    exact wX5_readHead_32 hJ C h
set_option maxRecDepth 100000 in
set_option maxHeartbeats 4000000 in
theorem tX5_readHead {l : Launch} {dC : Nat → ClassId} {dI : Nat → Nat → Nat} {cI cZ : ClassId} {ad : Nat → Nat} (hJ : eInj 16 ad) {σ : eSt} {z : Int64} {r : Int32 × eSt} (h : fX5_readHead σ = some r) : Con l yX5_readHead cX5_readHead 1 (some .boolean) rmX5_readHead (dC, dI) (yW cI cZ ad) (yA ad) [(cI, .int), (cZ, .boolean)] ExY [.ref (ad 0)] σ z (some (.int r.1)) r.2 z :=
  x_con (by decide) (yW_D hJ) (ExY_ok ad) (Nat.le_of_ble_eq_true rfl) (fun p e s m args below meth c C => wX5_readHead_0 hJ C h)
set_option maxRecDepth 100000 in
set_option maxHeartbeats 4000000 in
theorem wX5_readPart_54 (hJ : eInj 16 ad) (C : Cx p s m args meth c (dC, dI) (yW cI cZ ad) (yA ad) ExY [(cI, .int), (cZ, .boolean)] cX5_readPart 5 RX5 (some .boolean) yX5_readPart) {σ : eSt} {a1 : Int32} {a2 : Int32} {s0 : Int32} {s1 : Int32} {z : Int64} {r : Int32 × eSt} {k9 : Int32 → eSt → Option (Int32 × eSt)} (hk9 : ∀ (a2 : Int32) (σ : eSt), k9 a2 σ = some r → WX p l e rmX5_readPart s m args below meth c (MQ below (cQ (dC, dI) (yW cI cZ ad) (yA ad) (some (.int r.1)) r.2 z) args s 0 0 (yA ad)) (dC, dI) (yW cI cZ ad) (yA ad) 5 σ z [(0, .ref (ad 0)), (1, .int a1), (2, .int a2)] 9 []) (h : fX5_readPart_54 k9 σ a1 a2 s0 s1 = some r) : WX p l e rmX5_readPart s m args below meth c (MQ below (cQ (dC, dI) (yW cI cZ ad) (yA ad) (some (.int r.1)) r.2 z) args s 0 0 (yA ad)) (dC, dI) (yW cI cZ ad) (yA ad) 5 σ z [(0, .ref (ad 0)), (1, .int a1), (2, .int a2)] 54 [.int s0, .int s1, .ref (ad 0)] := by
  unfold fX5_readPart_54 at h
  obtain ⟨w1, hv, h⟩ := e_bind h
  refine x_callV_i C (ci := 5) 0 [.int s1, .int s0] (tX5_figure hJ hv) k_3_130 k_3_132 k_p_24 k_1_6 k_3_133 hyX5_figure ⟨rfl, rfl⟩ (by decide) rfl rfl rfl rfl (Nat.le_of_ble_eq_true rfl) dX5_readPart_54 ?_
  refine x_istore (lv' := [(4, .int w1.1), (0, .ref (ad 0)), (1, .int a1), (2, .int a2)]) C dX5_readPart_57 (by decide) rfl ?_
  refine x_iload C dX5_readPart_59 0 rfl ?_
  refine x_bipush (v := (-9)) C dX5_readPart_61 bi_m9 ?_
  refine x_icmp_ne (tgt := 68) C dX5_readPart_63 (by decide) h ?_ ?_
  · intro h
    refine x_aload_n C dX5_readPart_68 rfl 1 rfl ?_
    refine fg_5_10 C 0 rfl rfl k_3_19 dX5_readPart_69 ?_
    refine x_iload_n C dX5_readPart_72 rfl 2 rfl ?_
    refine x_iload_n C dX5_readPart_73 rfl 3 rfl ?_
    refine x_iadd C dX5_readPart_74 ?_
    refine x_iload C dX5_readPart_75 0 rfl ?_
    refine x_iast C 3 0 rfl rfl dX5_readPart_77 h rfl ?_
    intro σ2 h
    refine x_iinc_b (j := 3) (w := 1) C (fun v3 => [(2, .int v3), (4, .int w1.1), (0, .ref (ad 0)), (1, .int a1)]) dX5_readPart_78 ic_1 rfl (by decide) h (fun _ => rfl) ?_
    intro v3 h
    refine x_goto (tgt := 9) C dX5_readPart_81 (by decide) ?_
    refine x_sub (lv' := [(0, .ref (ad 0)), (1, .int a1), (2, .int v3)]) [2, 3, 0] rfl ?_
    exact hk9 _ _ h
  · intro h
    refine x_iconst (v := 0) C dX5_readPart_66 ic_0 ?_
    exact xr_wz C h dX5_readPart_67
set_option maxRecDepth 100000 in
set_option maxHeartbeats 4000000 in
theorem wX5_readPart_40 (hJ : eInj 16 ad) (C : Cx p s m args meth c (dC, dI) (yW cI cZ ad) (yA ad) ExY [(cI, .int), (cZ, .boolean)] cX5_readPart 5 RX5 (some .boolean) yX5_readPart) {σ : eSt} {a1 : Int32} {a2 : Int32} {s0 : Int32} {z : Int64} {r : Int32 × eSt} {k9 : Int32 → eSt → Option (Int32 × eSt)} (hk9 : ∀ (a2 : Int32) (σ : eSt), k9 a2 σ = some r → WX p l e rmX5_readPart s m args below meth c (MQ below (cQ (dC, dI) (yW cI cZ ad) (yA ad) (some (.int r.1)) r.2 z) args s 0 0 (yA ad)) (dC, dI) (yW cI cZ ad) (yA ad) 5 σ z [(0, .ref (ad 0)), (1, .int a1), (2, .int a2)] 9 []) (h : fX5_readPart_40 k9 σ a1 a2 s0 = some r) : WX p l e rmX5_readPart s m args below meth c (MQ below (cQ (dC, dI) (yW cI cZ ad) (yA ad) (some (.int r.1)) r.2 z) args s 0 0 (yA ad)) (dC, dI) (yW cI cZ ad) (yA ad) 5 σ z [(0, .ref (ad 0)), (1, .int a1), (2, .int a2)] 40 [.int s0] := by
  unfold fX5_readPart_40 at h
  refine x_istore_n (lv' := [(3, .int s0), (0, .ref (ad 0)), (1, .int a1), (2, .int a2)]) C dX5_readPart_40 rfl (by decide) rfl ?_
  refine x_aload_n C dX5_readPart_41 rfl 1 rfl ?_
  refine x_iload_n C dX5_readPart_42 rfl 0 rfl ?_
  refine x_iload_n C dX5_readPart_43 rfl 3 rfl ?_
  refine x_iconst (v := 4) C dX5_readPart_44 ic_4 ?_
  refine x_icmp_ne (tgt := 52) C dX5_readPart_45 (by decide) h ?_ ?_
  · intro h
    refine x_bipush (v := 9) C dX5_readPart_52 bi_9 ?_
    refine x_sub (lv' := [(0, .ref (ad 0)), (1, .int a1), (2, .int a2)]) [1, 2, 3] rfl ?_
    exact wX5_readPart_54 hJ C hk9 h
  · intro h
    refine x_iconst (v := 3) C dX5_readPart_48 ic_3 ?_
    refine x_goto (tgt := 54) C dX5_readPart_49 (by decide) ?_
    refine x_sub (lv' := [(0, .ref (ad 0)), (1, .int a1), (2, .int a2)]) [1, 2, 3] rfl ?_
    exact wX5_readPart_54 hJ C hk9 h
set_option maxRecDepth 100000 in
set_option maxHeartbeats 4000000 in
theorem wX5_readPart_9 (hJ : eInj 16 ad) (C : Cx p s m args meth c (dC, dI) (yW cI cZ ad) (yA ad) ExY [(cI, .int), (cZ, .boolean)] cX5_readPart 5 RX5 (some .boolean) yX5_readPart) {a1 : Int32} {z : Int64} {r : Int32 × eSt} : ∀ (n : Nat) (a2 : Int32) (σ : eSt), lo_2 (bX5_readPart_9 a1) n a2 σ = some r → WX p l e rmX5_readPart s m args below meth c (MQ below (cQ (dC, dI) (yW cI cZ ad) (yA ad) (some (.int r.1)) r.2 z) args s 0 0 (yA ad)) (dC, dI) (yW cI cZ ad) (yA ad) 5 σ z [(0, .ref (ad 0)), (1, .int a1), (2, .int a2)] 9 [] := by
  refine lo_2_ind (P := fun a2 σ => WX p l e rmX5_readPart s m args below meth c (MQ below (cQ (dC, dI) (yW cI cZ ad) (yA ad) (some (.int r.1)) r.2 z) args s 0 0 (yA ad)) (dC, dI) (yW cI cZ ad) (yA ad) 5 σ z [(0, .ref (ad 0)), (1, .int a1), (2, .int a2)] 9 []) ?_
  intro k9 hk9 a2 σ h
  unfold bX5_readPart_9 at h
  refine x_iload_n C dX5_readPart_9 rfl 2 rfl ?_
  refine x_iconst (v := 5) C dX5_readPart_10 ic_5 ?_
  refine x_icmp_ge (tgt := 84) C dX5_readPart_11 (by decide) h ?_ ?_
  · intro h
    refine x_aload_n C dX5_readPart_84 rfl 0 rfl ?_
    refine x_dup C dX5_readPart_85 rfl ?_
    refine fg_5_6 C 0 rfl rfl k_3_15 dX5_readPart_86 ?_
    refine x_iconst (v := 1) C dX5_readPart_89 ic_1 ?_
    refine x_iadd C dX5_readPart_90 ?_
    refine fp_5_6 C 0 rfl (Nat.le_of_ble_eq_true rfl) k_3_15 h rfl dX5_readPart_91 ?_
    intro σ1 h
    refine x_iconst (v := 1) C dX5_readPart_94 ic_1 ?_
    exact xr_wz C h dX5_readPart_95
  · intro h
    refine x_iload_n C dX5_readPart_14 rfl 2 rfl ?_
    refine x_iconst (v := 1) C dX5_readPart_15 ic_1 ?_
    refine x_icmp_ne (tgt := 23) C dX5_readPart_16 (by decide) h ?_ ?_
    · intro h
      refine x_iload_n C dX5_readPart_23 rfl 2 rfl ?_
      refine x_iconst (v := 3) C dX5_readPart_24 ic_3 ?_
      refine x_icmp_ne (tgt := 39) C dX5_readPart_25 (by decide) h ?_ ?_
      · intro h
        refine x_iconst (v := 0) C dX5_readPart_39 ic_0 ?_
        exact wX5_readPart_40 hJ C hk9 h
      · intro h
        refine x_aload_n C dX5_readPart_28 rfl 0 rfl ?_
        refine fg_5_10 C 0 rfl rfl k_3_19 dX5_readPart_29 ?_
        refine x_iload_n C dX5_readPart_32 rfl 1 rfl ?_
        refine x_iconst (v := 2) C dX5_readPart_33 ic_2 ?_
        refine x_iadd C dX5_readPart_34 ?_
        refine x_iald C 3 0 rfl rfl dX5_readPart_35 h ?_
        intro h
        refine x_goto (tgt := 40) C dX5_readPart_36 (by decide) ?_
        exact wX5_readPart_40 hJ C hk9 h
    · intro h
      refine x_iconst (v := 1) C dX5_readPart_19 ic_1 ?_
      refine x_goto (tgt := 40) C dX5_readPart_20 (by decide) ?_
      exact wX5_readPart_40 hJ C hk9 h
set_option maxRecDepth 100000 in
set_option maxHeartbeats 4000000 in
theorem wX5_readPart_0 (hJ : eInj 16 ad) (C : Cx p s m args meth c (dC, dI) (yW cI cZ ad) (yA ad) ExY [(cI, .int), (cZ, .boolean)] cX5_readPart 5 RX5 (some .boolean) yX5_readPart) {σ : eSt} {z : Int64} {r : Int32 × eSt} (h : fX5_readPart σ = some r) : WX p l e rmX5_readPart s m args below meth c (MQ below (cQ (dC, dI) (yW cI cZ ad) (yA ad) (some (.int r.1)) r.2 z) args s 0 0 (yA ad)) (dC, dI) (yW cI cZ ad) (yA ad) 5 σ z [(0, .ref (ad 0))] 0 [] := by
  unfold fX5_readPart at h
  refine x_iconst (v := 5) C dX5_readPart_0 ic_5 ?_
  refine x_aload_n C dX5_readPart_1 rfl 0 rfl ?_
  refine fg_5_6 C 0 rfl rfl k_3_15 dX5_readPart_2 ?_
  refine x_imul C dX5_readPart_5 ?_
  refine x_istore_n_b C (fun v1 => [(1, .int v1), (0, .ref (ad 0))]) dX5_readPart_6 rfl (by decide) h (fun _ => rfl) ?_
  intro v1 h
  refine x_iconst (v := 0) C dX5_readPart_7 ic_0 ?_
  refine x_istore_n (lv' := [(2, .int 0), (1, .int v1), (0, .ref (ad 0))]) C dX5_readPart_8 rfl (by decide) rfl ?_
  refine x_sub (lv' := [(0, .ref (ad 0)), (1, .int v1), (2, .int 0)]) [2, 1, 0] rfl ?_
  exact wX5_readPart_9 hJ C _ _ _ h
set_option maxRecDepth 100000 in
set_option maxHeartbeats 4000000 in
theorem tX5_readPart {l : Launch} {dC : Nat → ClassId} {dI : Nat → Nat → Nat} {cI cZ : ClassId} {ad : Nat → Nat} (hJ : eInj 16 ad) {σ : eSt} {z : Int64} {r : Int32 × eSt} (h : fX5_readPart σ = some r) : Con l yX5_readPart cX5_readPart 5 (some .boolean) rmX5_readPart (dC, dI) (yW cI cZ ad) (yA ad) [(cI, .int), (cZ, .boolean)] ExY [.ref (ad 0)] σ z (some (.int r.1)) r.2 z :=
  x_con (by decide) (yW_D hJ) (ExY_ok ad) (Nat.le_of_ble_eq_true rfl) (fun p e s m args below meth c C => wX5_readPart_0 hJ C h)
set_option maxRecDepth 100000 in
set_option maxHeartbeats 4000000 in
theorem wX5_readRiver_47 (hJ : eInj 16 ad) (C : Cx p s m args meth c (dC, dI) (yW cI cZ ad) (yA ad) ExY [(cI, .int), (cZ, .boolean)] cX5_readRiver 1 RX5 (some .int) yX5_readRiver) {z : Int64} {r : Int32 × eSt} : ∀ (n : Nat) (σ : eSt), lo_1 (bX5_readRiver_47) n σ = some r → WX p l e rmX5_readRiver s m args below meth c (MQ below (cQ (dC, dI) (yW cI cZ ad) (yA ad) (some (.int r.1)) r.2 z) args s 0 0 (yA ad)) (dC, dI) (yW cI cZ ad) (yA ad) 1 σ z [(0, .ref (ad 0))] 47 [] := by
  refine lo_1_ind (P := fun σ => WX p l e rmX5_readRiver s m args below meth c (MQ below (cQ (dC, dI) (yW cI cZ ad) (yA ad) (some (.int r.1)) r.2 z) args s 0 0 (yA ad)) (dC, dI) (yW cI cZ ad) (yA ad) 1 σ z [(0, .ref (ad 0))] 47 []) ?_
  intro k47 hk47 σ h
  unfold bX5_readRiver_47 at h
  refine x_aload_n C dX5_readRiver_47 rfl 0 rfl ?_
  refine fg_5_3 C 0 rfl rfl k_3_12 dX5_readRiver_48 ?_
  refine x_aload_n C dX5_readRiver_51 rfl 0 rfl ?_
  refine fg_5_2 C 0 rfl rfl k_3_11 dX5_readRiver_52 ?_
  refine x_icmp_ge (tgt := 108) C dX5_readRiver_55 (by decide) h ?_ ?_
  · intro h
    refine x_bipush (v := (-9)) C dX5_readRiver_108 bi_m9 ?_
    exact xr_wi C h dX5_readRiver_110
  · intro h
    refine x_aload_n C dX5_readRiver_58 rfl 0 rfl ?_
    refine fg_5_1 C 0 rfl rfl k_3_10 dX5_readRiver_59 ?_
    refine x_aload_n C dX5_readRiver_62 rfl 0 rfl ?_
    refine fg_5_3 C 0 rfl rfl k_3_12 dX5_readRiver_63 ?_
    refine x_iald C 1 0 rfl rfl dX5_readRiver_66 h ?_
    intro h
    refine x_bipush (v := 83) C dX5_readRiver_67 bi_83 ?_
    refine x_icmp_ne (tgt := 81) C dX5_readRiver_69 (by decide) h ?_ ?_
    · intro h
      refine x_aload_n C dX5_readRiver_81 rfl 0 rfl ?_
      refine fg_5_3 C 0 rfl rfl k_3_12 dX5_readRiver_82 ?_
      exact xr_wi C h dX5_readRiver_85
    · intro h
      refine x_aload_n C dX5_readRiver_72 rfl 0 rfl ?_
      refine fg_5_6 C 0 rfl rfl k_3_15 dX5_readRiver_73 ?_
      refine x_bipush (v := 6) C dX5_readRiver_76 bi_6 ?_
      refine x_icmp_ne (tgt := 86) C dX5_readRiver_78 (by decide) h ?_ ?_
      · intro h
        refine x_aload_n C dX5_readRiver_86 rfl 0 rfl ?_
        refine x_dup C dX5_readRiver_87 rfl ?_
        refine fg_5_3 C 0 rfl rfl k_3_12 dX5_readRiver_88 ?_
        refine x_iconst (v := 1) C dX5_readRiver_91 ic_1 ?_
        refine x_iadd C dX5_readRiver_92 ?_
        refine fp_5_3 C 0 rfl (Nat.le_of_ble_eq_true rfl) k_3_12 h rfl dX5_readRiver_93 ?_
        intro σ1 h
        refine x_aload_n C dX5_readRiver_96 rfl 0 rfl ?_
        obtain ⟨w2, hv, h⟩ := e_bind h
        refine x_callV_i C (ci := 5) 0 [] (tX5_readPart hJ hv) k_3_134 k_3_136 k_p_25 k_1_6 k_3_137 hyX5_readPart ⟨rfl, rfl⟩ (by decide) rfl rfl rfl rfl (Nat.le_of_ble_eq_true rfl) dX5_readRiver_97 ?_
        refine x_if_ne (tgt := 47) C dX5_readRiver_100 (by decide) h ?_ ?_
        · intro h
          exact hk47 _ h
        · intro h
          refine x_aload_n C dX5_readRiver_103 rfl 0 rfl ?_
          refine fg_5_3 C 0 rfl rfl k_3_12 dX5_readRiver_104 ?_
          exact xr_wi C h dX5_readRiver_107
      · intro h
        refine x_aload_n C dX5_readRiver_81 rfl 0 rfl ?_
        refine fg_5_3 C 0 rfl rfl k_3_12 dX5_readRiver_82 ?_
        exact xr_wi C h dX5_readRiver_85
set_option maxRecDepth 100000 in
set_option maxHeartbeats 4000000 in
theorem wX5_readRiver_0 (hJ : eInj 16 ad) (C : Cx p s m args meth c (dC, dI) (yW cI cZ ad) (yA ad) ExY [(cI, .int), (cZ, .boolean)] cX5_readRiver 1 RX5 (some .int) yX5_readRiver) {σ : eSt} {z : Int64} {r : Int32 × eSt} (h : fX5_readRiver σ = some r) : WX p l e rmX5_readRiver s m args below meth c (MQ below (cQ (dC, dI) (yW cI cZ ad) (yA ad) (some (.int r.1)) r.2 z) args s 0 0 (yA ad)) (dC, dI) (yW cI cZ ad) (yA ad) 1 σ z [(0, .ref (ad 0))] 0 [] := by
  unfold fX5_readRiver at h
  refine x_aload_n C dX5_readRiver_0 rfl 0 rfl ?_
  refine x_iconst (v := 0) C dX5_readRiver_1 ic_0 ?_
  refine fp_5_3 C 0 rfl (Nat.le_of_ble_eq_true rfl) k_3_12 h rfl dX5_readRiver_2 ?_
  intro σ1 h
  refine x_aload_n C dX5_readRiver_5 rfl 0 rfl ?_
  refine x_iconst (v := 0) C dX5_readRiver_6 ic_0 ?_
  refine fp_5_6 C 0 rfl (Nat.le_of_ble_eq_true rfl) k_3_15 h rfl dX5_readRiver_7 ?_
  intro σ2 h
  refine x_aload_n C dX5_readRiver_10 rfl 0 rfl ?_
  refine fg_5_2 C 0 rfl rfl k_3_11 dX5_readRiver_11 ?_
  refine x_if_eq (tgt := 28) C dX5_readRiver_14 (by decide) h ?_ ?_
  · intro h
    refine x_iconst (v := 0) C dX5_readRiver_28 ic_0 ?_
    exact xr_wi C h dX5_readRiver_29
  · intro h
    refine x_aload_n C dX5_readRiver_17 rfl 0 rfl ?_
    refine fg_5_1 C 0 rfl rfl k_3_10 dX5_readRiver_18 ?_
    refine x_iconst (v := 0) C dX5_readRiver_21 ic_0 ?_
    refine x_iald_c C 1 0 0 rfl rfl dX5_readRiver_22 (by decide) (by decide) ?_
    refine x_bipush (v := 82) C dX5_readRiver_23 bi_82 ?_
    refine x_icmp_eq (tgt := 30) C dX5_readRiver_25 (by decide) h ?_ ?_
    · intro h
      refine x_aload_n C dX5_readRiver_30 rfl 0 rfl ?_
      refine x_iconst (v := 1) C dX5_readRiver_31 ic_1 ?_
      refine fp_5_3 C 0 rfl (Nat.le_of_ble_eq_true rfl) k_3_12 h rfl dX5_readRiver_32 ?_
      intro σ3 h
      refine x_aload_n C dX5_readRiver_35 rfl 0 rfl ?_
      obtain ⟨w4, hv, h⟩ := e_bind h
      refine x_callV_i C (ci := 5) 0 [] (tX5_readHead hJ hv) k_3_126 k_3_128 k_p_23 k_1_6 k_3_129 hyX5_readHead ⟨rfl, rfl⟩ (by decide) rfl rfl rfl rfl (Nat.le_of_ble_eq_true rfl) dX5_readRiver_36 ?_
      refine x_if_ne (tgt := 47) C dX5_readRiver_39 (by decide) h ?_ ?_
      · intro h
        exact wX5_readRiver_47 hJ C _ _ h
      · intro h
        refine x_aload_n C dX5_readRiver_42 rfl 0 rfl ?_
        refine fg_5_3 C 0 rfl rfl k_3_12 dX5_readRiver_43 ?_
        exact xr_wi C h dX5_readRiver_46
    · intro h
      refine x_iconst (v := 0) C dX5_readRiver_28 ic_0 ?_
      exact xr_wi C h dX5_readRiver_29
set_option maxRecDepth 100000 in
set_option maxHeartbeats 4000000 in
theorem tX5_readRiver {l : Launch} {dC : Nat → ClassId} {dI : Nat → Nat → Nat} {cI cZ : ClassId} {ad : Nat → Nat} (hJ : eInj 16 ad) {σ : eSt} {z : Int64} {r : Int32 × eSt} (h : fX5_readRiver σ = some r) : Con l yX5_readRiver cX5_readRiver 1 (some .int) rmX5_readRiver (dC, dI) (yW cI cZ ad) (yA ad) [(cI, .int), (cZ, .boolean)] ExY [.ref (ad 0)] σ z (some (.int r.1)) r.2 z :=
  x_con (by decide) (yW_D hJ) (ExY_ok ad) (Nat.le_of_ble_eq_true rfl) (fun p e s m args below meth c C => wX5_readRiver_0 hJ C h)
set_option maxRecDepth 100000 in
set_option maxHeartbeats 4000000 in
theorem wX5_fault_0 (hJ : eInj 16 ad) (C : Cx p s m args meth c (dC, dI) (yW cI cZ ad) (yA ad) ExY [(cI, .int), (cZ, .boolean)] cX5_fault 1 RX5 (some .int) yX5_fault) {σ : eSt} {z : Int64} {r : Int32 × eSt} (h : fX5_fault σ = some r) : WX p l e rmX5_fault s m args below meth c (MQ below (cQ (dC, dI) (yW cI cZ ad) (yA ad) (some (.int r.1)) r.2 z) args s 0 0 (yA ad)) (dC, dI) (yW cI cZ ad) (yA ad) 1 σ z [(0, .ref (ad 0))] 0 [] := by
  unfold fX5_fault at h
  refine x_aload_n C dX5_fault_0 rfl 0 rfl ?_
  refine x_iconst (v := 0) C dX5_fault_1 ic_0 ?_
  refine fp_5_0 C 0 rfl (Nat.le_of_ble_eq_true rfl) k_3_9 h rfl dX5_fault_2 ?_
  intro σ1 h
  refine x_aload_n C dX5_fault_5 rfl 0 rfl ?_
  obtain ⟨w2, hv, h⟩ := e_bind h
  refine x_callV_i C (ci := 5) 0 [] (tX5_readRiver hJ hv) k_3_122 k_3_124 k_p_22 k_1_6 k_3_125 hyX5_readRiver ⟨rfl, rfl⟩ (by decide) rfl rfl rfl rfl (Nat.le_of_ble_eq_true rfl) dX5_fault_6 ?_
  exact xr_wi C h dX5_fault_9
set_option maxRecDepth 100000 in
set_option maxHeartbeats 4000000 in
theorem tX5_fault {l : Launch} {dC : Nat → ClassId} {dI : Nat → Nat → Nat} {cI cZ : ClassId} {ad : Nat → Nat} (hJ : eInj 16 ad) {σ : eSt} {z : Int64} {r : Int32 × eSt} (h : fX5_fault σ = some r) : Con l yX5_fault cX5_fault 1 (some .int) rmX5_fault (dC, dI) (yW cI cZ ad) (yA ad) [(cI, .int), (cZ, .boolean)] ExY [.ref (ad 0)] σ z (some (.int r.1)) r.2 z :=
  x_con (by decide) (yW_D hJ) (ExY_ok ad) (Nat.le_of_ble_eq_true rfl) (fun p e s m args below meth c C => wX5_fault_0 hJ C h)
set_option maxRecDepth 100000 in
set_option maxHeartbeats 4000000 in
theorem wX5_river_27 (hJ : eInj 16 ad) (C : Cx p s m args meth c (dC, dI) (yW cI cZ ad) (yA ad) ExY [(cI, .int), (cZ, .boolean)] cX5_river 2 RX5 (some .int) yX5_river) {z : Int64} {r : Int32 × eSt} : ∀ (n : Nat) (a1 : Int32) (σ : eSt), lo_2 (bX5_river_27) n a1 σ = some r → WX p l e rmX5_river s m args below meth c (MQ below (cQ (dC, dI) (yW cI cZ ad) (yA ad) (some (.int r.1)) r.2 z) args s 0 0 (yA ad)) (dC, dI) (yW cI cZ ad) (yA ad) 2 σ z [(0, .ref (ad 0)), (1, .int a1)] 27 [] := by
  refine lo_2_ind (P := fun a1 σ => WX p l e rmX5_river s m args below meth c (MQ below (cQ (dC, dI) (yW cI cZ ad) (yA ad) (some (.int r.1)) r.2 z) args s 0 0 (yA ad)) (dC, dI) (yW cI cZ ad) (yA ad) 2 σ z [(0, .ref (ad 0)), (1, .int a1)] 27 []) ?_
  intro k27 hk27 a1 σ h
  unfold bX5_river_27 at h
  refine x_iload_n C dX5_river_27 rfl 1 rfl ?_
  refine x_iconst (v := 5) C dX5_river_28 ic_5 ?_
  refine x_aload_n C dX5_river_29 rfl 0 rfl ?_
  refine fg_5_4 C 0 rfl rfl k_3_13 dX5_river_30 ?_
  refine x_imul C dX5_river_33 ?_
  refine x_icmp_ge (tgt := 55) C dX5_river_34 (by decide) h ?_ ?_
  · intro h
    refine x_aload_n C dX5_river_55 rfl 0 rfl ?_
    refine fg_5_11 C 0 rfl rfl k_3_20 dX5_river_56 ?_
    refine x_iconst (v := 0) C dX5_river_59 ic_0 ?_
    refine x_aload_n C dX5_river_60 rfl 0 rfl ?_
    refine fg_5_7 C 0 rfl rfl k_3_16 dX5_river_61 ?_
    refine x_iast_c C 4 0 0 rfl rfl dX5_river_64 (by decide) (by decide) h rfl ?_
    intro σ1 h
    refine x_aload_n C dX5_river_65 rfl 0 rfl ?_
    refine fg_5_11 C 0 rfl rfl k_3_20 dX5_river_66 ?_
    refine x_iconst (v := 1) C dX5_river_69 ic_1 ?_
    refine x_iconst (v := 0) C dX5_river_70 ic_0 ?_
    refine x_iast_c C 4 0 1 rfl rfl dX5_river_71 (by decide) (by decide) h rfl ?_
    intro σ2 h
    refine x_aload_n C dX5_river_72 rfl 0 rfl ?_
    refine fg_5_11 C 0 rfl rfl k_3_20 dX5_river_73 ?_
    refine x_iconst (v := 2) C dX5_river_76 ic_2 ?_
    refine x_iconst (v := 0) C dX5_river_77 ic_0 ?_
    refine x_iast_c C 4 0 2 rfl rfl dX5_river_78 (by decide) (by decide) h rfl ?_
    intro σ3 h
    refine x_aload_n C dX5_river_79 rfl 0 rfl ?_
    refine fg_5_11 C 0 rfl rfl k_3_20 dX5_river_80 ?_
    refine x_iconst (v := 3) C dX5_river_83 ic_3 ?_
    refine x_iconst (v := 0) C dX5_river_84 ic_0 ?_
    refine x_iast_c C 4 0 3 rfl rfl dX5_river_85 (by decide) (by decide) h rfl ?_
    intro σ4 h
    refine x_aload_n C dX5_river_86 rfl 0 rfl ?_
    refine fg_5_11 C 0 rfl rfl k_3_20 dX5_river_87 ?_
    refine x_iconst (v := 4) C dX5_river_90 ic_4 ?_
    refine x_bipush (v := (-9)) C dX5_river_91 bi_m9 ?_
    refine x_iast_c C 4 0 4 rfl rfl dX5_river_93 (by decide) (by decide) h rfl ?_
    intro σ5 h
    refine x_aload_n C dX5_river_94 rfl 0 rfl ?_
    refine fg_5_11 C 0 rfl rfl k_3_20 dX5_river_95 ?_
    refine x_iconst (v := 5) C dX5_river_98 ic_5 ?_
    refine x_bipush (v := (-9)) C dX5_river_99 bi_m9 ?_
    refine x_iast_c C 4 0 5 rfl rfl dX5_river_101 (by decide) (by decide) h rfl ?_
    intro σ6 h
    refine x_aload_n C dX5_river_102 rfl 0 rfl ?_
    refine fg_5_11 C 0 rfl rfl k_3_20 dX5_river_103 ?_
    refine x_bipush (v := 6) C dX5_river_106 bi_6 ?_
    refine x_aload_n C dX5_river_108 rfl 0 rfl ?_
    refine fg_5_8 C 0 rfl rfl k_3_17 dX5_river_109 ?_
    refine x_iast_c C 4 0 6 rfl rfl dX5_river_112 (by decide) (by decide) h rfl ?_
    intro σ7 h
    refine x_aload_n C dX5_river_113 rfl 0 rfl ?_
    refine fg_5_11 C 0 rfl rfl k_3_20 dX5_river_114 ?_
    refine x_bipush (v := 7) C dX5_river_117 bi_7 ?_
    refine x_aload_n C dX5_river_119 rfl 0 rfl ?_
    refine fg_5_9 C 0 rfl rfl k_3_18 dX5_river_120 ?_
    refine x_iast_c C 4 0 7 rfl rfl dX5_river_123 (by decide) (by decide) h rfl ?_
    intro σ8 h
    refine x_aload_n C dX5_river_124 rfl 0 rfl ?_
    refine x_iconst (v := 0) C dX5_river_125 ic_0 ?_
    refine fp_5_14 C 0 rfl (Nat.le_of_ble_eq_true rfl) k_3_23 h rfl dX5_river_126 ?_
    intro σ9 h
    refine x_aload_n C dX5_river_129 rfl 0 rfl ?_
    refine fg_5_16 C 0 rfl rfl k_3_25 dX5_river_130 ?_
    refine x_iconst (v := 0) C dX5_river_133 ic_0 ?_
    refine x_iconst (v := 0) C dX5_river_134 ic_0 ?_
    refine x_zast_c C 8 1 0 rfl rfl dX5_river_135 (by decide) (by decide) h rfl ?_
    intro σ10 h
    refine x_aload_n C dX5_river_136 rfl 0 rfl ?_
    refine fg_5_16 C 0 rfl rfl k_3_25 dX5_river_137 ?_
    refine x_iconst (v := 1) C dX5_river_140 ic_1 ?_
    refine x_iconst (v := 0) C dX5_river_141 ic_0 ?_
    refine x_zast_c C 8 1 1 rfl rfl dX5_river_142 (by decide) (by decide) h rfl ?_
    intro σ11 h
    refine x_aload_n C dX5_river_143 rfl 0 rfl ?_
    refine fg_5_4 C 0 rfl rfl k_3_13 dX5_river_144 ?_
    exact xr_wi C h dX5_river_147
  · intro h
    refine x_aload_n C dX5_river_37 rfl 0 rfl ?_
    refine fg_5_5 C 0 rfl rfl k_3_14 dX5_river_38 ?_
    refine x_iload_n C dX5_river_41 rfl 1 rfl ?_
    refine x_aload_n C dX5_river_42 rfl 0 rfl ?_
    refine fg_5_10 C 0 rfl rfl k_3_19 dX5_river_43 ?_
    refine x_iload_n C dX5_river_46 rfl 1 rfl ?_
    refine x_iald C 3 0 rfl rfl dX5_river_47 h ?_
    intro h
    refine x_iast C 2 0 rfl rfl dX5_river_48 h rfl ?_
    intro σ12 h
    refine x_iinc_b (j := 1) (w := 1) C (fun v13 => [(1, .int v13), (0, .ref (ad 0))]) dX5_river_49 ic_1 rfl (by decide) h (fun _ => rfl) ?_
    intro v13 h
    refine x_goto (tgt := 27) C dX5_river_52 (by decide) ?_
    refine x_sub (lv' := [(0, .ref (ad 0)), (1, .int v13)]) [1, 0] rfl ?_
    exact hk27 _ _ h
set_option maxRecDepth 100000 in
set_option maxHeartbeats 4000000 in
theorem wX5_river_0 (hJ : eInj 16 ad) (C : Cx p s m args meth c (dC, dI) (yW cI cZ ad) (yA ad) ExY [(cI, .int), (cZ, .boolean)] cX5_river 2 RX5 (some .int) yX5_river) {σ : eSt} {z : Int64} {r : Int32 × eSt} (h : fX5_river σ = some r) : WX p l e rmX5_river s m args below meth c (MQ below (cQ (dC, dI) (yW cI cZ ad) (yA ad) (some (.int r.1)) r.2 z) args s 0 0 (yA ad)) (dC, dI) (yW cI cZ ad) (yA ad) 2 σ z [(0, .ref (ad 0))] 0 [] := by
  unfold fX5_river at h
  refine x_aload_n C dX5_river_0 rfl 0 rfl ?_
  refine x_iconst (v := 0) C dX5_river_1 ic_0 ?_
  refine fp_5_0 C 0 rfl (Nat.le_of_ble_eq_true rfl) k_3_9 h rfl dX5_river_2 ?_
  intro σ1 h
  refine x_aload_n C dX5_river_5 rfl 0 rfl ?_
  obtain ⟨w2, hv, h⟩ := e_bind h
  refine x_callV_i C (ci := 5) 0 [] (tX5_readRiver hJ hv) k_3_122 k_3_124 k_p_22 k_1_6 k_3_125 hyX5_readRiver ⟨rfl, rfl⟩ (by decide) rfl rfl rfl rfl (Nat.le_of_ble_eq_true rfl) dX5_river_6 ?_
  refine x_bipush (v := (-9)) C dX5_river_9 bi_m9 ?_
  refine x_icmp_eq (tgt := 17) C dX5_river_11 (by decide) h ?_ ?_
  · intro h
    refine x_aload_n C dX5_river_17 rfl 0 rfl ?_
    refine x_aload_n C dX5_river_18 rfl 0 rfl ?_
    refine fg_5_6 C 0 rfl rfl k_3_15 dX5_river_19 ?_
    refine fp_5_4 C 0 rfl (Nat.le_of_ble_eq_true rfl) k_3_13 h rfl dX5_river_22 ?_
    intro σ3 h
    refine x_iconst (v := 0) C dX5_river_25 ic_0 ?_
    refine x_istore_n (lv' := [(1, .int 0), (0, .ref (ad 0))]) C dX5_river_26 rfl (by decide) rfl ?_
    refine x_sub (lv' := [(0, .ref (ad 0)), (1, .int 0)]) [1, 0] rfl ?_
    exact wX5_river_27 hJ C _ _ _ h
  · intro h
    refine x_bipush (v := (-3)) C dX5_river_14 bi_m3 ?_
    exact xr_wi C h dX5_river_16
set_option maxRecDepth 100000 in
set_option maxHeartbeats 4000000 in
theorem tX5_river {l : Launch} {dC : Nat → ClassId} {dI : Nat → Nat → Nat} {cI cZ : ClassId} {ad : Nat → Nat} (hJ : eInj 16 ad) {σ : eSt} {z : Int64} {r : Int32 × eSt} (h : fX5_river σ = some r) : Con l yX5_river cX5_river 2 (some .int) rmX5_river (dC, dI) (yW cI cZ ad) (yA ad) [(cI, .int), (cZ, .boolean)] ExY [.ref (ad 0)] σ z (some (.int r.1)) r.2 z :=
  x_con (by decide) (yW_D hJ) (ExY_ok ad) (Nat.le_of_ble_eq_true rfl) (fun p e s m args below meth c C => wX5_river_0 hJ C h)
set_option maxRecDepth 100000 in
set_option maxHeartbeats 4000000 in
theorem wX5_carries_46 (hJ : eInj 16 ad) {q : Nat} (hq : q = 4 ∨ q = 5) (C : Cx p s m args meth c (dC, dI) (yW cI cZ ad) (yA ad) ExY [(cI, .int), (cZ, .boolean)] cX5_carries 7 RX5 (some .boolean) yX5_carries) {σ : eSt} {a2 : Int32} {a4 : Int32} {a5 : Int32} {s0 : Int32} {z : Int64} {r : Int32} (h : fX5_carries_46 σ q a2 a4 a5 s0 = some r) : WX p l e rmX5_carries s m args below meth c (MQ below (cQ (dC, dI) (yW cI cZ ad) (yA ad) (some (.int r)) σ z) args s 0 0 (yA ad)) (dC, dI) (yW cI cZ ad) (yA ad) 7 σ z [(0, .ref (ad q)), (2, .int a2), (4, .int a4), (5, .int a5)] 46 [.int s0] := by
  unfold fX5_carries_46 at h
  refine x_istore (lv' := [(6, .int s0), (0, .ref (ad q)), (2, .int a2), (4, .int a4), (5, .int a5)]) C dX5_carries_46 (by decide) rfl ?_
  refine x_iload_n C dX5_carries_48 rfl 2 rfl ?_
  refine x_iload C dX5_carries_49 4 rfl ?_
  refine x_iload C dX5_carries_51 3 rfl ?_
  refine x_iload C dX5_carries_53 0 rfl ?_
  obtain ⟨v1, hv, h⟩ := e_bind h
  refine x_callS_i C [.int a4, .int s0] (tX5_far hJ hv) k_3_165 k_3_166 k_1_6 k_3_167 hyX5_far.2 ⟨rfl, rfl⟩ (by decide) rfl rfl (Nat.le_of_ble_eq_true rfl) dX5_carries_55 ?_
  refine x_iadd C dX5_carries_58 ?_
  refine x_icmp_le (tgt := 66) C dX5_carries_59 (by decide) h ?_ ?_
  · intro h
    refine x_iconst (v := 0) C dX5_carries_66 ic_0 ?_
    exact xr_z C h dX5_carries_67
  · intro h
    refine x_iconst (v := 1) C dX5_carries_62 ic_1 ?_
    refine x_goto (tgt := 67) C dX5_carries_63 (by decide) ?_
    exact xr_z C h dX5_carries_67
set_option maxRecDepth 100000 in
set_option maxHeartbeats 4000000 in
theorem wX5_carries_27 (hJ : eInj 16 ad) {q : Nat} (hq : q = 4 ∨ q = 5) (C : Cx p s m args meth c (dC, dI) (yW cI cZ ad) (yA ad) ExY [(cI, .int), (cZ, .boolean)] cX5_carries 7 RX5 (some .boolean) yX5_carries) {σ : eSt} {a1 : Int32} {a2 : Int32} {a3 : Int32} {a4 : Int32} {s0 : Int32} {z : Int64} {r : Int32} (h : fX5_carries_27 σ q a1 a2 a3 a4 s0 = some r) : WX p l e rmX5_carries s m args below meth c (MQ below (cQ (dC, dI) (yW cI cZ ad) (yA ad) (some (.int r)) σ z) args s 0 0 (yA ad)) (dC, dI) (yW cI cZ ad) (yA ad) 7 σ z [(0, .ref (ad q)), (1, .int a1), (2, .int a2), (3, .int a3), (4, .int a4)] 27 [.int s0] := by
  unfold fX5_carries_27 at h
  refine x_istore (lv' := [(5, .int s0), (0, .ref (ad q)), (1, .int a1), (2, .int a2), (3, .int a3), (4, .int a4)]) C dX5_carries_27 (by decide) rfl ?_
  refine x_iload_n C dX5_carries_29 rfl 4 rfl ?_
  refine x_iconst (v := 3) C dX5_carries_30 ic_3 ?_
  refine x_icmp_ne (tgt := 38) C dX5_carries_31 (by decide) h ?_ ?_
  · intro h
    refine x_iload_n C dX5_carries_38 rfl 2 rfl ?_
    refine x_aload_n C dX5_carries_39 rfl 1 rfl ?_
    refine x_bipush (v := 7) C dX5_carries_40 bi_7 ?_
    refine x_iald_c C q 0 7 (yW_q hq) rfl dX5_carries_42 (by decide) (by decide) ?_
    refine x_iadd C dX5_carries_43 ?_
    refine x_iconst (v := 1) C dX5_carries_44 ic_1 ?_
    refine x_isub C dX5_carries_45 ?_
    refine x_sub (lv' := [(0, .ref (ad q)), (2, .int a2), (4, .int a4), (5, .int s0)]) [1, 3, 5, 0] rfl ?_
    exact wX5_carries_46 hJ hq C h
  · intro h
    refine x_iload_n C dX5_carries_34 rfl 2 rfl ?_
    refine x_goto (tgt := 46) C dX5_carries_35 (by decide) ?_
    refine x_sub (lv' := [(0, .ref (ad q)), (2, .int a2), (4, .int a4), (5, .int s0)]) [1, 3, 5, 0] rfl ?_
    exact wX5_carries_46 hJ hq C h
set_option maxRecDepth 100000 in
set_option maxHeartbeats 4000000 in
theorem wX5_carries_0 (hJ : eInj 16 ad) {q : Nat} (hq : q = 4 ∨ q = 5) (C : Cx p s m args meth c (dC, dI) (yW cI cZ ad) (yA ad) ExY [(cI, .int), (cZ, .boolean)] cX5_carries 7 RX5 (some .boolean) yX5_carries) {σ : eSt} {a1 : Int32} {a2 : Int32} {a3 : Int32} {a4 : Int32} {z : Int64} {r : Int32} (h : fX5_carries σ q a1 a2 a3 a4 = some r) : WX p l e rmX5_carries s m args below meth c (MQ below (cQ (dC, dI) (yW cI cZ ad) (yA ad) (some (.int r)) σ z) args s 0 0 (yA ad)) (dC, dI) (yW cI cZ ad) (yA ad) 7 σ z [(0, .ref (ad q)), (1, .int a1), (2, .int a2), (3, .int a3), (4, .int a4)] 0 [] := by
  unfold fX5_carries at h
  refine x_iload_n C dX5_carries_0 rfl 3 rfl ?_
  refine x_iconst (v := 1) C dX5_carries_1 ic_1 ?_
  refine x_icmp_ne (tgt := 9) C dX5_carries_2 (by decide) h ?_ ?_
  · intro h
    refine x_iload_n C dX5_carries_9 rfl 3 rfl ?_
    refine x_iconst (v := 2) C dX5_carries_10 ic_2 ?_
    refine x_icmp_ne (tgt := 23) C dX5_carries_11 (by decide) h ?_ ?_
    · intro h
      refine x_aload_n C dX5_carries_23 rfl 0 rfl ?_
      refine x_bipush (v := 6) C dX5_carries_24 bi_6 ?_
      refine x_iald_c C q 0 6 (yW_q hq) rfl dX5_carries_26 (by decide) (by decide) ?_
      exact wX5_carries_27 hJ hq C h
    · intro h
      refine x_iconst (v := 2) C dX5_carries_14 ic_2 ?_
      refine x_aload_n C dX5_carries_15 rfl 0 rfl ?_
      refine x_bipush (v := 6) C dX5_carries_16 bi_6 ?_
      refine x_iald_c C q 0 6 (yW_q hq) rfl dX5_carries_18 (by decide) (by decide) ?_
      refine x_imul C dX5_carries_19 ?_
      refine x_goto (tgt := 27) C dX5_carries_20 (by decide) ?_
      exact wX5_carries_27 hJ hq C h
  · intro h
    refine x_iconst (v := 0) C dX5_carries_5 ic_0 ?_
    refine x_goto (tgt := 27) C dX5_carries_6 (by decide) ?_
    exact wX5_carries_27 hJ hq C h
set_option maxRecDepth 100000 in
set_option maxHeartbeats 4000000 in
theorem tX5_carries {l : Launch} {dC : Nat → ClassId} {dI : Nat → Nat → Nat} {cI cZ : ClassId} {ad : Nat → Nat} (hJ : eInj 16 ad) {q : Nat} (hq : q = 4 ∨ q = 5) {σ : eSt} {a1 : Int32} {a2 : Int32} {a3 : Int32} {a4 : Int32} {z : Int64} {r : Int32} (h : fX5_carries σ q a1 a2 a3 a4 = some r) : Con l yX5_carries cX5_carries 7 (some .boolean) rmX5_carries (dC, dI) (yW cI cZ ad) (yA ad) [(cI, .int), (cZ, .boolean)] ExY [.ref (ad q), .int a1, .int a2, .int a3, .int a4] σ z (some (.int r)) σ z :=
  x_con (by decide) (yW_D hJ) (ExY_ok ad) (Nat.le_of_ble_eq_true rfl) (fun p e s m args below meth c C => wX5_carries_0 hJ hq C h)
set_option maxRecDepth 100000 in
set_option maxHeartbeats 4000000 in
theorem wX5_hears_0 (hJ : eInj 16 ad) {q : Nat} (hq : q = 4 ∨ q = 5) (C : Cx p s m args meth c (dC, dI) (yW cI cZ ad) (yA ad) ExY [(cI, .int), (cZ, .boolean)] cX5_hears 6 RX5 (some .boolean) yX5_hears) {σ : eSt} {a2 : Int32} {a3 : Int32} {a4 : Int32} {z : Int64} {r : Int32} (h : fX5_hears σ q a2 a3 a4 = some r) : WX p l e rmX5_hears s m args below meth c (MQ below (cQ (dC, dI) (yW cI cZ ad) (yA ad) (some (.int r)) σ z) args s 0 0 (yA ad)) (dC, dI) (yW cI cZ ad) (yA ad) 6 σ z [(0, .ref (ad 0)), (1, .ref (ad q)), (2, .int a2), (3, .int a3), (4, .int a4)] 0 [] := by
  unfold fX5_hears at h
  refine x_iconst (v := 5) C dX5_hears_0 ic_5 ?_
  refine x_iload_n C dX5_hears_1 rfl 2 rfl ?_
  refine x_imul C dX5_hears_2 ?_
  refine x_istore_b C (fun v1 => [(5, .int v1), (0, .ref (ad 0)), (1, .ref (ad q)), (2, .int a2), (3, .int a3), (4, .int a4)]) dX5_hears_3 (by decide) h (fun _ => rfl) ?_
  intro v1 h
  refine x_aload_n C dX5_hears_5 rfl 2 rfl ?_
  refine x_iconst (v := 2) C dX5_hears_6 ic_2 ?_
  refine x_iald_c C q 0 2 (yW_q hq) rfl dX5_hears_7 (by decide) (by decide) ?_
  refine x_iload_n C dX5_hears_8 rfl 3 rfl ?_
  obtain ⟨v2, hv, h⟩ := e_bind h
  refine x_callS_i C [.int (σ q 2), .int a2] (tX5_has hJ hv) k_3_159 k_3_160 k_1_6 k_3_161 hyX5_has.2 ⟨rfl, rfl⟩ (by decide) rfl rfl (Nat.le_of_ble_eq_true rfl) dX5_hears_9 ?_
  refine x_if_ne (tgt := 81) C dX5_hears_12 (by decide) h ?_ ?_
  · intro h
    refine x_iconst (v := 0) C dX5_hears_81 ic_0 ?_
    exact xr_z C h dX5_hears_82
  · intro h
    refine x_iload C dX5_hears_15 5 rfl ?_
    refine x_i2l C dX5_hears_17 ?_
    refine x_aload_n C dX5_hears_18 rfl 1 rfl ?_
    refine fg_5_5 C 0 rfl rfl k_3_14 dX5_hears_19 ?_
    refine x_iload C dX5_hears_22 0 rfl ?_
    refine x_iconst (v := 2) C dX5_hears_24 ic_2 ?_
    refine x_iadd C dX5_hears_25 ?_
    refine x_iald C 2 0 rfl rfl dX5_hears_26 h ?_
    intro h
    refine x_i2l C dX5_hears_27 ?_
    refine x_aload_n C dX5_hears_28 rfl 1 rfl ?_
    refine fg_5_5 C 0 rfl rfl k_3_14 dX5_hears_29 ?_
    refine x_iload C dX5_hears_32 0 rfl ?_
    refine x_iconst (v := 3) C dX5_hears_34 ic_3 ?_
    refine x_iadd C dX5_hears_35 ?_
    refine x_iald C 2 0 rfl rfl dX5_hears_36 h ?_
    intro h
    refine x_i2l C dX5_hears_37 ?_
    obtain ⟨v3, hv, h⟩ := e_bind h
    refine x_callS_i C [.long (a4.toInt64), .long ((σ 2 (v1 + 2).toNatClampNeg).toInt64), .long ((σ 2 (v1 + 3).toNatClampNeg).toInt64)] (tX5_in hJ hv) k_3_111 k_3_112 k_1_6 k_3_113 hyX5_in.2 ⟨rfl, rfl⟩ (by decide) rfl rfl (Nat.le_of_ble_eq_true rfl) dX5_hears_38 ?_
    refine x_if_eq (tgt := 81) C dX5_hears_41 (by decide) h ?_ ?_
    · intro h
      refine x_iconst (v := 0) C dX5_hears_81 ic_0 ?_
      exact xr_z C h dX5_hears_82
    · intro h
      refine x_aload_n C dX5_hears_44 rfl 2 rfl ?_
      refine x_aload_n C dX5_hears_45 rfl 1 rfl ?_
      refine fg_5_5 C 0 rfl rfl k_3_14 dX5_hears_46 ?_
      refine x_iload C dX5_hears_49 0 rfl ?_
      refine x_iald C 2 0 rfl rfl dX5_hears_51 h ?_
      intro h
      refine x_aload_n C dX5_hears_52 rfl 1 rfl ?_
      refine fg_5_5 C 0 rfl rfl k_3_14 dX5_hears_53 ?_
      refine x_iload C dX5_hears_56 0 rfl ?_
      refine x_iconst (v := 1) C dX5_hears_58 ic_1 ?_
      refine x_iadd C dX5_hears_59 ?_
      refine x_iald C 2 0 rfl rfl dX5_hears_60 h ?_
      intro h
      refine x_aload_n C dX5_hears_61 rfl 1 rfl ?_
      refine fg_5_5 C 0 rfl rfl k_3_14 dX5_hears_62 ?_
      refine x_iload C dX5_hears_65 0 rfl ?_
      refine x_iconst (v := 4) C dX5_hears_67 ic_4 ?_
      refine x_iadd C dX5_hears_68 ?_
      refine x_iald C 2 0 rfl rfl dX5_hears_69 h ?_
      intro h
      refine x_iload_n C dX5_hears_70 rfl 4 rfl ?_
      obtain ⟨v4, hv, h⟩ := e_bind h
      refine x_callS_i C [.ref (ad q), .int (σ 2 v1.toNatClampNeg), .int (σ 2 (v1 + 1).toNatClampNeg), .int (σ 2 (v1 + 4).toNatClampNeg), .int a3] (tX5_carries hJ hq hv) k_3_162 k_3_163 k_1_6 k_3_164 hyX5_carries.2 ⟨rfl, rfl⟩ (by decide) rfl rfl (Nat.le_of_ble_eq_true rfl) dX5_hears_71 ?_
      refine x_if_eq (tgt := 81) C dX5_hears_74 (by decide) h ?_ ?_
      · intro h
        refine x_iconst (v := 0) C dX5_hears_81 ic_0 ?_
        exact xr_z C h dX5_hears_82
      · intro h
        refine x_iconst (v := 1) C dX5_hears_77 ic_1 ?_
        refine x_goto (tgt := 82) C dX5_hears_78 (by decide) ?_
        exact xr_z C h dX5_hears_82
set_option maxRecDepth 100000 in
set_option maxHeartbeats 4000000 in
theorem tX5_hears {l : Launch} {dC : Nat → ClassId} {dI : Nat → Nat → Nat} {cI cZ : ClassId} {ad : Nat → Nat} (hJ : eInj 16 ad) {q : Nat} (hq : q = 4 ∨ q = 5) {σ : eSt} {a2 : Int32} {a3 : Int32} {a4 : Int32} {z : Int64} {r : Int32} (h : fX5_hears σ q a2 a3 a4 = some r) : Con l yX5_hears cX5_hears 6 (some .boolean) rmX5_hears (dC, dI) (yW cI cZ ad) (yA ad) [(cI, .int), (cZ, .boolean)] ExY [.ref (ad 0), .ref (ad q), .int a2, .int a3, .int a4] σ z (some (.int r)) σ z :=
  x_con (by decide) (yW_D hJ) (ExY_ok ad) (Nat.le_of_ble_eq_true rfl) (fun p e s m args below meth c C => wX5_hears_0 hJ hq C h)
end WK

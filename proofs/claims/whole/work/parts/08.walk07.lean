section WK
variable {p : Program} {l : Launch} {e : Env} {s : State} {m : MethodId} {args : Array Value} {below : List Frame} {meth : Method} {c : Code} {dC : Nat → ClassId} {dI : Nat → Nat → Nat} {cI cZ : ClassId} {ad : Nat → Nat}
set_option maxRecDepth 100000 in
set_option maxHeartbeats 4000000 in
theorem wX5_bestHours_131 (hJ : eInj 16 ad) (C : Cx p s m args meth c (dC, dI) (yW cI cZ ad) (yA ad) ExY [(cI, .int), (cZ, .boolean)] cX5_bestHours 6 RX5 (some .int) yX5_bestHours) {σ : eSt} {a1 : Int32} {a2 : Int32} {a3 : Int32} {s0 : Int32} {z : Int64} {r : Int32 × eSt} {k44 : Int32 → eSt → Option (Int32 × eSt)} (hk44 : ∀ (a3 : Int32) (σ : eSt), k44 a3 σ = some r → WX p l e rmX5_bestHours s m args below meth c (MQ below (cQ (dC, dI) (yW cI cZ ad) (yA ad) (some (.int r.1)) r.2 z) args s 0 0 (yA ad)) (dC, dI) (yW cI cZ ad) (yA ad) 6 σ z [(0, .ref (ad 0)), (1, .int a1), (2, .int a2), (3, .int a3)] 44 []) (h : fX5_bestHours_131 k44 σ a1 a2 a3 s0 = some r) : WX p l e rmX5_bestHours s m args below meth c (MQ below (cQ (dC, dI) (yW cI cZ ad) (yA ad) (some (.int r.1)) r.2 z) args s 0 0 (yA ad)) (dC, dI) (yW cI cZ ad) (yA ad) 6 σ z [(0, .ref (ad 0)), (1, .int a1), (2, .int a2), (3, .int a3)] 131 [.int s0, .ref (ad 0)] := by
  unfold fX5_bestHours_131 at h
  refine fp_5_29 C 0 rfl (Nat.le_of_ble_eq_true rfl) k_3_38 h rfl dX5_bestHours_131 ?_
  intro σ1 h
  refine x_iinc_b (j := 3) (w := 1) C (fun v2 => [(3, .int v2), (0, .ref (ad 0)), (1, .int a1), (2, .int a2)]) dX5_bestHours_134 ic_1 rfl (by decide) h (fun _ => rfl) ?_
  intro v2 h
  refine x_goto (tgt := 44) C dX5_bestHours_137 (by decide) ?_
  refine x_sub (lv' := [(0, .ref (ad 0)), (1, .int a1), (2, .int a2), (3, .int v2)]) [1, 2, 3, 0] rfl ?_
  exact hk44 _ _ h
set_option maxRecDepth 100000 in
set_option maxHeartbeats 4000000 in
theorem wX5_bestHours_109 (hJ : eInj 16 ad) (C : Cx p s m args meth c (dC, dI) (yW cI cZ ad) (yA ad) ExY [(cI, .int), (cZ, .boolean)] cX5_bestHours 6 RX5 (some .int) yX5_bestHours) {σ : eSt} {a1 : Int32} {a2 : Int32} {a3 : Int32} {a4 : Int32} {s0 : Int32} {z : Int64} {r : Int32 × eSt} {k44 : Int32 → eSt → Option (Int32 × eSt)} (hk44 : ∀ (a3 : Int32) (σ : eSt), k44 a3 σ = some r → WX p l e rmX5_bestHours s m args below meth c (MQ below (cQ (dC, dI) (yW cI cZ ad) (yA ad) (some (.int r.1)) r.2 z) args s 0 0 (yA ad)) (dC, dI) (yW cI cZ ad) (yA ad) 6 σ z [(0, .ref (ad 0)), (1, .int a1), (2, .int a2), (3, .int a3)] 44 []) (h : fX5_bestHours_109 k44 σ a1 a2 a3 a4 s0 = some r) : WX p l e rmX5_bestHours s m args below meth c (MQ below (cQ (dC, dI) (yW cI cZ ad) (yA ad) (some (.int r.1)) r.2 z) args s 0 0 (yA ad)) (dC, dI) (yW cI cZ ad) (yA ad) 6 σ z [(0, .ref (ad 0)), (1, .int a1), (2, .int a2), (3, .int a3), (4, .int a4)] 109 [.int s0, .ref (ad 0)] := by
  unfold fX5_bestHours_109 at h
  refine fp_5_28 C 0 rfl (Nat.le_of_ble_eq_true rfl) k_3_37 h rfl dX5_bestHours_109 ?_
  intro σ1 h
  refine x_aload_n C dX5_bestHours_112 rfl 0 rfl ?_
  refine x_iload C dX5_bestHours_113 4 rfl ?_
  refine x_aload_n C dX5_bestHours_115 rfl 0 rfl ?_
  refine fg_5_29 C 0 rfl rfl k_3_38 dX5_bestHours_116 ?_
  refine x_icmp_le (tgt := 127) C dX5_bestHours_119 (by decide) h ?_ ?_
  · intro h
    refine x_aload_n C dX5_bestHours_127 rfl 0 rfl ?_
    refine fg_5_29 C 0 rfl rfl k_3_38 dX5_bestHours_128 ?_
    refine x_sub (lv' := [(0, .ref (ad 0)), (1, .int a1), (2, .int a2), (3, .int a3)]) [0, 1, 2, 3] rfl ?_
    exact wX5_bestHours_131 hJ C hk44 h
  · intro h
    refine x_iload C dX5_bestHours_122 4 rfl ?_
    refine x_goto (tgt := 131) C dX5_bestHours_124 (by decide) ?_
    refine x_sub (lv' := [(0, .ref (ad 0)), (1, .int a1), (2, .int a2), (3, .int a3)]) [0, 1, 2, 3] rfl ?_
    exact wX5_bestHours_131 hJ C hk44 h
set_option maxRecDepth 100000 in
set_option maxHeartbeats 4000000 in
theorem wX5_bestHours_56 (hJ : eInj 16 ad) (C : Cx p s m args meth c (dC, dI) (yW cI cZ ad) (yA ad) ExY [(cI, .int), (cZ, .boolean)] cX5_bestHours 6 RX5 (some .int) yX5_bestHours) {a1 : Int32} {a2 : Int32} {a3 : Int32} {z : Int64} {r : Int32 × eSt} {k44 : Int32 → eSt → Option (Int32 × eSt)} (hk44 : ∀ (a3 : Int32) (σ : eSt), k44 a3 σ = some r → WX p l e rmX5_bestHours s m args below meth c (MQ below (cQ (dC, dI) (yW cI cZ ad) (yA ad) (some (.int r.1)) r.2 z) args s 0 0 (yA ad)) (dC, dI) (yW cI cZ ad) (yA ad) 6 σ z [(0, .ref (ad 0)), (1, .int a1), (2, .int a2), (3, .int a3)] 44 []) : ∀ (n : Nat) (a4 : Int32) (a5 : Int32) (σ : eSt), lo_3 (bX5_bestHours_56 k44 a1 a2 a3) n a4 a5 σ = some r → WX p l e rmX5_bestHours s m args below meth c (MQ below (cQ (dC, dI) (yW cI cZ ad) (yA ad) (some (.int r.1)) r.2 z) args s 0 0 (yA ad)) (dC, dI) (yW cI cZ ad) (yA ad) 6 σ z [(0, .ref (ad 0)), (1, .int a1), (2, .int a2), (3, .int a3), (4, .int a4), (5, .int a5)] 56 [] := by
  refine lo_3_ind (P := fun a4 a5 σ => WX p l e rmX5_bestHours s m args below meth c (MQ below (cQ (dC, dI) (yW cI cZ ad) (yA ad) (some (.int r.1)) r.2 z) args s 0 0 (yA ad)) (dC, dI) (yW cI cZ ad) (yA ad) 6 σ z [(0, .ref (ad 0)), (1, .int a1), (2, .int a2), (3, .int a3), (4, .int a4), (5, .int a5)] 56 []) ?_
  intro k56 hk56 a4 a5 σ h
  unfold bX5_bestHours_56 at h
  refine x_iload C dX5_bestHours_56 5 rfl ?_
  refine x_iload_n C dX5_bestHours_58 rfl 1 rfl ?_
  refine x_icmp_ge (tgt := 91) C dX5_bestHours_59 (by decide) h ?_ ?_
  · intro h
    refine x_aload_n C dX5_bestHours_91 rfl 0 rfl ?_
    refine x_iload C dX5_bestHours_92 4 rfl ?_
    refine x_aload_n C dX5_bestHours_94 rfl 0 rfl ?_
    refine fg_5_29 C 0 rfl rfl k_3_38 dX5_bestHours_95 ?_
    refine x_icmp_le (tgt := 105) C dX5_bestHours_98 (by decide) h ?_ ?_
    · intro h
      refine x_aload_n C dX5_bestHours_105 rfl 0 rfl ?_
      refine fg_5_28 C 0 rfl rfl k_3_37 dX5_bestHours_106 ?_
      refine x_sub (lv' := [(0, .ref (ad 0)), (1, .int a1), (2, .int a2), (3, .int a3), (4, .int a4)]) [0, 1, 2, 3, 4] rfl ?_
      exact wX5_bestHours_109 hJ C hk44 h
    · intro h
      refine x_iload_n C dX5_bestHours_101 rfl 3 rfl ?_
      refine x_goto (tgt := 109) C dX5_bestHours_102 (by decide) ?_
      refine x_sub (lv' := [(0, .ref (ad 0)), (1, .int a1), (2, .int a2), (3, .int a3), (4, .int a4)]) [0, 1, 2, 3, 4] rfl ?_
      exact wX5_bestHours_109 hJ C hk44 h
  · intro h
    refine x_iload C dX5_bestHours_62 4 rfl ?_
    refine x_aload_n C dX5_bestHours_64 rfl 0 rfl ?_
    refine x_aload_n C dX5_bestHours_65 rfl 0 rfl ?_
    refine fg_5_11 C 0 rfl rfl k_3_20 dX5_bestHours_66 ?_
    refine x_iload_n C dX5_bestHours_69 rfl 3 rfl ?_
    refine x_iload C dX5_bestHours_70 5 rfl ?_
    refine x_iadd C dX5_bestHours_72 ?_
    refine x_bipush (v := 10) C dX5_bestHours_73 bi_10 ?_
    refine x_irem_c C dX5_bestHours_75 (by decide) ?_
    obtain ⟨w1, hv, h⟩ := e_bind h
    refine x_callV_i C (ci := 5) 0 [.ref (ad 4), .int (e_rem (a3 + a5) 10)] (tX5_sureAt hJ (Or.inl rfl) hv) k_3_216 k_3_218 k_p_30 k_1_6 k_3_219 hyX5_sureAt ⟨rfl, rfl⟩ (by decide) rfl rfl rfl rfl (Nat.le_of_ble_eq_true rfl) dX5_bestHours_76 ?_
    obtain ⟨v2, hv, h⟩ := e_bind h
    refine x_callS_i C [.int w1.1] (tX5_bits hJ hv) k_3_236 k_3_237 k_1_6 k_3_238 hyX5_bits.2 ⟨rfl, rfl⟩ (by decide) rfl rfl (Nat.le_of_ble_eq_true rfl) dX5_bestHours_79 ?_
    refine x_iadd C dX5_bestHours_82 ?_
    refine x_istore_b C (fun v3 => [(4, .int v3), (0, .ref (ad 0)), (1, .int a1), (2, .int a2), (3, .int a3), (5, .int a5)]) dX5_bestHours_83 (by decide) h (fun _ => rfl) ?_
    intro v3 h
    refine x_iinc_b (j := 5) (w := 1) C (fun v4 => [(5, .int v4), (4, .int v3), (0, .ref (ad 0)), (1, .int a1), (2, .int a2), (3, .int a3)]) dX5_bestHours_85 ic_1 rfl (by decide) h (fun _ => rfl) ?_
    intro v4 h
    refine x_goto (tgt := 56) C dX5_bestHours_88 (by decide) ?_
    refine x_sub (lv' := [(0, .ref (ad 0)), (1, .int a1), (2, .int a2), (3, .int a3), (4, .int v3), (5, .int v4)]) [2, 3, 4, 5, 1, 0] rfl ?_
    exact hk56 _ _ _ h
set_option maxRecDepth 100000 in
set_option maxHeartbeats 4000000 in
theorem wX5_bestHours_44 (hJ : eInj 16 ad) (C : Cx p s m args meth c (dC, dI) (yW cI cZ ad) (yA ad) ExY [(cI, .int), (cZ, .boolean)] cX5_bestHours 6 RX5 (some .int) yX5_bestHours) {a1 : Int32} {a2 : Int32} {z : Int64} {r : Int32 × eSt} : ∀ (n : Nat) (a3 : Int32) (σ : eSt), lo_2 (bX5_bestHours_44 a1 a2) n a3 σ = some r → WX p l e rmX5_bestHours s m args below meth c (MQ below (cQ (dC, dI) (yW cI cZ ad) (yA ad) (some (.int r.1)) r.2 z) args s 0 0 (yA ad)) (dC, dI) (yW cI cZ ad) (yA ad) 6 σ z [(0, .ref (ad 0)), (1, .int a1), (2, .int a2), (3, .int a3)] 44 [] := by
  refine lo_2_ind (P := fun a3 σ => WX p l e rmX5_bestHours s m args below meth c (MQ below (cQ (dC, dI) (yW cI cZ ad) (yA ad) (some (.int r.1)) r.2 z) args s 0 0 (yA ad)) (dC, dI) (yW cI cZ ad) (yA ad) 6 σ z [(0, .ref (ad 0)), (1, .int a1), (2, .int a2), (3, .int a3)] 44 []) ?_
  intro k44 hk44 a3 σ h
  unfold bX5_bestHours_44 at h
  refine x_iload_n C dX5_bestHours_44 rfl 3 rfl ?_
  refine x_bipush (v := 10) C dX5_bestHours_45 bi_10 ?_
  refine x_icmp_ge (tgt := 140) C dX5_bestHours_47 (by decide) h ?_ ?_
  · intro h
    refine x_iload_n C dX5_bestHours_140 rfl 2 rfl ?_
    refine x_if_ne (tgt := 151) C dX5_bestHours_141 (by decide) h ?_ ?_
    · intro h
      refine x_aload_n C dX5_bestHours_151 rfl 0 rfl ?_
      refine fg_5_29 C 0 rfl rfl k_3_38 dX5_bestHours_152 ?_
      exact xr_wi C h dX5_bestHours_155
    · intro h
      refine x_aload_n C dX5_bestHours_144 rfl 0 rfl ?_
      refine fg_5_28 C 0 rfl rfl k_3_37 dX5_bestHours_145 ?_
      refine x_goto (tgt := 155) C dX5_bestHours_148 (by decide) ?_
      exact xr_wi C h dX5_bestHours_155
  · intro h
    refine x_iconst (v := 0) C dX5_bestHours_50 ic_0 ?_
    refine x_istore (lv' := [(4, .int 0), (0, .ref (ad 0)), (1, .int a1), (2, .int a2), (3, .int a3)]) C dX5_bestHours_51 (by decide) rfl ?_
    refine x_iconst (v := 0) C dX5_bestHours_53 ic_0 ?_
    refine x_istore (lv' := [(5, .int 0), (4, .int 0), (0, .ref (ad 0)), (1, .int a1), (2, .int a2), (3, .int a3)]) C dX5_bestHours_54 (by decide) rfl ?_
    refine x_sub (lv' := [(0, .ref (ad 0)), (1, .int a1), (2, .int a2), (3, .int a3), (4, .int 0), (5, .int 0)]) [2, 3, 4, 5, 1, 0] rfl ?_
    exact wX5_bestHours_56 hJ C hk44 _ _ _ _ h
set_option maxRecDepth 100000 in
set_option maxHeartbeats 4000000 in
theorem wX5_bestHours_0 (hJ : eInj 16 ad) (C : Cx p s m args meth c (dC, dI) (yW cI cZ ad) (yA ad) ExY [(cI, .int), (cZ, .boolean)] cX5_bestHours 6 RX5 (some .int) yX5_bestHours) {σ : eSt} {a1 : Int32} {a2 : Int32} {z : Int64} {r : Int32 × eSt} (h : fX5_bestHours σ a1 a2 = some r) : WX p l e rmX5_bestHours s m args below meth c (MQ below (cQ (dC, dI) (yW cI cZ ad) (yA ad) (some (.int r.1)) r.2 z) args s 0 0 (yA ad)) (dC, dI) (yW cI cZ ad) (yA ad) 6 σ z [(0, .ref (ad 0)), (1, .int a1), (2, .int a2)] 0 [] := by
  unfold fX5_bestHours at h
  refine x_aload_n C dX5_bestHours_0 rfl 0 rfl ?_
  refine x_iconst (v := 0) C dX5_bestHours_1 ic_0 ?_
  refine fp_5_0 C 0 rfl (Nat.le_of_ble_eq_true rfl) k_3_9 h rfl dX5_bestHours_2 ?_
  intro σ1 h
  refine x_iload_n C dX5_bestHours_5 rfl 1 rfl ?_
  refine x_i2l C dX5_bestHours_6 ?_
  refine x_lconst (v := 1) C dX5_bestHours_7 rfl ?_
  refine x_ldc2 (v := 10) C dX5_bestHours_8 k_4_16 ?_
  obtain ⟨v2, hv, h⟩ := e_bind h
  refine x_callS_i C [.long (a1.toInt64), .long 1, .long 10] (tX5_in hJ hv) k_3_111 k_3_112 k_1_6 k_3_113 hyX5_in.2 ⟨rfl, rfl⟩ (by decide) rfl rfl (Nat.le_of_ble_eq_true rfl) dX5_bestHours_11 ?_
  refine x_if_eq (tgt := 27) C dX5_bestHours_14 (by decide) h ?_ ?_
  · intro h
    refine x_bipush (v := (-2)) C dX5_bestHours_27 bi_m2 ?_
    exact xr_wi C h dX5_bestHours_29
  · intro h
    refine x_iload_n C dX5_bestHours_17 rfl 2 rfl ?_
    refine x_i2l C dX5_bestHours_18 ?_
    refine x_lconst (v := 0) C dX5_bestHours_19 rfl ?_
    refine x_lconst (v := 1) C dX5_bestHours_20 rfl ?_
    obtain ⟨v3, hv, h⟩ := e_bind h
    refine x_callS_i C [.long (a2.toInt64), .long 0, .long 1] (tX5_in hJ hv) k_3_111 k_3_112 k_1_6 k_3_113 hyX5_in.2 ⟨rfl, rfl⟩ (by decide) rfl rfl (Nat.le_of_ble_eq_true rfl) dX5_bestHours_21 ?_
    refine x_if_ne (tgt := 30) C dX5_bestHours_24 (by decide) h ?_ ?_
    · intro h
      refine x_aload_n C dX5_bestHours_30 rfl 0 rfl ?_
      refine x_bipush (v := (-9)) C dX5_bestHours_31 bi_m9 ?_
      refine fp_5_29 C 0 rfl (Nat.le_of_ble_eq_true rfl) k_3_38 h rfl dX5_bestHours_33 ?_
      intro σ4 h
      refine x_aload_n C dX5_bestHours_36 rfl 0 rfl ?_
      refine x_bipush (v := (-9)) C dX5_bestHours_37 bi_m9 ?_
      refine fp_5_28 C 0 rfl (Nat.le_of_ble_eq_true rfl) k_3_37 h rfl dX5_bestHours_39 ?_
      intro σ5 h
      refine x_iconst (v := 0) C dX5_bestHours_42 ic_0 ?_
      refine x_istore_n (lv' := [(3, .int 0), (0, .ref (ad 0)), (1, .int a1), (2, .int a2)]) C dX5_bestHours_43 rfl (by decide) rfl ?_
      refine x_sub (lv' := [(0, .ref (ad 0)), (1, .int a1), (2, .int a2), (3, .int 0)]) [1, 2, 3, 0] rfl ?_
      exact wX5_bestHours_44 hJ C _ _ _ h
    · intro h
      refine x_bipush (v := (-2)) C dX5_bestHours_27 bi_m2 ?_
      exact xr_wi C h dX5_bestHours_29
set_option maxRecDepth 100000 in
set_option maxHeartbeats 4000000 in
theorem tX5_bestHours {l : Launch} {dC : Nat → ClassId} {dI : Nat → Nat → Nat} {cI cZ : ClassId} {ad : Nat → Nat} (hJ : eInj 16 ad) {σ : eSt} {a1 : Int32} {a2 : Int32} {z : Int64} {r : Int32 × eSt} (h : fX5_bestHours σ a1 a2 = some r) : Con l yX5_bestHours cX5_bestHours 6 (some .int) rmX5_bestHours (dC, dI) (yW cI cZ ad) (yA ad) [(cI, .int), (cZ, .boolean)] ExY [.ref (ad 0), .int a1, .int a2] σ z (some (.int r.1)) r.2 z :=
  x_con (by decide) (yW_D hJ) (ExY_ok ad) (Nat.le_of_ble_eq_true rfl) (fun p e s m args below meth c C => wX5_bestHours_0 hJ C h)
set_option maxRecDepth 100000 in
set_option maxHeartbeats 4000000 in
theorem wX5_grounded_136 (hJ : eInj 16 ad) (C : Cx p s m args meth c (dC, dI) (yW cI cZ ad) (yA ad) ExY [(cI, .int), (cZ, .boolean)] cX5_grounded 9 RX5 (some .int) yX5_grounded) {σ : eSt} {a2 : Int32} {a5 : Int32} {a8 : Int32} {s0 : Int32} {s1 : Int32} {z : Int64} {r : Int32 × eSt} {k103 : Int32 → Int32 → Option (Int32 × eSt)} (hk103 : ∀ (a7 : Int32) (a8 : Int32), k103 a7 a8 = some r → WX p l e rmX5_grounded s m args below meth c (MQ below (cQ (dC, dI) (yW cI cZ ad) (yA ad) (some (.int r.1)) r.2 z) args s 0 0 (yA ad)) (dC, dI) (yW cI cZ ad) (yA ad) 9 σ z [(0, .ref (ad 0)), (2, .int a2), (5, .int a5), (7, .int a7), (8, .int a8)] 103 []) (h : fX5_grounded_136 k103 σ a2 a5 a8 s0 s1 = some r) : WX p l e rmX5_grounded s m args below meth c (MQ below (cQ (dC, dI) (yW cI cZ ad) (yA ad) (some (.int r.1)) r.2 z) args s 0 0 (yA ad)) (dC, dI) (yW cI cZ ad) (yA ad) 9 σ z [(0, .ref (ad 0)), (2, .int a2), (5, .int a5), (8, .int a8)] 136 [.int s0, .int s1] := by
  unfold fX5_grounded_136 at h
  refine x_ior C dX5_grounded_136 ?_
  refine x_istore_b C (fun v1 => [(7, .int v1), (0, .ref (ad 0)), (2, .int a2), (5, .int a5), (8, .int a8)]) dX5_grounded_137 (by decide) h (fun _ => rfl) ?_
  intro v1 h
  refine x_iinc_b (j := 4) (w := 1) C (fun v2 => [(8, .int v2), (7, .int v1), (0, .ref (ad 0)), (2, .int a2), (5, .int a5)]) dX5_grounded_139 ic_1 rfl (by decide) h (fun _ => rfl) ?_
  intro v2 h
  refine x_goto (tgt := 103) C dX5_grounded_142 (by decide) ?_
  refine x_sub (lv' := [(0, .ref (ad 0)), (2, .int a2), (5, .int a5), (7, .int v1), (8, .int v2)]) [2, 3, 4, 1, 0] rfl ?_
  exact hk103 _ _ h
set_option maxRecDepth 100000 in
set_option maxHeartbeats 4000000 in
theorem wX5_grounded_103 (hJ : eInj 16 ad) (C : Cx p s m args meth c (dC, dI) (yW cI cZ ad) (yA ad) ExY [(cI, .int), (cZ, .boolean)] cX5_grounded 9 RX5 (some .int) yX5_grounded) {σ : eSt} {a2 : Int32} {a5 : Int32} {z : Int64} {r : Int32 × eSt} : ∀ (n : Nat) (a7 : Int32) (a8 : Int32), lo_2 (bX5_grounded_103 σ a2 a5) n a7 a8 = some r → WX p l e rmX5_grounded s m args below meth c (MQ below (cQ (dC, dI) (yW cI cZ ad) (yA ad) (some (.int r.1)) r.2 z) args s 0 0 (yA ad)) (dC, dI) (yW cI cZ ad) (yA ad) 9 σ z [(0, .ref (ad 0)), (2, .int a2), (5, .int a5), (7, .int a7), (8, .int a8)] 103 [] := by
  refine lo_2_ind (P := fun a7 a8 => WX p l e rmX5_grounded s m args below meth c (MQ below (cQ (dC, dI) (yW cI cZ ad) (yA ad) (some (.int r.1)) r.2 z) args s 0 0 (yA ad)) (dC, dI) (yW cI cZ ad) (yA ad) 9 σ z [(0, .ref (ad 0)), (2, .int a2), (5, .int a5), (7, .int a7), (8, .int a8)] 103 []) ?_
  intro k103 hk103 a7 a8 h
  unfold bX5_grounded_103 at h
  refine x_iload C dX5_grounded_103 4 rfl ?_
  refine x_bipush (v := 10) C dX5_grounded_105 bi_10 ?_
  refine x_icmp_ge (tgt := 145) C dX5_grounded_107 (by decide) h ?_ ?_
  · intro h
    refine x_iload C dX5_grounded_145 3 rfl ?_
    exact xr_wi C h dX5_grounded_147
  · intro h
    refine x_iload C dX5_grounded_110 3 rfl ?_
    refine x_aload_n C dX5_grounded_112 rfl 0 rfl ?_
    refine fg_5_11 C 0 rfl rfl k_3_20 dX5_grounded_113 ?_
    refine x_iload C dX5_grounded_116 4 rfl ?_
    refine x_iload C dX5_grounded_118 2 rfl ?_
    refine x_iconst (v := 0) C dX5_grounded_120 ic_0 ?_
    refine x_iload_n C dX5_grounded_121 rfl 1 rfl ?_
    obtain ⟨v1, hv, h⟩ := e_bind h
    refine x_callS_i C [.ref (ad 4), .int a8, .int a5, .int 0, .int a2] (tX5_carries hJ (Or.inl rfl) hv) k_3_162 k_3_163 k_1_6 k_3_164 hyX5_carries.2 ⟨rfl, rfl⟩ (by decide) rfl rfl (Nat.le_of_ble_eq_true rfl) dX5_grounded_122 ?_
    refine x_if_eq (tgt := 135) C dX5_grounded_125 (by decide) h ?_ ?_
    · intro h
      refine x_iconst (v := 0) C dX5_grounded_135 ic_0 ?_
      refine x_sub (lv' := [(0, .ref (ad 0)), (2, .int a2), (5, .int a5), (8, .int a8)]) [0, 1, 2, 4] rfl ?_
      exact wX5_grounded_136 hJ C hk103 h
    · intro h
      refine x_iconst (v := 1) C dX5_grounded_128 ic_1 ?_
      refine x_iload C dX5_grounded_129 4 rfl ?_
      refine x_ishl C dX5_grounded_131 ?_
      refine x_goto (tgt := 136) C dX5_grounded_132 (by decide) ?_
      refine x_sub (lv' := [(0, .ref (ad 0)), (2, .int a2), (5, .int a5), (8, .int a8)]) [0, 1, 2, 4] rfl ?_
      exact wX5_grounded_136 hJ C hk103 h
set_option maxRecDepth 100000 in
set_option maxHeartbeats 4000000 in
theorem wX5_grounded_0 (hJ : eInj 16 ad) (C : Cx p s m args meth c (dC, dI) (yW cI cZ ad) (yA ad) ExY [(cI, .int), (cZ, .boolean)] cX5_grounded 9 RX5 (some .int) yX5_grounded) {σ : eSt} {a1 : Int32} {a2 : Int32} {a3 : Int32} {a4 : Int32} {a5 : Int32} {z : Int64} {r : Int32 × eSt} (h : fX5_grounded σ a1 a2 a3 a4 a5 = some r) : WX p l e rmX5_grounded s m args below meth c (MQ below (cQ (dC, dI) (yW cI cZ ad) (yA ad) (some (.int r.1)) r.2 z) args s 0 0 (yA ad)) (dC, dI) (yW cI cZ ad) (yA ad) 9 σ z [(0, .ref (ad 0)), (1, .int a1), (2, .int a2), (3, .int a3), (4, .int a4), (5, .int a5)] 0 [] := by
  unfold fX5_grounded at h
  refine x_aload_n C dX5_grounded_0 rfl 0 rfl ?_
  refine x_iconst (v := 0) C dX5_grounded_1 ic_0 ?_
  refine fp_5_0 C 0 rfl (Nat.le_of_ble_eq_true rfl) k_3_9 h rfl dX5_grounded_2 ?_
  intro σ1 h
  refine x_aload_n C dX5_grounded_5 rfl 0 rfl ?_
  refine x_iload_n C dX5_grounded_6 rfl 1 rfl ?_
  obtain ⟨v2, hv, h⟩ := e_bind h
  refine x_callV_i C (ci := 5) 0 [.int a1] (tX5_noSound hJ hv) k_3_150 k_3_152 k_p_26 k_1_6 k_3_153 hyX5_noSound ⟨rfl, rfl⟩ (by decide) rfl rfl rfl rfl (Nat.le_of_ble_eq_true rfl) dX5_grounded_7 ?_
  refine x_if_eq (tgt := 15) C dX5_grounded_10 (by decide) h ?_ ?_
  · intro h
    refine x_iload_n C dX5_grounded_15 rfl 2 rfl ?_
    obtain ⟨v3, hv, h⟩ := e_bind h
    refine x_callS_i C [.int a2] (tX5_noCell hJ hv) k_3_173 k_3_174 k_1_6 k_3_175 hyX5_noCell.2 ⟨rfl, rfl⟩ (by decide) rfl rfl (Nat.le_of_ble_eq_true rfl) dX5_grounded_16 ?_
    refine x_if_ne (tgt := 50) C dX5_grounded_19 (by decide) h ?_ ?_
    · intro h
      refine x_bipush (v := (-2)) C dX5_grounded_50 bi_m2 ?_
      exact xr_wi C h dX5_grounded_52
    · intro h
      refine x_iload_n C dX5_grounded_22 rfl 3 rfl ?_
      obtain ⟨v4, hv, h⟩ := e_bind h
      refine x_callS_i C [.int a3] (tX5_noCell hJ hv) k_3_173 k_3_174 k_1_6 k_3_175 hyX5_noCell.2 ⟨rfl, rfl⟩ (by decide) rfl rfl (Nat.le_of_ble_eq_true rfl) dX5_grounded_23 ?_
      refine x_if_ne (tgt := 50) C dX5_grounded_26 (by decide) h ?_ ?_
      · intro h
        refine x_bipush (v := (-2)) C dX5_grounded_50 bi_m2 ?_
        exact xr_wi C h dX5_grounded_52
      · intro h
        refine x_iload C dX5_grounded_29 4 rfl ?_
        obtain ⟨v5, hv, h⟩ := e_bind h
        refine x_callS_i C [.int a4] (tX5_noHour hJ hv) k_3_209 k_3_210 k_1_6 k_3_211 hyX5_noHour.2 ⟨rfl, rfl⟩ (by decide) rfl rfl (Nat.le_of_ble_eq_true rfl) dX5_grounded_31 ?_
        refine x_if_ne (tgt := 50) C dX5_grounded_34 (by decide) h ?_ ?_
        · intro h
          refine x_bipush (v := (-2)) C dX5_grounded_50 bi_m2 ?_
          exact xr_wi C h dX5_grounded_52
        · intro h
          refine x_iload C dX5_grounded_37 5 rfl ?_
          refine x_i2l C dX5_grounded_39 ?_
          refine x_lconst (v := 1) C dX5_grounded_40 rfl ?_
          refine x_ldc2 (v := 9) C dX5_grounded_41 k_3_176 ?_
          obtain ⟨v6, hv, h⟩ := e_bind h
          refine x_callS_i C [.long (a5.toInt64), .long 1, .long 9] (tX5_in hJ hv) k_3_111 k_3_112 k_1_6 k_3_113 hyX5_in.2 ⟨rfl, rfl⟩ (by decide) rfl rfl (Nat.le_of_ble_eq_true rfl) dX5_grounded_44 ?_
          refine x_if_ne (tgt := 53) C dX5_grounded_47 (by decide) h ?_ ?_
          · intro h
            refine x_aload_n C dX5_grounded_53 rfl 0 rfl ?_
            refine x_aload_n C dX5_grounded_54 rfl 0 rfl ?_
            refine fg_5_11 C 0 rfl rfl k_3_20 dX5_grounded_55 ?_
            refine x_iload_n C dX5_grounded_58 rfl 2 rfl ?_
            refine x_iload C dX5_grounded_59 4 rfl ?_
            obtain ⟨v7, hv, h⟩ := e_bind h
            refine x_callV_i C (ci := 5) 0 [.ref (ad 4), .int a2, .int a4] (tX5_heardAt hJ (Or.inl rfl) hv) k_3_181 k_3_183 k_p_29 k_1_6 k_3_184 hyX5_heardAt ⟨rfl, rfl⟩ (by decide) rfl rfl rfl rfl (Nat.le_of_ble_eq_true rfl) dX5_grounded_61 ?_
            refine x_istore (lv' := [(6, .int v7), (0, .ref (ad 0)), (1, .int a1), (2, .int a2), (3, .int a3), (4, .int a4), (5, .int a5)]) C dX5_grounded_64 (by decide) rfl ?_
            refine x_iload C dX5_grounded_66 0 rfl ?_
            refine x_iload_n C dX5_grounded_68 rfl 2 rfl ?_
            obtain ⟨v8, hv, h⟩ := e_bind h
            refine x_callS_i C [.int v7, .int a1] (tX5_has hJ hv) k_3_159 k_3_160 k_1_6 k_3_161 hyX5_has.2 ⟨rfl, rfl⟩ (by decide) rfl rfl (Nat.le_of_ble_eq_true rfl) dX5_grounded_69 ?_
            refine x_if_ne (tgt := 95) C dX5_grounded_72 (by decide) h ?_ ?_
            · intro h
              refine x_iconst (v := 0) C dX5_grounded_95 ic_0 ?_
              exact xr_wi C h dX5_grounded_96
            · intro h
              refine x_iload C dX5_grounded_75 0 rfl ?_
              refine x_iconst (v := 1) C dX5_grounded_77 ic_1 ?_
              refine x_iload_n C dX5_grounded_78 rfl 2 rfl ?_
              refine x_ishl C dX5_grounded_79 ?_
              refine x_ior C dX5_grounded_80 ?_
              refine x_aload_n C dX5_grounded_81 rfl 1 rfl ?_
              refine x_aload_n C dX5_grounded_82 rfl 1 rfl ?_
              refine fg_5_11 C 0 rfl rfl k_3_20 dX5_grounded_83 ?_
              refine x_iload_n C dX5_grounded_86 rfl 4 rfl ?_
              refine x_iload C dX5_grounded_87 5 rfl ?_
              obtain ⟨v9, hv, h⟩ := e_bind h
              refine x_callV_i C (ci := 5) 0 [.ref (ad 4), .int a3, .int a4] (tX5_heardAt hJ (Or.inl rfl) hv) k_3_181 k_3_183 k_p_29 k_1_6 k_3_184 hyX5_heardAt ⟨rfl, rfl⟩ (by decide) rfl rfl rfl rfl (Nat.le_of_ble_eq_true rfl) dX5_grounded_89 ?_
              refine x_icmp_eq (tgt := 97) C dX5_grounded_92 (by decide) h ?_ ?_
              · intro h
                refine x_iconst (v := 0) C dX5_grounded_97 ic_0 ?_
                refine x_istore (lv' := [(7, .int 0), (6, .int v7), (0, .ref (ad 0)), (1, .int a1), (2, .int a2), (3, .int a3), (4, .int a4), (5, .int a5)]) C dX5_grounded_98 (by decide) rfl ?_
                refine x_iconst (v := 0) C dX5_grounded_100 ic_0 ?_
                refine x_istore (lv' := [(8, .int 0), (7, .int 0), (6, .int v7), (0, .ref (ad 0)), (1, .int a1), (2, .int a2), (3, .int a3), (4, .int a4), (5, .int a5)]) C dX5_grounded_101 (by decide) rfl ?_
                refine x_sub (lv' := [(0, .ref (ad 0)), (2, .int a2), (5, .int a5), (7, .int 0), (8, .int 0)]) [3, 5, 8, 1, 0] rfl ?_
                exact wX5_grounded_103 hJ C _ _ _ h
              · intro h
                refine x_iconst (v := 0) C dX5_grounded_95 ic_0 ?_
                exact xr_wi C h dX5_grounded_96
          · intro h
            refine x_bipush (v := (-2)) C dX5_grounded_50 bi_m2 ?_
            exact xr_wi C h dX5_grounded_52
  · intro h
    refine x_iconst (v := (-1)) C dX5_grounded_13 ic_m1 ?_
    exact xr_wi C h dX5_grounded_14
set_option maxRecDepth 100000 in
set_option maxHeartbeats 4000000 in
theorem tX5_grounded {l : Launch} {dC : Nat → ClassId} {dI : Nat → Nat → Nat} {cI cZ : ClassId} {ad : Nat → Nat} (hJ : eInj 16 ad) {σ : eSt} {a1 : Int32} {a2 : Int32} {a3 : Int32} {a4 : Int32} {a5 : Int32} {z : Int64} {r : Int32 × eSt} (h : fX5_grounded σ a1 a2 a3 a4 a5 = some r) : Con l yX5_grounded cX5_grounded 9 (some .int) rmX5_grounded (dC, dI) (yW cI cZ ad) (yA ad) [(cI, .int), (cZ, .boolean)] ExY [.ref (ad 0), .int a1, .int a2, .int a3, .int a4, .int a5] σ z (some (.int r.1)) r.2 z :=
  x_con (by decide) (yW_D hJ) (ExY_ok ad) (Nat.le_of_ble_eq_true rfl) (fun p e s m args below meth c C => wX5_grounded_0 hJ C h)
set_option maxRecDepth 100000 in
set_option maxHeartbeats 4000000 in
theorem wX5_see_0 (hJ : eInj 16 ad) (C : Cx p s m args meth c (dC, dI) (yW cI cZ ad) (yA ad) ExY [(cI, .int), (cZ, .boolean)] cX5_see 5 RX5 (some .int) yX5_see) {σ : eSt} {a1 : Int32} {a2 : Int32} {a3 : Int32} {a4 : Int32} {z : Int64} {r : Int32 × eSt} (h : fX5_see σ a1 a2 a3 a4 = some r) : WX p l e rmX5_see s m args below meth c (MQ below (cQ (dC, dI) (yW cI cZ ad) (yA ad) (some (.int r.1)) r.2 z) args s 0 0 (yA ad)) (dC, dI) (yW cI cZ ad) (yA ad) 5 σ z [(0, .ref (ad 0)), (1, .int a1), (2, .int a2), (3, .int a3), (4, .int a4)] 0 [] := by
  unfold fX5_see at h
  refine x_aload_n C dX5_see_0 rfl 0 rfl ?_
  refine x_iconst (v := 0) C dX5_see_1 ic_0 ?_
  refine fp_5_0 C 0 rfl (Nat.le_of_ble_eq_true rfl) k_3_9 h rfl dX5_see_2 ?_
  intro σ1 h
  refine x_aload_n C dX5_see_5 rfl 0 rfl ?_
  refine x_iload_n C dX5_see_6 rfl 1 rfl ?_
  obtain ⟨v2, hv, h⟩ := e_bind h
  refine x_callV_i C (ci := 5) 0 [.int a1] (tX5_noSound hJ hv) k_3_150 k_3_152 k_p_26 k_1_6 k_3_153 hyX5_noSound ⟨rfl, rfl⟩ (by decide) rfl rfl rfl rfl (Nat.le_of_ble_eq_true rfl) dX5_see_7 ?_
  refine x_if_eq (tgt := 15) C dX5_see_10 (by decide) h ?_ ?_
  · intro h
    refine x_iload_n C dX5_see_15 rfl 2 rfl ?_
    obtain ⟨v3, hv, h⟩ := e_bind h
    refine x_callS_i C [.int a2] (tX5_noCell hJ hv) k_3_173 k_3_174 k_1_6 k_3_175 hyX5_noCell.2 ⟨rfl, rfl⟩ (by decide) rfl rfl (Nat.le_of_ble_eq_true rfl) dX5_see_16 ?_
    refine x_if_ne (tgt := 29) C dX5_see_19 (by decide) h ?_ ?_
    · intro h
      refine x_bipush (v := (-2)) C dX5_see_29 bi_m2 ?_
      exact xr_wi C h dX5_see_31
    · intro h
      refine x_iload_n C dX5_see_22 rfl 3 rfl ?_
      obtain ⟨v4, hv, h⟩ := e_bind h
      refine x_callS_i C [.int a3] (tX5_noHour hJ hv) k_3_209 k_3_210 k_1_6 k_3_211 hyX5_noHour.2 ⟨rfl, rfl⟩ (by decide) rfl rfl (Nat.le_of_ble_eq_true rfl) dX5_see_23 ?_
      refine x_if_eq (tgt := 32) C dX5_see_26 (by decide) h ?_ ?_
      · intro h
        refine x_aload_n C dX5_see_32 rfl 0 rfl ?_
        refine fg_5_17 C 0 rfl rfl k_3_26 dX5_see_33 ?_
        refine x_bipush (v := 6) C dX5_see_36 bi_6 ?_
        refine x_icmp_ne (tgt := 44) C dX5_see_38 (by decide) h ?_ ?_
        · intro h
          refine x_aload_n C dX5_see_44 rfl 0 rfl ?_
          refine fg_5_18 C 0 rfl rfl k_3_27 dX5_see_45 ?_
          refine x_aload_n C dX5_see_48 rfl 0 rfl ?_
          refine fg_5_17 C 0 rfl rfl k_3_26 dX5_see_49 ?_
          refine x_iload_n C dX5_see_52 rfl 1 rfl ?_
          refine x_iast C 9 0 rfl rfl dX5_see_53 h rfl ?_
          intro σ5 h
          refine x_aload_n C dX5_see_54 rfl 0 rfl ?_
          refine fg_5_19 C 0 rfl rfl k_3_28 dX5_see_55 ?_
          refine x_aload_n C dX5_see_58 rfl 0 rfl ?_
          refine fg_5_17 C 0 rfl rfl k_3_26 dX5_see_59 ?_
          refine x_iload_n C dX5_see_62 rfl 2 rfl ?_
          refine x_iast C 10 0 rfl rfl dX5_see_63 h rfl ?_
          intro σ6 h
          refine x_aload_n C dX5_see_64 rfl 0 rfl ?_
          refine fg_5_20 C 0 rfl rfl k_3_29 dX5_see_65 ?_
          refine x_aload_n C dX5_see_68 rfl 0 rfl ?_
          refine fg_5_17 C 0 rfl rfl k_3_26 dX5_see_69 ?_
          refine x_iload_n C dX5_see_72 rfl 3 rfl ?_
          refine x_iast C 11 0 rfl rfl dX5_see_73 h rfl ?_
          intro σ7 h
          refine x_aload_n C dX5_see_74 rfl 0 rfl ?_
          refine fg_5_21 C 0 rfl rfl k_3_30 dX5_see_75 ?_
          refine x_aload_n C dX5_see_78 rfl 0 rfl ?_
          refine fg_5_17 C 0 rfl rfl k_3_26 dX5_see_79 ?_
          refine x_iload C dX5_see_82 4 rfl ?_
          refine x_zast C 12 1 rfl rfl dX5_see_84 h rfl ?_
          intro σ8 h
          refine x_aload_n C dX5_see_85 rfl 0 rfl ?_
          refine x_dup C dX5_see_86 rfl ?_
          refine fg_5_17 C 0 rfl rfl k_3_26 dX5_see_87 ?_
          refine x_iconst (v := 1) C dX5_see_90 ic_1 ?_
          refine x_iadd C dX5_see_91 ?_
          refine fp_5_17 C 0 rfl (Nat.le_of_ble_eq_true rfl) k_3_26 h rfl dX5_see_92 ?_
          intro σ9 h
          refine x_aload_n C dX5_see_95 rfl 0 rfl ?_
          refine fg_5_17 C 0 rfl rfl k_3_26 dX5_see_96 ?_
          exact xr_wi C h dX5_see_99
        · intro h
          refine x_bipush (v := (-4)) C dX5_see_41 bi_m4 ?_
          exact xr_wi C h dX5_see_43
      · intro h
        refine x_bipush (v := (-2)) C dX5_see_29 bi_m2 ?_
        exact xr_wi C h dX5_see_31
  · intro h
    refine x_iconst (v := (-1)) C dX5_see_13 ic_m1 ?_
    exact xr_wi C h dX5_see_14
set_option maxRecDepth 100000 in
set_option maxHeartbeats 4000000 in
theorem tX5_see {l : Launch} {dC : Nat → ClassId} {dI : Nat → Nat → Nat} {cI cZ : ClassId} {ad : Nat → Nat} (hJ : eInj 16 ad) {σ : eSt} {a1 : Int32} {a2 : Int32} {a3 : Int32} {a4 : Int32} {z : Int64} {r : Int32 × eSt} (h : fX5_see σ a1 a2 a3 a4 = some r) : Con l yX5_see cX5_see 5 (some .int) rmX5_see (dC, dI) (yW cI cZ ad) (yA ad) [(cI, .int), (cZ, .boolean)] ExY [.ref (ad 0), .int a1, .int a2, .int a3, .int a4] σ z (some (.int r.1)) r.2 z :=
  x_con (by decide) (yW_D hJ) (ExY_ok ad) (Nat.le_of_ble_eq_true rfl) (fun p e s m args below meth c C => wX5_see_0 hJ C h)
set_option maxRecDepth 100000 in
set_option maxHeartbeats 4000000 in
theorem wX5_unsee_0 (hJ : eInj 16 ad) (C : Cx p s m args meth c (dC, dI) (yW cI cZ ad) (yA ad) ExY [(cI, .int), (cZ, .boolean)] cX5_unsee 2 RX5 (some .int) yX5_unsee) {σ : eSt} {z : Int64} {r : Int32 × eSt} (h : fX5_unsee σ = some r) : WX p l e rmX5_unsee s m args below meth c (MQ below (cQ (dC, dI) (yW cI cZ ad) (yA ad) (some (.int r.1)) r.2 z) args s 0 0 (yA ad)) (dC, dI) (yW cI cZ ad) (yA ad) 2 σ z [(0, .ref (ad 0))] 0 [] := by
  unfold fX5_unsee at h
  refine x_aload_n C dX5_unsee_0 rfl 0 rfl ?_
  refine x_iconst (v := 0) C dX5_unsee_1 ic_0 ?_
  refine fp_5_0 C 0 rfl (Nat.le_of_ble_eq_true rfl) k_3_9 h rfl dX5_unsee_2 ?_
  intro σ1 h
  refine x_aload_n C dX5_unsee_5 rfl 0 rfl ?_
  refine fg_5_17 C 0 rfl rfl k_3_26 dX5_unsee_6 ?_
  refine x_istore_n_b C (fun v2 => [(1, .int v2), (0, .ref (ad 0))]) dX5_unsee_9 rfl (by decide) h (fun _ => rfl) ?_
  intro v2 h
  refine x_aload_n C dX5_unsee_10 rfl 1 rfl ?_
  refine x_iconst (v := 0) C dX5_unsee_11 ic_0 ?_
  refine fp_5_17 C 0 rfl (Nat.le_of_ble_eq_true rfl) k_3_26 h rfl dX5_unsee_12 ?_
  intro σ3 h
  refine x_iload_n C dX5_unsee_15 rfl 0 rfl ?_
  exact xr_wi C h dX5_unsee_16
set_option maxRecDepth 100000 in
set_option maxHeartbeats 4000000 in
theorem tX5_unsee {l : Launch} {dC : Nat → ClassId} {dI : Nat → Nat → Nat} {cI cZ : ClassId} {ad : Nat → Nat} (hJ : eInj 16 ad) {σ : eSt} {z : Int64} {r : Int32 × eSt} (h : fX5_unsee σ = some r) : Con l yX5_unsee cX5_unsee 2 (some .int) rmX5_unsee (dC, dI) (yW cI cZ ad) (yA ad) [(cI, .int), (cZ, .boolean)] ExY [.ref (ad 0)] σ z (some (.int r.1)) r.2 z :=
  x_con (by decide) (yW_D hJ) (ExY_ok ad) (Nat.le_of_ble_eq_true rfl) (fun p e s m args below meth c C => wX5_unsee_0 hJ C h)
set_option maxRecDepth 100000 in
set_option maxHeartbeats 4000000 in
theorem wX5_weather_186 (hJ : eInj 16 ad) (C : Cx p s m args meth c (dC, dI) (yW cI cZ ad) (yA ad) ExY [(cI, .int), (cZ, .boolean)] cX5_weather 5 RX5 (some .int) yX5_weather) {σ : eSt} {a1 : Int32} {a2 : Int32} {z : Int64} {r : Int32 × eSt} {k31 : Int32 → eSt → Option (Int32 × eSt)} (hk31 : ∀ (a2 : Int32) (σ : eSt), k31 a2 σ = some r → WX p l e rmX5_weather s m args below meth c (MQ below (cQ (dC, dI) (yW cI cZ ad) (yA ad) (some (.int r.1)) r.2 z) args s 0 0 (yA ad)) (dC, dI) (yW cI cZ ad) (yA ad) 5 σ z [(0, .ref (ad 0)), (1, .int a1), (2, .int a2)] 31 []) (h : fX5_weather_186 k31 σ a1 a2 = some r) : WX p l e rmX5_weather s m args below meth c (MQ below (cQ (dC, dI) (yW cI cZ ad) (yA ad) (some (.int r.1)) r.2 z) args s 0 0 (yA ad)) (dC, dI) (yW cI cZ ad) (yA ad) 5 σ z [(0, .ref (ad 0)), (1, .int a1), (2, .int a2)] 186 [] := by
  unfold fX5_weather_186 at h
  refine x_iinc_b (j := 2) (w := 1) C (fun v1 => [(2, .int v1), (0, .ref (ad 0)), (1, .int a1)]) dX5_weather_186 ic_1 rfl (by decide) h (fun _ => rfl) ?_
  intro v1 h
  refine x_goto (tgt := 31) C dX5_weather_189 (by decide) ?_
  refine x_sub (lv' := [(0, .ref (ad 0)), (1, .int a1), (2, .int v1)]) [1, 2, 0] rfl ?_
  exact hk31 _ _ h
set_option maxRecDepth 100000 in
set_option maxHeartbeats 4000000 in
theorem wX5_weather_173 (hJ : eInj 16 ad) (C : Cx p s m args meth c (dC, dI) (yW cI cZ ad) (yA ad) ExY [(cI, .int), (cZ, .boolean)] cX5_weather 5 RX5 (some .int) yX5_weather) {σ : eSt} {a1 : Int32} {a2 : Int32} {s0 : Int32} {z : Int64} {r : Int32 × eSt} {k31 : Int32 → eSt → Option (Int32 × eSt)} (hk31 : ∀ (a2 : Int32) (σ : eSt), k31 a2 σ = some r → WX p l e rmX5_weather s m args below meth c (MQ below (cQ (dC, dI) (yW cI cZ ad) (yA ad) (some (.int r.1)) r.2 z) args s 0 0 (yA ad)) (dC, dI) (yW cI cZ ad) (yA ad) 5 σ z [(0, .ref (ad 0)), (1, .int a1), (2, .int a2)] 31 []) (h : fX5_weather_173 k31 σ a1 a2 s0 = some r) : WX p l e rmX5_weather s m args below meth c (MQ below (cQ (dC, dI) (yW cI cZ ad) (yA ad) (some (.int r.1)) r.2 z) args s 0 0 (yA ad)) (dC, dI) (yW cI cZ ad) (yA ad) 5 σ z [(0, .ref (ad 0)), (1, .int a1), (2, .int a2)] 173 [.int s0, .ref (ad 0)] := by
  unfold fX5_weather_173 at h
  refine fp_5_31 C 0 rfl (Nat.le_of_ble_eq_true rfl) k_3_40 h rfl dX5_weather_173 ?_
  intro σ1 h
  refine x_aload_n C dX5_weather_176 rfl 0 rfl ?_
  refine x_dup C dX5_weather_177 rfl ?_
  refine fg_5_30 C 0 rfl rfl k_3_39 dX5_weather_178 ?_
  refine x_iconst (v := 1) C dX5_weather_181 ic_1 ?_
  refine x_iadd C dX5_weather_182 ?_
  refine fp_5_30 C 0 rfl (Nat.le_of_ble_eq_true rfl) k_3_39 h rfl dX5_weather_183 ?_
  intro σ2 h
  exact wX5_weather_186 hJ C hk31 h
set_option maxRecDepth 100000 in
set_option maxHeartbeats 4000000 in
theorem wX5_weather_144 (hJ : eInj 16 ad) (C : Cx p s m args meth c (dC, dI) (yW cI cZ ad) (yA ad) ExY [(cI, .int), (cZ, .boolean)] cX5_weather 5 RX5 (some .int) yX5_weather) {σ : eSt} {a1 : Int32} {a2 : Int32} {a3 : Int32} {z : Int64} {r : Int32 × eSt} {k31 : Int32 → eSt → Option (Int32 × eSt)} (hk31 : ∀ (a2 : Int32) (σ : eSt), k31 a2 σ = some r → WX p l e rmX5_weather s m args below meth c (MQ below (cQ (dC, dI) (yW cI cZ ad) (yA ad) (some (.int r.1)) r.2 z) args s 0 0 (yA ad)) (dC, dI) (yW cI cZ ad) (yA ad) 5 σ z [(0, .ref (ad 0)), (1, .int a1), (2, .int a2)] 31 []) (h : fX5_weather_144 k31 σ a1 a2 a3 = some r) : WX p l e rmX5_weather s m args below meth c (MQ below (cQ (dC, dI) (yW cI cZ ad) (yA ad) (some (.int r.1)) r.2 z) args s 0 0 (yA ad)) (dC, dI) (yW cI cZ ad) (yA ad) 5 σ z [(0, .ref (ad 0)), (1, .int a1), (2, .int a2), (3, .int a3)] 144 [] := by
  unfold fX5_weather_144 at h
  refine x_iload_n C dX5_weather_144 rfl 3 rfl ?_
  refine x_if_eq (tgt := 186) C dX5_weather_145 (by decide) h ?_ ?_
  · intro h
    refine x_sub (lv' := [(0, .ref (ad 0)), (1, .int a1), (2, .int a2)]) [0, 1, 2] rfl ?_
    exact wX5_weather_186 hJ C hk31 h
  · intro h
    refine x_aload_n C dX5_weather_148 rfl 0 rfl ?_
    refine x_aload_n C dX5_weather_149 rfl 0 rfl ?_
    refine fg_5_30 C 0 rfl rfl k_3_39 dX5_weather_150 ?_
    refine x_if_ne (tgt := 169) C dX5_weather_153 (by decide) h ?_ ?_
    · intro h
      refine x_aload_n C dX5_weather_169 rfl 0 rfl ?_
      refine fg_5_31 C 0 rfl rfl k_3_40 dX5_weather_170 ?_
      refine x_sub (lv' := [(0, .ref (ad 0)), (1, .int a1), (2, .int a2)]) [0, 1, 2] rfl ?_
      exact wX5_weather_173 hJ C hk31 h
    · intro h
      refine x_bipush (v := 10) C dX5_weather_156 bi_10 ?_
      refine x_iload_n C dX5_weather_158 rfl 2 rfl ?_
      refine x_iconst (v := 3) C dX5_weather_159 ic_3 ?_
      refine x_idiv_c C dX5_weather_160 (by decide) ?_
      refine x_imul C dX5_weather_161 ?_
      refine x_iload_n C dX5_weather_162 rfl 2 rfl ?_
      refine x_iconst (v := 3) C dX5_weather_163 ic_3 ?_
      refine x_irem_c C dX5_weather_164 (by decide) ?_
      refine x_iadd C dX5_weather_165 ?_
      refine x_goto (tgt := 173) C dX5_weather_166 (by decide) ?_
      refine x_sub (lv' := [(0, .ref (ad 0)), (1, .int a1), (2, .int a2)]) [0, 1, 2] rfl ?_
      exact wX5_weather_173 hJ C hk31 h
set_option maxRecDepth 100000 in
set_option maxHeartbeats 4000000 in
theorem wX5_weather_137 (hJ : eInj 16 ad) (C : Cx p s m args meth c (dC, dI) (yW cI cZ ad) (yA ad) ExY [(cI, .int), (cZ, .boolean)] cX5_weather 5 RX5 (some .int) yX5_weather) {σ : eSt} {a1 : Int32} {a2 : Int32} {a4 : Int32} {s0 : Int32} {z : Int64} {r : Int32 × eSt} {k31 : Int32 → eSt → Option (Int32 × eSt)} (hk31 : ∀ (a2 : Int32) (σ : eSt), k31 a2 σ = some r → WX p l e rmX5_weather s m args below meth c (MQ below (cQ (dC, dI) (yW cI cZ ad) (yA ad) (some (.int r.1)) r.2 z) args s 0 0 (yA ad)) (dC, dI) (yW cI cZ ad) (yA ad) 5 σ z [(0, .ref (ad 0)), (1, .int a1), (2, .int a2)] 31 []) {k66 : Int32 → Int32 → Option (Int32 × eSt)} (hk66 : ∀ (a3 : Int32) (a4 : Int32), k66 a3 a4 = some r → WX p l e rmX5_weather s m args below meth c (MQ below (cQ (dC, dI) (yW cI cZ ad) (yA ad) (some (.int r.1)) r.2 z) args s 0 0 (yA ad)) (dC, dI) (yW cI cZ ad) (yA ad) 5 σ z [(0, .ref (ad 0)), (1, .int a1), (2, .int a2), (3, .int a3), (4, .int a4)] 66 []) (h : fX5_weather_137 k31 k66 σ a1 a2 a4 s0 = some r) : WX p l e rmX5_weather s m args below meth c (MQ below (cQ (dC, dI) (yW cI cZ ad) (yA ad) (some (.int r.1)) r.2 z) args s 0 0 (yA ad)) (dC, dI) (yW cI cZ ad) (yA ad) 5 σ z [(0, .ref (ad 0)), (1, .int a1), (2, .int a2), (4, .int a4)] 137 [.int s0] := by
  unfold fX5_weather_137 at h
  refine x_istore_n (lv' := [(3, .int s0), (0, .ref (ad 0)), (1, .int a1), (2, .int a2), (4, .int a4)]) C dX5_weather_137 rfl (by decide) rfl ?_
  refine x_iinc_b (j := 4) (w := 1) C (fun v1 => [(4, .int v1), (3, .int s0), (0, .ref (ad 0)), (1, .int a1), (2, .int a2)]) dX5_weather_138 ic_1 rfl (by decide) h (fun _ => rfl) ?_
  intro v1 h
  refine x_goto (tgt := 66) C dX5_weather_141 (by decide) ?_
  refine x_sub (lv' := [(0, .ref (ad 0)), (1, .int a1), (2, .int a2), (3, .int s0), (4, .int v1)]) [2, 3, 4, 1, 0] rfl ?_
  exact hk66 _ _ h
set_option maxRecDepth 100000 in
set_option maxHeartbeats 4000000 in
theorem wX5_weather_132 (hJ : eInj 16 ad) (C : Cx p s m args meth c (dC, dI) (yW cI cZ ad) (yA ad) ExY [(cI, .int), (cZ, .boolean)] cX5_weather 5 RX5 (some .int) yX5_weather) {σ : eSt} {a1 : Int32} {a2 : Int32} {a4 : Int32} {z : Int64} {r : Int32 × eSt} {k31 : Int32 → eSt → Option (Int32 × eSt)} (hk31 : ∀ (a2 : Int32) (σ : eSt), k31 a2 σ = some r → WX p l e rmX5_weather s m args below meth c (MQ below (cQ (dC, dI) (yW cI cZ ad) (yA ad) (some (.int r.1)) r.2 z) args s 0 0 (yA ad)) (dC, dI) (yW cI cZ ad) (yA ad) 5 σ z [(0, .ref (ad 0)), (1, .int a1), (2, .int a2)] 31 []) {k66 : Int32 → Int32 → Option (Int32 × eSt)} (hk66 : ∀ (a3 : Int32) (a4 : Int32), k66 a3 a4 = some r → WX p l e rmX5_weather s m args below meth c (MQ below (cQ (dC, dI) (yW cI cZ ad) (yA ad) (some (.int r.1)) r.2 z) args s 0 0 (yA ad)) (dC, dI) (yW cI cZ ad) (yA ad) 5 σ z [(0, .ref (ad 0)), (1, .int a1), (2, .int a2), (3, .int a3), (4, .int a4)] 66 []) (h : fX5_weather_132 k31 k66 σ a1 a2 a4 = some r) : WX p l e rmX5_weather s m args below meth c (MQ below (cQ (dC, dI) (yW cI cZ ad) (yA ad) (some (.int r.1)) r.2 z) args s 0 0 (yA ad)) (dC, dI) (yW cI cZ ad) (yA ad) 5 σ z [(0, .ref (ad 0)), (1, .int a1), (2, .int a2), (4, .int a4)] 132 [] := by
  unfold fX5_weather_132 at h
  refine x_iconst (v := 1) C dX5_weather_132 ic_1 ?_
  refine x_goto (tgt := 137) C dX5_weather_133 (by decide) ?_
  exact wX5_weather_137 hJ C hk31 hk66 h
set_option maxRecDepth 100000 in
set_option maxHeartbeats 4000000 in
theorem wX5_weather_66 (hJ : eInj 16 ad) (C : Cx p s m args meth c (dC, dI) (yW cI cZ ad) (yA ad) ExY [(cI, .int), (cZ, .boolean)] cX5_weather 5 RX5 (some .int) yX5_weather) {σ : eSt} {a1 : Int32} {a2 : Int32} {z : Int64} {r : Int32 × eSt} {k31 : Int32 → eSt → Option (Int32 × eSt)} (hk31 : ∀ (a2 : Int32) (σ : eSt), k31 a2 σ = some r → WX p l e rmX5_weather s m args below meth c (MQ below (cQ (dC, dI) (yW cI cZ ad) (yA ad) (some (.int r.1)) r.2 z) args s 0 0 (yA ad)) (dC, dI) (yW cI cZ ad) (yA ad) 5 σ z [(0, .ref (ad 0)), (1, .int a1), (2, .int a2)] 31 []) : ∀ (n : Nat) (a3 : Int32) (a4 : Int32), lo_2 (bX5_weather_66 k31 σ a1 a2) n a3 a4 = some r → WX p l e rmX5_weather s m args below meth c (MQ below (cQ (dC, dI) (yW cI cZ ad) (yA ad) (some (.int r.1)) r.2 z) args s 0 0 (yA ad)) (dC, dI) (yW cI cZ ad) (yA ad) 5 σ z [(0, .ref (ad 0)), (1, .int a1), (2, .int a2), (3, .int a3), (4, .int a4)] 66 [] := by
  refine lo_2_ind (P := fun a3 a4 => WX p l e rmX5_weather s m args below meth c (MQ below (cQ (dC, dI) (yW cI cZ ad) (yA ad) (some (.int r.1)) r.2 z) args s 0 0 (yA ad)) (dC, dI) (yW cI cZ ad) (yA ad) 5 σ z [(0, .ref (ad 0)), (1, .int a1), (2, .int a2), (3, .int a3), (4, .int a4)] 66 []) ?_
  intro k66 hk66 a3 a4 h
  unfold bX5_weather_66 at h
  refine x_iload C dX5_weather_66 4 rfl ?_
  refine x_aload_n C dX5_weather_68 rfl 0 rfl ?_
  refine fg_5_17 C 0 rfl rfl k_3_26 dX5_weather_69 ?_
  refine x_icmp_ge (tgt := 144) C dX5_weather_72 (by decide) h ?_ ?_
  · intro h
    refine x_sub (lv' := [(0, .ref (ad 0)), (1, .int a1), (2, .int a2), (3, .int a3)]) [0, 1, 2, 3] rfl ?_
    exact wX5_weather_144 hJ C hk31 h
  · intro h
    refine x_iload_n C dX5_weather_75 rfl 3 rfl ?_
    refine x_if_eq (tgt := 144) C dX5_weather_76 (by decide) h ?_ ?_
    · intro h
      refine x_sub (lv' := [(0, .ref (ad 0)), (1, .int a1), (2, .int a2), (3, .int a3)]) [0, 1, 2, 3] rfl ?_
      exact wX5_weather_144 hJ C hk31 h
    · intro h
      refine x_aload_n C dX5_weather_79 rfl 0 rfl ?_
      refine fg_5_18 C 0 rfl rfl k_3_27 dX5_weather_80 ?_
      refine x_iload C dX5_weather_83 4 rfl ?_
      refine x_iald C 9 0 rfl rfl dX5_weather_85 h ?_
      intro h
      refine x_aload_n C dX5_weather_86 rfl 0 rfl ?_
      refine fg_5_4 C 0 rfl rfl k_3_13 dX5_weather_87 ?_
      refine x_icmp_ge (tgt := 132) C dX5_weather_90 (by decide) h ?_ ?_
      · intro h
        refine x_sub (lv' := [(0, .ref (ad 0)), (1, .int a1), (2, .int a2), (4, .int a4)]) [0, 1, 2, 4] rfl ?_
        exact wX5_weather_132 hJ C hk31 hk66 h
      · intro h
        refine x_aload_n C dX5_weather_93 rfl 0 rfl ?_
        refine x_aload_n C dX5_weather_94 rfl 0 rfl ?_
        refine fg_5_12 C 0 rfl rfl k_3_21 dX5_weather_95 ?_
        refine x_aload_n C dX5_weather_98 rfl 0 rfl ?_
        refine fg_5_18 C 0 rfl rfl k_3_27 dX5_weather_99 ?_
        refine x_iload C dX5_weather_102 4 rfl ?_
        refine x_iald C 9 0 rfl rfl dX5_weather_104 h ?_
        intro h
        refine x_aload_n C dX5_weather_105 rfl 0 rfl ?_
        refine fg_5_19 C 0 rfl rfl k_3_28 dX5_weather_106 ?_
        refine x_iload C dX5_weather_109 4 rfl ?_
        refine x_iald C 10 0 rfl rfl dX5_weather_111 h ?_
        intro h
        refine x_aload_n C dX5_weather_112 rfl 0 rfl ?_
        refine fg_5_20 C 0 rfl rfl k_3_29 dX5_weather_113 ?_
        refine x_iload C dX5_weather_116 4 rfl ?_
        refine x_iald C 11 0 rfl rfl dX5_weather_118 h ?_
        intro h
        obtain ⟨v1, hv, h⟩ := e_bind h
        refine x_callV_i C (ci := 5) 0 [.ref (ad 5), .int (σ 9 a4.toNatClampNeg), .int (σ 10 a4.toNatClampNeg), .int (σ 11 a4.toNatClampNeg)] (tX5_hears hJ (Or.inr rfl) hv) k_3_155 k_3_157 k_p_27 k_1_6 k_3_158 hyX5_hears ⟨rfl, rfl⟩ (by decide) rfl rfl rfl rfl (Nat.le_of_ble_eq_true rfl) dX5_weather_119 ?_
        refine x_aload_n C dX5_weather_122 rfl 0 rfl ?_
        refine fg_5_21 C 0 rfl rfl k_3_30 dX5_weather_123 ?_
        refine x_iload C dX5_weather_126 4 rfl ?_
        refine x_zald C 12 1 rfl rfl dX5_weather_128 h ?_
        intro h
        refine x_icmp_ne (tgt := 136) C dX5_weather_129 (by decide) h ?_ ?_
        · intro h
          refine x_iconst (v := 0) C dX5_weather_136 ic_0 ?_
          refine x_sub (lv' := [(0, .ref (ad 0)), (1, .int a1), (2, .int a2), (4, .int a4)]) [0, 1, 2, 4] rfl ?_
          exact wX5_weather_137 hJ C hk31 hk66 h
        · intro h
          refine x_sub (lv' := [(0, .ref (ad 0)), (1, .int a1), (2, .int a2), (4, .int a4)]) [0, 1, 2, 4] rfl ?_
          exact wX5_weather_132 hJ C hk31 hk66 h
set_option maxRecDepth 100000 in
set_option maxHeartbeats 4000000 in
theorem wX5_weather_31 (hJ : eInj 16 ad) (C : Cx p s m args meth c (dC, dI) (yW cI cZ ad) (yA ad) ExY [(cI, .int), (cZ, .boolean)] cX5_weather 5 RX5 (some .int) yX5_weather) {a1 : Int32} {z : Int64} {r : Int32 × eSt} : ∀ (n : Nat) (a2 : Int32) (σ : eSt), lo_2 (bX5_weather_31 a1) n a2 σ = some r → WX p l e rmX5_weather s m args below meth c (MQ below (cQ (dC, dI) (yW cI cZ ad) (yA ad) (some (.int r.1)) r.2 z) args s 0 0 (yA ad)) (dC, dI) (yW cI cZ ad) (yA ad) 5 σ z [(0, .ref (ad 0)), (1, .int a1), (2, .int a2)] 31 [] := by
  refine lo_2_ind (P := fun a2 σ => WX p l e rmX5_weather s m args below meth c (MQ below (cQ (dC, dI) (yW cI cZ ad) (yA ad) (some (.int r.1)) r.2 z) args s 0 0 (yA ad)) (dC, dI) (yW cI cZ ad) (yA ad) 5 σ z [(0, .ref (ad 0)), (1, .int a1), (2, .int a2)] 31 []) ?_
  intro k31 hk31 a2 σ h
  unfold bX5_weather_31 at h
  refine x_iload_n C dX5_weather_31 rfl 2 rfl ?_
  refine x_bipush (v := 15) C dX5_weather_32 bi_15 ?_
  refine x_icmp_ge (tgt := 192) C dX5_weather_34 (by decide) h ?_ ?_
  · intro h
    refine x_iload_n C dX5_weather_192 rfl 1 rfl ?_
    refine x_if_ne (tgt := 203) C dX5_weather_193 (by decide) h ?_ ?_
    · intro h
      refine x_aload_n C dX5_weather_203 rfl 0 rfl ?_
      refine fg_5_31 C 0 rfl rfl k_3_40 dX5_weather_204 ?_
      exact xr_wi C h dX5_weather_207
    · intro h
      refine x_aload_n C dX5_weather_196 rfl 0 rfl ?_
      refine fg_5_30 C 0 rfl rfl k_3_39 dX5_weather_197 ?_
      refine x_goto (tgt := 207) C dX5_weather_200 (by decide) ?_
      exact xr_wi C h dX5_weather_207
  · intro h
    refine x_aload_n C dX5_weather_37 rfl 0 rfl ?_
    obtain ⟨σ1, hv, h⟩ := e_bind h
    refine x_callV_v C (ci := 5) 0 [] (tX5_begin hJ hv) k_3_232 k_3_234 k_p_31 k_1_6 k_3_235 hyX5_begin ⟨rfl, rfl⟩ (by decide) rfl rfl rfl rfl (Nat.le_of_ble_eq_true rfl) dX5_weather_38 ?_
    refine x_aload_n C dX5_weather_41 rfl 0 rfl ?_
    refine fg_5_12 C 0 rfl rfl k_3_21 dX5_weather_42 ?_
    refine x_bipush (v := 6) C dX5_weather_45 bi_6 ?_
    refine x_iload_n C dX5_weather_47 rfl 2 rfl ?_
    refine x_iconst (v := 3) C dX5_weather_48 ic_3 ?_
    refine x_idiv_c C dX5_weather_49 (by decide) ?_
    refine x_iast_c C 5 0 6 rfl rfl dX5_weather_50 (by decide) (by decide) h rfl ?_
    intro σ2 h
    refine x_aload_n C dX5_weather_51 rfl 0 rfl ?_
    refine fg_5_12 C 0 rfl rfl k_3_21 dX5_weather_52 ?_
    refine x_bipush (v := 7) C dX5_weather_55 bi_7 ?_
    refine x_iload_n C dX5_weather_57 rfl 2 rfl ?_
    refine x_iconst (v := 3) C dX5_weather_58 ic_3 ?_
    refine x_irem_c C dX5_weather_59 (by decide) ?_
    refine x_iast_c C 5 0 7 rfl rfl dX5_weather_60 (by decide) (by decide) h rfl ?_
    intro σ3 h
    refine x_iconst (v := 1) C dX5_weather_61 ic_1 ?_
    refine x_istore_n (lv' := [(3, .int 1), (0, .ref (ad 0)), (1, .int a1), (2, .int a2)]) C dX5_weather_62 rfl (by decide) rfl ?_
    refine x_iconst (v := 0) C dX5_weather_63 ic_0 ?_
    refine x_istore (lv' := [(4, .int 0), (3, .int 1), (0, .ref (ad 0)), (1, .int a1), (2, .int a2)]) C dX5_weather_64 (by decide) rfl ?_
    refine x_sub (lv' := [(0, .ref (ad 0)), (1, .int a1), (2, .int a2), (3, .int 1), (4, .int 0)]) [2, 3, 4, 1, 0] rfl ?_
    exact wX5_weather_66 hJ C hk31 _ _ _ h
set_option maxRecDepth 100000 in
set_option maxHeartbeats 4000000 in
theorem wX5_weather_0 (hJ : eInj 16 ad) (C : Cx p s m args meth c (dC, dI) (yW cI cZ ad) (yA ad) ExY [(cI, .int), (cZ, .boolean)] cX5_weather 5 RX5 (some .int) yX5_weather) {σ : eSt} {a1 : Int32} {z : Int64} {r : Int32 × eSt} (h : fX5_weather σ a1 = some r) : WX p l e rmX5_weather s m args below meth c (MQ below (cQ (dC, dI) (yW cI cZ ad) (yA ad) (some (.int r.1)) r.2 z) args s 0 0 (yA ad)) (dC, dI) (yW cI cZ ad) (yA ad) 5 σ z [(0, .ref (ad 0)), (1, .int a1)] 0 [] := by
  unfold fX5_weather at h
  refine x_aload_n C dX5_weather_0 rfl 0 rfl ?_
  refine x_iconst (v := 0) C dX5_weather_1 ic_0 ?_
  refine fp_5_0 C 0 rfl (Nat.le_of_ble_eq_true rfl) k_3_9 h rfl dX5_weather_2 ?_
  intro σ1 h
  refine x_iload_n C dX5_weather_5 rfl 1 rfl ?_
  refine x_i2l C dX5_weather_6 ?_
  refine x_lconst (v := 0) C dX5_weather_7 rfl ?_
  refine x_lconst (v := 1) C dX5_weather_8 rfl ?_
  obtain ⟨v2, hv, h⟩ := e_bind h
  refine x_callS_i C [.long (a1.toInt64), .long 0, .long 1] (tX5_in hJ hv) k_3_111 k_3_112 k_1_6 k_3_113 hyX5_in.2 ⟨rfl, rfl⟩ (by decide) rfl rfl (Nat.le_of_ble_eq_true rfl) dX5_weather_9 ?_
  refine x_if_ne (tgt := 18) C dX5_weather_12 (by decide) h ?_ ?_
  · intro h
    refine x_aload_n C dX5_weather_18 rfl 0 rfl ?_
    refine x_iconst (v := 0) C dX5_weather_19 ic_0 ?_
    refine fp_5_30 C 0 rfl (Nat.le_of_ble_eq_true rfl) k_3_39 h rfl dX5_weather_20 ?_
    intro σ3 h
    refine x_aload_n C dX5_weather_23 rfl 0 rfl ?_
    refine x_bipush (v := (-9)) C dX5_weather_24 bi_m9 ?_
    refine fp_5_31 C 0 rfl (Nat.le_of_ble_eq_true rfl) k_3_40 h rfl dX5_weather_26 ?_
    intro σ4 h
    refine x_iconst (v := 0) C dX5_weather_29 ic_0 ?_
    refine x_istore_n (lv' := [(2, .int 0), (0, .ref (ad 0)), (1, .int a1)]) C dX5_weather_30 rfl (by decide) rfl ?_
    refine x_sub (lv' := [(0, .ref (ad 0)), (1, .int a1), (2, .int 0)]) [1, 2, 0] rfl ?_
    exact wX5_weather_31 hJ C _ _ _ h
  · intro h
    refine x_bipush (v := (-2)) C dX5_weather_15 bi_m2 ?_
    exact xr_wi C h dX5_weather_17
set_option maxRecDepth 100000 in
set_option maxHeartbeats 4000000 in
theorem tX5_weather {l : Launch} {dC : Nat → ClassId} {dI : Nat → Nat → Nat} {cI cZ : ClassId} {ad : Nat → Nat} (hJ : eInj 16 ad) {σ : eSt} {a1 : Int32} {z : Int64} {r : Int32 × eSt} (h : fX5_weather σ a1 = some r) : Con l yX5_weather cX5_weather 5 (some .int) rmX5_weather (dC, dI) (yW cI cZ ad) (yA ad) [(cI, .int), (cZ, .boolean)] ExY [.ref (ad 0), .int a1] σ z (some (.int r.1)) r.2 z :=
  x_con (by decide) (yW_D hJ) (ExY_ok ad) (Nat.le_of_ble_eq_true rfl) (fun p e s m args below meth c C => wX5_weather_0 hJ C h)
set_option maxRecDepth 100000 in
set_option maxHeartbeats 4000000 in
theorem wX5_canBoth_0 (hJ : eInj 16 ad) (C : Cx p s m args meth c (dC, dI) (yW cI cZ ad) (yA ad) ExY [(cI, .int), (cZ, .boolean)] cX5_canBoth 2 RX5 (some .boolean) yX5_canBoth) {σ : eSt} {a0 : Int32} {a1 : Int32} {z : Int64} {r : Int32} (h : fX5_canBoth a0 a1 = some r) : WX p l e rmX5_canBoth s m args below meth c (MQ below (cQ (dC, dI) (yW cI cZ ad) (yA ad) (some (.int r)) σ z) args s 0 0 (yA ad)) (dC, dI) (yW cI cZ ad) (yA ad) 2 σ z [(0, .int a0), (1, .int a1)] 0 [] := by
  unfold fX5_canBoth at h
  refine x_iload_n C dX5_canBoth_0 rfl 0 rfl ?_
  refine x_iload_n C dX5_canBoth_1 rfl 1 rfl ?_
  refine x_icmp_ne (tgt := 11) C dX5_canBoth_2 (by decide) h ?_ ?_
  · intro h
    refine x_iconst (v := 1) C dX5_canBoth_11 ic_1 ?_
    refine x_goto (tgt := 16) C dX5_canBoth_12 (by decide) ?_
    exact xr_z C h dX5_canBoth_16
  · intro h
    refine x_iload_n C dX5_canBoth_5 rfl 0 rfl ?_
    refine x_bipush (v := 10) C dX5_canBoth_6 bi_10 ?_
    refine x_icmp_ne (tgt := 15) C dX5_canBoth_8 (by decide) h ?_ ?_
    · intro h
      refine x_iconst (v := 0) C dX5_canBoth_15 ic_0 ?_
      exact xr_z C h dX5_canBoth_16
    · intro h
      refine x_iconst (v := 1) C dX5_canBoth_11 ic_1 ?_
      refine x_goto (tgt := 16) C dX5_canBoth_12 (by decide) ?_
      exact xr_z C h dX5_canBoth_16
set_option maxRecDepth 100000 in
set_option maxHeartbeats 4000000 in
theorem tX5_canBoth {l : Launch} {dC : Nat → ClassId} {dI : Nat → Nat → Nat} {cI cZ : ClassId} {ad : Nat → Nat} (hJ : eInj 16 ad) {a0 : Int32} {a1 : Int32} {σ : eSt} {z : Int64} {r : Int32} (h : fX5_canBoth a0 a1 = some r) : Con l yX5_canBoth cX5_canBoth 2 (some .boolean) rmX5_canBoth (dC, dI) (yW cI cZ ad) (yA ad) [(cI, .int), (cZ, .boolean)] ExY [.int a0, .int a1] σ z (some (.int r)) σ z :=
  x_con (by decide) (yW_D hJ) (ExY_ok ad) (Nat.le_of_ble_eq_true rfl) (fun p e s m args below meth c C => wX5_canBoth_0 hJ C h)
set_option maxRecDepth 100000 in
set_option maxHeartbeats 4000000 in
theorem wX5_doRest_105 (hJ : eInj 16 ad) (C : Cx p s m args meth c (dC, dI) (yW cI cZ ad) (yA ad) ExY [(cI, .int), (cZ, .boolean)] cX5_doRest 5 RX5 (some .boolean) yX5_doRest) {σ : eSt} {a1 : Int32} {a2 : Int32} {a4 : Int32} {s0 : Int32} {z : Int64} {r : Int32} {k9 : Int32 → Int32 → Option (Int32)} (hk9 : ∀ (a3 : Int32) (a4 : Int32), k9 a3 a4 = some r → WX p l e rmX5_doRest s m args below meth c (MQ below (cQ (dC, dI) (yW cI cZ ad) (yA ad) (some (.int r)) σ z) args s 0 0 (yA ad)) (dC, dI) (yW cI cZ ad) (yA ad) 5 σ z [(0, .ref (ad 0)), (1, .int a1), (2, .int a2), (3, .int a3), (4, .int a4)] 9 []) (h : fX5_doRest_105 k9 σ a1 a2 a4 s0 = some r) : WX p l e rmX5_doRest s m args below meth c (MQ below (cQ (dC, dI) (yW cI cZ ad) (yA ad) (some (.int r)) σ z) args s 0 0 (yA ad)) (dC, dI) (yW cI cZ ad) (yA ad) 5 σ z [(0, .ref (ad 0)), (1, .int a1), (2, .int a2), (4, .int a4)] 105 [.int s0] := by
  unfold fX5_doRest_105 at h
  refine x_istore_n (lv' := [(3, .int s0), (0, .ref (ad 0)), (1, .int a1), (2, .int a2), (4, .int a4)]) C dX5_doRest_105 rfl (by decide) rfl ?_
  refine x_iinc_b (j := 4) (w := 1) C (fun v1 => [(4, .int v1), (3, .int s0), (0, .ref (ad 0)), (1, .int a1), (2, .int a2)]) dX5_doRest_106 ic_1 rfl (by decide) h (fun _ => rfl) ?_
  intro v1 h
  refine x_goto (tgt := 9) C dX5_doRest_109 (by decide) ?_
  refine x_sub (lv' := [(0, .ref (ad 0)), (1, .int a1), (2, .int a2), (3, .int s0), (4, .int v1)]) [2, 3, 4, 1, 0] rfl ?_
  exact hk9 _ _ h
set_option maxRecDepth 100000 in
set_option maxHeartbeats 4000000 in
theorem wX5_doRest_104 (hJ : eInj 16 ad) (C : Cx p s m args meth c (dC, dI) (yW cI cZ ad) (yA ad) ExY [(cI, .int), (cZ, .boolean)] cX5_doRest 5 RX5 (some .boolean) yX5_doRest) {σ : eSt} {a1 : Int32} {a2 : Int32} {a4 : Int32} {z : Int64} {r : Int32} {k9 : Int32 → Int32 → Option (Int32)} (hk9 : ∀ (a3 : Int32) (a4 : Int32), k9 a3 a4 = some r → WX p l e rmX5_doRest s m args below meth c (MQ below (cQ (dC, dI) (yW cI cZ ad) (yA ad) (some (.int r)) σ z) args s 0 0 (yA ad)) (dC, dI) (yW cI cZ ad) (yA ad) 5 σ z [(0, .ref (ad 0)), (1, .int a1), (2, .int a2), (3, .int a3), (4, .int a4)] 9 []) (h : fX5_doRest_104 k9 σ a1 a2 a4 = some r) : WX p l e rmX5_doRest s m args below meth c (MQ below (cQ (dC, dI) (yW cI cZ ad) (yA ad) (some (.int r)) σ z) args s 0 0 (yA ad)) (dC, dI) (yW cI cZ ad) (yA ad) 5 σ z [(0, .ref (ad 0)), (1, .int a1), (2, .int a2), (4, .int a4)] 104 [] := by
  unfold fX5_doRest_104 at h
  refine x_iconst (v := 0) C dX5_doRest_104 ic_0 ?_
  exact wX5_doRest_105 hJ C hk9 h
set_option maxRecDepth 100000 in
set_option maxHeartbeats 4000000 in
theorem wX5_doRest_100 (hJ : eInj 16 ad) (C : Cx p s m args meth c (dC, dI) (yW cI cZ ad) (yA ad) ExY [(cI, .int), (cZ, .boolean)] cX5_doRest 5 RX5 (some .boolean) yX5_doRest) {σ : eSt} {a1 : Int32} {a2 : Int32} {a4 : Int32} {z : Int64} {r : Int32} {k9 : Int32 → Int32 → Option (Int32)} (hk9 : ∀ (a3 : Int32) (a4 : Int32), k9 a3 a4 = some r → WX p l e rmX5_doRest s m args below meth c (MQ below (cQ (dC, dI) (yW cI cZ ad) (yA ad) (some (.int r)) σ z) args s 0 0 (yA ad)) (dC, dI) (yW cI cZ ad) (yA ad) 5 σ z [(0, .ref (ad 0)), (1, .int a1), (2, .int a2), (3, .int a3), (4, .int a4)] 9 []) (h : fX5_doRest_100 k9 σ a1 a2 a4 = some r) : WX p l e rmX5_doRest s m args below meth c (MQ below (cQ (dC, dI) (yW cI cZ ad) (yA ad) (some (.int r)) σ z) args s 0 0 (yA ad)) (dC, dI) (yW cI cZ ad) (yA ad) 5 σ z [(0, .ref (ad 0)), (1, .int a1), (2, .int a2), (4, .int a4)] 100 [] := by
  unfold fX5_doRest_100 at h
  refine x_iconst (v := 1) C dX5_doRest_100 ic_1 ?_
  refine x_goto (tgt := 105) C dX5_doRest_101 (by decide) ?_
  exact wX5_doRest_105 hJ C hk9 h
set_option maxRecDepth 100000 in
set_option maxHeartbeats 4000000 in
theorem wX5_doRest_60 (hJ : eInj 16 ad) (C : Cx p s m args meth c (dC, dI) (yW cI cZ ad) (yA ad) ExY [(cI, .int), (cZ, .boolean)] cX5_doRest 5 RX5 (some .boolean) yX5_doRest) {σ : eSt} {a1 : Int32} {a2 : Int32} {a4 : Int32} {s0 : Int32} {z : Int64} {r : Int32} {k9 : Int32 → Int32 → Option (Int32)} (hk9 : ∀ (a3 : Int32) (a4 : Int32), k9 a3 a4 = some r → WX p l e rmX5_doRest s m args below meth c (MQ below (cQ (dC, dI) (yW cI cZ ad) (yA ad) (some (.int r)) σ z) args s 0 0 (yA ad)) (dC, dI) (yW cI cZ ad) (yA ad) 5 σ z [(0, .ref (ad 0)), (1, .int a1), (2, .int a2), (3, .int a3), (4, .int a4)] 9 []) (h : fX5_doRest_60 k9 σ a1 a2 a4 s0 = some r) : WX p l e rmX5_doRest s m args below meth c (MQ below (cQ (dC, dI) (yW cI cZ ad) (yA ad) (some (.int r)) σ z) args s 0 0 (yA ad)) (dC, dI) (yW cI cZ ad) (yA ad) 5 σ z [(0, .ref (ad 0)), (1, .int a1), (2, .int a2), (4, .int a4)] 60 [.int s0] := by
  unfold fX5_doRest_60 at h
  refine x_istore_n (lv' := [(3, .int s0), (0, .ref (ad 0)), (1, .int a1), (2, .int a2), (4, .int a4)]) C dX5_doRest_60 rfl (by decide) rfl ?_
  refine x_iload_n C dX5_doRest_61 rfl 0 rfl ?_
  refine x_if_eq (tgt := 104) C dX5_doRest_62 (by decide) h ?_ ?_
  · intro h
    refine x_sub (lv' := [(0, .ref (ad 0)), (1, .int a1), (2, .int a2), (4, .int a4)]) [1, 2, 3, 4] rfl ?_
    exact wX5_doRest_104 hJ C hk9 h
  · intro h
    refine x_iload_n C dX5_doRest_65 rfl 2 rfl ?_
    refine x_iload C dX5_doRest_66 4 rfl ?_
    obtain ⟨v1, hv, h⟩ := e_bind h
    refine x_callS_i C [.int a1, .int a4] (tX5_canBoth hJ hv) k_4_53 k_4_54 k_1_6 k_4_55 hyX5_canBoth.2 ⟨rfl, rfl⟩ (by decide) rfl rfl (Nat.le_of_ble_eq_true rfl) dX5_doRest_68 ?_
    refine x_if_eq (tgt := 100) C dX5_doRest_71 (by decide) h ?_ ?_
    · intro h
      refine x_sub (lv' := [(0, .ref (ad 0)), (1, .int a1), (2, .int a2), (4, .int a4)]) [1, 2, 3, 4] rfl ?_
      exact wX5_doRest_100 hJ C hk9 h
    · intro h
      refine x_aload_n C dX5_doRest_74 rfl 1 rfl ?_
      refine fg_5_25 C 0 rfl rfl k_3_34 dX5_doRest_75 ?_
      refine x_bipush (v := 11) C dX5_doRest_78 bi_11 ?_
      refine x_iload_n C dX5_doRest_80 rfl 2 rfl ?_
      refine x_imul C dX5_doRest_81 ?_
      refine x_iload C dX5_doRest_82 4 rfl ?_
      refine x_iadd C dX5_doRest_84 ?_
      refine x_iald C 15 0 rfl rfl dX5_doRest_85 h ?_
      intro h
      refine x_aload_n C dX5_doRest_86 rfl 1 rfl ?_
      refine fg_5_25 C 0 rfl rfl k_3_34 dX5_doRest_87 ?_
      refine x_bipush (v := 11) C dX5_doRest_90 bi_11 ?_
      refine x_iload_n C dX5_doRest_92 rfl 2 rfl ?_
      refine x_imul C dX5_doRest_93 ?_
      refine x_iload_n C dX5_doRest_94 rfl 3 rfl ?_
      refine x_iadd C dX5_doRest_95 ?_
      refine x_iald C 15 0 rfl rfl dX5_doRest_96 h ?_
      intro h
      refine x_icmp_lt (tgt := 104) C dX5_doRest_97 (by decide) h ?_ ?_
      · intro h
        refine x_sub (lv' := [(0, .ref (ad 0)), (1, .int a1), (2, .int a2), (4, .int a4)]) [1, 2, 3, 4] rfl ?_
        exact wX5_doRest_104 hJ C hk9 h
      · intro h
        refine x_sub (lv' := [(0, .ref (ad 0)), (1, .int a1), (2, .int a2), (4, .int a4)]) [1, 2, 3, 4] rfl ?_
        exact wX5_doRest_100 hJ C hk9 h
set_option maxRecDepth 100000 in
set_option maxHeartbeats 4000000 in
theorem wX5_doRest_55 (hJ : eInj 16 ad) (C : Cx p s m args meth c (dC, dI) (yW cI cZ ad) (yA ad) ExY [(cI, .int), (cZ, .boolean)] cX5_doRest 5 RX5 (some .boolean) yX5_doRest) {σ : eSt} {a1 : Int32} {a2 : Int32} {a4 : Int32} {z : Int64} {r : Int32} {k9 : Int32 → Int32 → Option (Int32)} (hk9 : ∀ (a3 : Int32) (a4 : Int32), k9 a3 a4 = some r → WX p l e rmX5_doRest s m args below meth c (MQ below (cQ (dC, dI) (yW cI cZ ad) (yA ad) (some (.int r)) σ z) args s 0 0 (yA ad)) (dC, dI) (yW cI cZ ad) (yA ad) 5 σ z [(0, .ref (ad 0)), (1, .int a1), (2, .int a2), (3, .int a3), (4, .int a4)] 9 []) (h : fX5_doRest_55 k9 σ a1 a2 a4 = some r) : WX p l e rmX5_doRest s m args below meth c (MQ below (cQ (dC, dI) (yW cI cZ ad) (yA ad) (some (.int r)) σ z) args s 0 0 (yA ad)) (dC, dI) (yW cI cZ ad) (yA ad) 5 σ z [(0, .ref (ad 0)), (1, .int a1), (2, .int a2), (4, .int a4)] 55 [] := by
  unfold fX5_doRest_55 at h
  refine x_iconst (v := 1) C dX5_doRest_55 ic_1 ?_
  refine x_goto (tgt := 60) C dX5_doRest_56 (by decide) ?_
  exact wX5_doRest_60 hJ C hk9 h
set_option maxRecDepth 100000 in
set_option maxHeartbeats 4000000 in
theorem wX5_doRest_9 (hJ : eInj 16 ad) (C : Cx p s m args meth c (dC, dI) (yW cI cZ ad) (yA ad) ExY [(cI, .int), (cZ, .boolean)] cX5_doRest 5 RX5 (some .boolean) yX5_doRest) {σ : eSt} {a1 : Int32} {a2 : Int32} {z : Int64} {r : Int32} : ∀ (n : Nat) (a3 : Int32) (a4 : Int32), lo_2 (bX5_doRest_9 σ a1 a2) n a3 a4 = some r → WX p l e rmX5_doRest s m args below meth c (MQ below (cQ (dC, dI) (yW cI cZ ad) (yA ad) (some (.int r)) σ z) args s 0 0 (yA ad)) (dC, dI) (yW cI cZ ad) (yA ad) 5 σ z [(0, .ref (ad 0)), (1, .int a1), (2, .int a2), (3, .int a3), (4, .int a4)] 9 [] := by
  refine lo_2_ind (P := fun a3 a4 => WX p l e rmX5_doRest s m args below meth c (MQ below (cQ (dC, dI) (yW cI cZ ad) (yA ad) (some (.int r)) σ z) args s 0 0 (yA ad)) (dC, dI) (yW cI cZ ad) (yA ad) 5 σ z [(0, .ref (ad 0)), (1, .int a1), (2, .int a2), (3, .int a3), (4, .int a4)] 9 []) ?_
  intro k9 hk9 a3 a4 h
  unfold bX5_doRest_9 at h
  refine x_iload C dX5_doRest_9 4 rfl ?_
  refine x_bipush (v := 10) C dX5_doRest_11 bi_10 ?_
  refine x_icmp_gt (tgt := 112) C dX5_doRest_13 (by decide) h ?_ ?_
  · intro h
    refine x_iload_n C dX5_doRest_112 rfl 3 rfl ?_
    exact xr_z C h dX5_doRest_113
  · intro h
    refine x_iload_n C dX5_doRest_16 rfl 3 rfl ?_
    refine x_if_eq (tgt := 112) C dX5_doRest_17 (by decide) h ?_ ?_
    · intro h
      refine x_iload_n C dX5_doRest_112 rfl 3 rfl ?_
      exact xr_z C h dX5_doRest_113
    · intro h
      refine x_iload C dX5_doRest_20 4 rfl ?_
      refine x_iload_n C dX5_doRest_22 rfl 2 rfl ?_
      obtain ⟨v1, hv, h⟩ := e_bind h
      refine x_callS_i C [.int a4, .int a2] (tX5_canBoth hJ hv) k_4_53 k_4_54 k_1_6 k_4_55 hyX5_canBoth.2 ⟨rfl, rfl⟩ (by decide) rfl rfl (Nat.le_of_ble_eq_true rfl) dX5_doRest_23 ?_
      refine x_if_eq (tgt := 55) C dX5_doRest_26 (by decide) h ?_ ?_
      · intro h
        refine x_sub (lv' := [(0, .ref (ad 0)), (1, .int a1), (2, .int a2), (4, .int a4)]) [0, 1, 2, 4] rfl ?_
        exact wX5_doRest_55 hJ C hk9 h
      · intro h
        refine x_aload_n C dX5_doRest_29 rfl 0 rfl ?_
        refine fg_5_25 C 0 rfl rfl k_3_34 dX5_doRest_30 ?_
        refine x_bipush (v := 11) C dX5_doRest_33 bi_11 ?_
        refine x_iload C dX5_doRest_35 4 rfl ?_
        refine x_imul C dX5_doRest_37 ?_
        refine x_iload_n C dX5_doRest_38 rfl 2 rfl ?_
        refine x_iadd C dX5_doRest_39 ?_
        refine x_iald C 15 0 rfl rfl dX5_doRest_40 h ?_
        intro h
        refine x_aload_n C dX5_doRest_41 rfl 0 rfl ?_
        refine fg_5_25 C 0 rfl rfl k_3_34 dX5_doRest_42 ?_
        refine x_bipush (v := 11) C dX5_doRest_45 bi_11 ?_
        refine x_iload_n C dX5_doRest_47 rfl 1 rfl ?_
        refine x_imul C dX5_doRest_48 ?_
        refine x_iload_n C dX5_doRest_49 rfl 2 rfl ?_
        refine x_iadd C dX5_doRest_50 ?_
        refine x_iald C 15 0 rfl rfl dX5_doRest_51 h ?_
        intro h
        refine x_icmp_gt (tgt := 59) C dX5_doRest_52 (by decide) h ?_ ?_
        · intro h
          refine x_iconst (v := 0) C dX5_doRest_59 ic_0 ?_
          refine x_sub (lv' := [(0, .ref (ad 0)), (1, .int a1), (2, .int a2), (4, .int a4)]) [0, 1, 2, 4] rfl ?_
          exact wX5_doRest_60 hJ C hk9 h
        · intro h
          refine x_sub (lv' := [(0, .ref (ad 0)), (1, .int a1), (2, .int a2), (4, .int a4)]) [0, 1, 2, 4] rfl ?_
          exact wX5_doRest_55 hJ C hk9 h
set_option maxRecDepth 100000 in
set_option maxHeartbeats 4000000 in
theorem wX5_doRest_0 (hJ : eInj 16 ad) (C : Cx p s m args meth c (dC, dI) (yW cI cZ ad) (yA ad) ExY [(cI, .int), (cZ, .boolean)] cX5_doRest 5 RX5 (some .boolean) yX5_doRest) {σ : eSt} {a1 : Int32} {a2 : Int32} {z : Int64} {r : Int32} (h : fX5_doRest σ a1 a2 = some r) : WX p l e rmX5_doRest s m args below meth c (MQ below (cQ (dC, dI) (yW cI cZ ad) (yA ad) (some (.int r)) σ z) args s 0 0 (yA ad)) (dC, dI) (yW cI cZ ad) (yA ad) 5 σ z [(0, .ref (ad 0)), (1, .int a1), (2, .int a2)] 0 [] := by
  unfold fX5_doRest at h
  refine x_iload_n C dX5_doRest_0 rfl 1 rfl ?_
  refine x_iload_n C dX5_doRest_1 rfl 2 rfl ?_
  obtain ⟨v1, hv, h⟩ := e_bind h
  refine x_callS_i C [.int a1, .int a2] (tX5_canBoth hJ hv) k_4_53 k_4_54 k_1_6 k_4_55 hyX5_canBoth.2 ⟨rfl, rfl⟩ (by decide) rfl rfl (Nat.le_of_ble_eq_true rfl) dX5_doRest_2 ?_
  refine x_istore_n (lv' := [(3, .int v1), (0, .ref (ad 0)), (1, .int a1), (2, .int a2)]) C dX5_doRest_5 rfl (by decide) rfl ?_
  refine x_iconst (v := 0) C dX5_doRest_6 ic_0 ?_
  refine x_istore (lv' := [(4, .int 0), (3, .int v1), (0, .ref (ad 0)), (1, .int a1), (2, .int a2)]) C dX5_doRest_7 (by decide) rfl ?_
  refine x_sub (lv' := [(0, .ref (ad 0)), (1, .int a1), (2, .int a2), (3, .int v1), (4, .int 0)]) [2, 3, 4, 1, 0] rfl ?_
  exact wX5_doRest_9 hJ C _ _ _ h
set_option maxRecDepth 100000 in
set_option maxHeartbeats 4000000 in
theorem tX5_doRest {l : Launch} {dC : Nat → ClassId} {dI : Nat → Nat → Nat} {cI cZ : ClassId} {ad : Nat → Nat} (hJ : eInj 16 ad) {σ : eSt} {a1 : Int32} {a2 : Int32} {z : Int64} {r : Int32} (h : fX5_doRest σ a1 a2 = some r) : Con l yX5_doRest cX5_doRest 5 (some .boolean) rmX5_doRest (dC, dI) (yW cI cZ ad) (yA ad) [(cI, .int), (cZ, .boolean)] ExY [.ref (ad 0), .int a1, .int a2] σ z (some (.int r)) σ z :=
  x_con (by decide) (yW_D hJ) (ExY_ok ad) (Nat.le_of_ble_eq_true rfl) (fun p e s m args below meth c C => wX5_doRest_0 hJ C h)
set_option maxRecDepth 100000 in
set_option maxHeartbeats 4000000 in
theorem wX5_rivals_139 (hJ : eInj 16 ad) (C : Cx p s m args meth c (dC, dI) (yW cI cZ ad) (yA ad) ExY [(cI, .int), (cZ, .boolean)] cX5_rivals 6 RX5 (some .int) yX5_rivals) {σ : eSt} {a2 : Int32} {a3 : Int32} {a4 : Int32} {a5 : Int32} {z : Int64} {r : Int32 × eSt} {k99 : Int32 → Int32 → Int32 → Option (Int32 × eSt)} (hk99 : ∀ (a3 : Int32) (a4 : Int32) (a5 : Int32), k99 a3 a4 a5 = some r → WX p l e rmX5_rivals s m args below meth c (MQ below (cQ (dC, dI) (yW cI cZ ad) (yA ad) (some (.int r.1)) r.2 z) args s 0 0 (yA ad)) (dC, dI) (yW cI cZ ad) (yA ad) 6 σ z [(0, .ref (ad 0)), (2, .int a2), (3, .int a3), (4, .int a4), (5, .int a5)] 99 []) (h : fX5_rivals_139 k99 σ a2 a3 a4 a5 = some r) : WX p l e rmX5_rivals s m args below meth c (MQ below (cQ (dC, dI) (yW cI cZ ad) (yA ad) (some (.int r.1)) r.2 z) args s 0 0 (yA ad)) (dC, dI) (yW cI cZ ad) (yA ad) 6 σ z [(0, .ref (ad 0)), (2, .int a2), (3, .int a3), (4, .int a4), (5, .int a5)] 139 [] := by
  unfold fX5_rivals_139 at h
  refine x_iinc_b (j := 4) (w := 1) C (fun v1 => [(5, .int v1), (0, .ref (ad 0)), (2, .int a2), (3, .int a3), (4, .int a4)]) dX5_rivals_139 ic_1 rfl (by decide) h (fun _ => rfl) ?_
  intro v1 h
  refine x_goto (tgt := 99) C dX5_rivals_142 (by decide) ?_
  refine x_sub (lv' := [(0, .ref (ad 0)), (2, .int a2), (3, .int a3), (4, .int a4), (5, .int v1)]) [1, 2, 3, 4, 0] rfl ?_
  exact hk99 _ _ _ h
set_option maxRecDepth 100000 in
set_option maxHeartbeats 4000000 in
theorem wX5_rivals_134 (hJ : eInj 16 ad) (C : Cx p s m args meth c (dC, dI) (yW cI cZ ad) (yA ad) ExY [(cI, .int), (cZ, .boolean)] cX5_rivals 6 RX5 (some .int) yX5_rivals) {σ : eSt} {a2 : Int32} {a3 : Int32} {a5 : Int32} {s0 : Int32} {z : Int64} {r : Int32 × eSt} {k99 : Int32 → Int32 → Int32 → Option (Int32 × eSt)} (hk99 : ∀ (a3 : Int32) (a4 : Int32) (a5 : Int32), k99 a3 a4 a5 = some r → WX p l e rmX5_rivals s m args below meth c (MQ below (cQ (dC, dI) (yW cI cZ ad) (yA ad) (some (.int r.1)) r.2 z) args s 0 0 (yA ad)) (dC, dI) (yW cI cZ ad) (yA ad) 6 σ z [(0, .ref (ad 0)), (2, .int a2), (3, .int a3), (4, .int a4), (5, .int a5)] 99 []) (h : fX5_rivals_134 k99 σ a2 a3 a5 s0 = some r) : WX p l e rmX5_rivals s m args below meth c (MQ below (cQ (dC, dI) (yW cI cZ ad) (yA ad) (some (.int r.1)) r.2 z) args s 0 0 (yA ad)) (dC, dI) (yW cI cZ ad) (yA ad) 6 σ z [(0, .ref (ad 0)), (2, .int a2), (3, .int a3), (5, .int a5)] 134 [.int s0] := by
  unfold fX5_rivals_134 at h
  refine x_istore (lv' := [(4, .int s0), (0, .ref (ad 0)), (2, .int a2), (3, .int a3), (5, .int a5)]) C dX5_rivals_134 (by decide) rfl ?_
  refine x_iinc_b (j := 3) (w := 1) C (fun v1 => [(3, .int v1), (4, .int s0), (0, .ref (ad 0)), (2, .int a2), (5, .int a5)]) dX5_rivals_136 ic_1 rfl (by decide) h (fun _ => rfl) ?_
  intro v1 h
  refine x_sub (lv' := [(0, .ref (ad 0)), (2, .int a2), (3, .int v1), (4, .int s0), (5, .int a5)]) [2, 3, 0, 1, 4] rfl ?_
  exact wX5_rivals_139 hJ C hk99 h
set_option maxRecDepth 100000 in
set_option maxHeartbeats 4000000 in
theorem wX5_rivals_99 (hJ : eInj 16 ad) (C : Cx p s m args meth c (dC, dI) (yW cI cZ ad) (yA ad) ExY [(cI, .int), (cZ, .boolean)] cX5_rivals 6 RX5 (some .int) yX5_rivals) {σ : eSt} {a2 : Int32} {z : Int64} {r : Int32 × eSt} : ∀ (n : Nat) (a3 : Int32) (a4 : Int32) (a5 : Int32), lo_3 (bX5_rivals_99 σ a2) n a3 a4 a5 = some r → WX p l e rmX5_rivals s m args below meth c (MQ below (cQ (dC, dI) (yW cI cZ ad) (yA ad) (some (.int r.1)) r.2 z) args s 0 0 (yA ad)) (dC, dI) (yW cI cZ ad) (yA ad) 6 σ z [(0, .ref (ad 0)), (2, .int a2), (3, .int a3), (4, .int a4), (5, .int a5)] 99 [] := by
  refine lo_3_ind (P := fun a3 a4 a5 => WX p l e rmX5_rivals s m args below meth c (MQ below (cQ (dC, dI) (yW cI cZ ad) (yA ad) (some (.int r.1)) r.2 z) args s 0 0 (yA ad)) (dC, dI) (yW cI cZ ad) (yA ad) 6 σ z [(0, .ref (ad 0)), (2, .int a2), (3, .int a3), (4, .int a4), (5, .int a5)] 99 []) ?_
  intro k99 hk99 a3 a4 a5 h
  unfold bX5_rivals_99 at h
  refine x_iload C dX5_rivals_99 4 rfl ?_
  refine x_bipush (v := 121) C dX5_rivals_101 bi_121 ?_
  refine x_icmp_ge (tgt := 145) C dX5_rivals_103 (by decide) h ?_ ?_
  · intro h
    refine x_iload_n C dX5_rivals_145 rfl 1 rfl ?_
    refine x_if_ne (tgt := 153) C dX5_rivals_146 (by decide) h ?_ ?_
    · intro h
      refine x_iload C dX5_rivals_153 3 rfl ?_
      exact xr_wi C h dX5_rivals_155
    · intro h
      refine x_iload_n C dX5_rivals_149 rfl 2 rfl ?_
      refine x_goto (tgt := 155) C dX5_rivals_150 (by decide) ?_
      exact xr_wi C h dX5_rivals_155
  · intro h
    refine x_aload_n C dX5_rivals_106 rfl 0 rfl ?_
    refine x_iload C dX5_rivals_107 4 rfl ?_
    refine x_bipush (v := 11) C dX5_rivals_109 bi_11 ?_
    refine x_idiv_c C dX5_rivals_111 (by decide) ?_
    refine x_iload C dX5_rivals_112 4 rfl ?_
    refine x_bipush (v := 11) C dX5_rivals_114 bi_11 ?_
    refine x_irem_c C dX5_rivals_116 (by decide) ?_
    obtain ⟨v1, hv, h⟩ := e_bind h
    refine x_callV_i C (ci := 5) 0 [.int (a5 / 11), .int (e_rem a5 11)] (tX5_doRest hJ hv) k_4_49 k_4_51 k_p_34 k_1_6 k_4_52 hyX5_doRest ⟨rfl, rfl⟩ (by decide) rfl rfl rfl rfl (Nat.le_of_ble_eq_true rfl) dX5_rivals_117 ?_
    refine x_if_eq (tgt := 139) C dX5_rivals_120 (by decide) h ?_ ?_
    · intro h
      exact wX5_rivals_139 hJ C hk99 h
    · intro h
      refine x_iload_n C dX5_rivals_123 rfl 2 rfl ?_
      refine x_if_ne (tgt := 132) C dX5_rivals_124 (by decide) h ?_ ?_
      · intro h
        refine x_iload C dX5_rivals_132 3 rfl ?_
        refine x_sub (lv' := [(0, .ref (ad 0)), (2, .int a2), (3, .int a3), (5, .int a5)]) [0, 1, 2, 4] rfl ?_
        exact wX5_rivals_134 hJ C hk99 h
      · intro h
        refine x_iload C dX5_rivals_127 4 rfl ?_
        refine x_goto (tgt := 134) C dX5_rivals_129 (by decide) ?_
        refine x_sub (lv' := [(0, .ref (ad 0)), (2, .int a2), (3, .int a3), (5, .int a5)]) [0, 1, 2, 4] rfl ?_
        exact wX5_rivals_134 hJ C hk99 h
set_option maxRecDepth 100000 in
set_option maxHeartbeats 4000000 in
theorem wX5_rivals_79 (hJ : eInj 16 ad) (C : Cx p s m args meth c (dC, dI) (yW cI cZ ad) (yA ad) ExY [(cI, .int), (cZ, .boolean)] cX5_rivals 6 RX5 (some .int) yX5_rivals) {σ : eSt} {a1 : Int32} {a2 : Int32} {a3 : Int32} {s0 : Int32} {s1 : Int32} {s3 : Int32} {z : Int64} {r : Int32 × eSt} {k27 : Int32 → eSt → Option (Int32 × eSt)} (hk27 : ∀ (a3 : Int32) (σ : eSt), k27 a3 σ = some r → WX p l e rmX5_rivals s m args below meth c (MQ below (cQ (dC, dI) (yW cI cZ ad) (yA ad) (some (.int r.1)) r.2 z) args s 0 0 (yA ad)) (dC, dI) (yW cI cZ ad) (yA ad) 6 σ z [(0, .ref (ad 0)), (1, .int a1), (2, .int a2), (3, .int a3)] 27 []) (h : fX5_rivals_79 k27 σ a1 a2 a3 s0 s1 s3 = some r) : WX p l e rmX5_rivals s m args below meth c (MQ below (cQ (dC, dI) (yW cI cZ ad) (yA ad) (some (.int r.1)) r.2 z) args s 0 0 (yA ad)) (dC, dI) (yW cI cZ ad) (yA ad) 6 σ z [(0, .ref (ad 0)), (1, .int a1), (2, .int a2), (3, .int a3)] 79 [.int s0, .int s1, .ref (ad 0), .int s3, .ref (ad 15)] := by
  unfold fX5_rivals_79 at h
  refine x_iload_n C dX5_rivals_79 rfl 1 rfl ?_
  obtain ⟨w1, hv, h⟩ := e_bind h
  refine x_callV_i C (ci := 5) 0 [.int s1, .int s0, .int a1] (tX5_sureWith hJ hv) k_4_21 k_4_23 k_p_33 k_1_6 k_4_24 hyX5_sureWith ⟨rfl, rfl⟩ (by decide) rfl rfl rfl rfl (Nat.le_of_ble_eq_true rfl) dX5_rivals_80 ?_
  refine x_iast C 15 0 rfl rfl dX5_rivals_83 h rfl ?_
  intro σ2 h
  refine x_iinc_b (j := 3) (w := 1) C (fun v3 => [(3, .int v3), (0, .ref (ad 0)), (1, .int a1), (2, .int a2)]) dX5_rivals_84 ic_1 rfl (by decide) h (fun _ => rfl) ?_
  intro v3 h
  refine x_goto (tgt := 27) C dX5_rivals_87 (by decide) ?_
  refine x_sub (lv' := [(0, .ref (ad 0)), (1, .int a1), (2, .int a2), (3, .int v3)]) [1, 2, 3, 0] rfl ?_
  exact hk27 _ _ h
set_option maxRecDepth 100000 in
set_option maxHeartbeats 4000000 in
theorem wX5_rivals_65 (hJ : eInj 16 ad) (C : Cx p s m args meth c (dC, dI) (yW cI cZ ad) (yA ad) ExY [(cI, .int), (cZ, .boolean)] cX5_rivals 6 RX5 (some .int) yX5_rivals) {σ : eSt} {a1 : Int32} {a2 : Int32} {a3 : Int32} {a5 : Int32} {s0 : Int32} {s2 : Int32} {z : Int64} {r : Int32 × eSt} {k27 : Int32 → eSt → Option (Int32 × eSt)} (hk27 : ∀ (a3 : Int32) (σ : eSt), k27 a3 σ = some r → WX p l e rmX5_rivals s m args below meth c (MQ below (cQ (dC, dI) (yW cI cZ ad) (yA ad) (some (.int r.1)) r.2 z) args s 0 0 (yA ad)) (dC, dI) (yW cI cZ ad) (yA ad) 6 σ z [(0, .ref (ad 0)), (1, .int a1), (2, .int a2), (3, .int a3)] 27 []) (h : fX5_rivals_65 k27 σ a1 a2 a3 a5 s0 s2 = some r) : WX p l e rmX5_rivals s m args below meth c (MQ below (cQ (dC, dI) (yW cI cZ ad) (yA ad) (some (.int r.1)) r.2 z) args s 0 0 (yA ad)) (dC, dI) (yW cI cZ ad) (yA ad) 6 σ z [(0, .ref (ad 0)), (1, .int a1), (2, .int a2), (3, .int a3), (5, .int a5)] 65 [.int s0, .ref (ad 0), .int s2, .ref (ad 15)] := by
  unfold fX5_rivals_65 at h
  refine x_iload C dX5_rivals_65 4 rfl ?_
  refine x_bipush (v := 10) C dX5_rivals_67 bi_10 ?_
  refine x_icmp_ne (tgt := 77) C dX5_rivals_69 (by decide) h ?_ ?_
  · intro h
    refine x_iload C dX5_rivals_77 4 rfl ?_
    refine x_sub (lv' := [(0, .ref (ad 0)), (1, .int a1), (2, .int a2), (3, .int a3)]) [0, 1, 2, 3] rfl ?_
    exact wX5_rivals_79 hJ C hk27 h
  · intro h
    refine x_bipush (v := (-9)) C dX5_rivals_72 bi_m9 ?_
    refine x_goto (tgt := 79) C dX5_rivals_74 (by decide) ?_
    refine x_sub (lv' := [(0, .ref (ad 0)), (1, .int a1), (2, .int a2), (3, .int a3)]) [0, 1, 2, 3] rfl ?_
    exact wX5_rivals_79 hJ C hk27 h
set_option maxRecDepth 100000 in
set_option maxHeartbeats 4000000 in
theorem wX5_rivals_27 (hJ : eInj 16 ad) (C : Cx p s m args meth c (dC, dI) (yW cI cZ ad) (yA ad) ExY [(cI, .int), (cZ, .boolean)] cX5_rivals 6 RX5 (some .int) yX5_rivals) {a1 : Int32} {a2 : Int32} {z : Int64} {r : Int32 × eSt} : ∀ (n : Nat) (a3 : Int32) (σ : eSt), lo_2 (bX5_rivals_27 a1 a2) n a3 σ = some r → WX p l e rmX5_rivals s m args below meth c (MQ below (cQ (dC, dI) (yW cI cZ ad) (yA ad) (some (.int r.1)) r.2 z) args s 0 0 (yA ad)) (dC, dI) (yW cI cZ ad) (yA ad) 6 σ z [(0, .ref (ad 0)), (1, .int a1), (2, .int a2), (3, .int a3)] 27 [] := by
  refine lo_2_ind (P := fun a3 σ => WX p l e rmX5_rivals s m args below meth c (MQ below (cQ (dC, dI) (yW cI cZ ad) (yA ad) (some (.int r.1)) r.2 z) args s 0 0 (yA ad)) (dC, dI) (yW cI cZ ad) (yA ad) 6 σ z [(0, .ref (ad 0)), (1, .int a1), (2, .int a2), (3, .int a3)] 27 []) ?_
  intro k27 hk27 a3 σ h
  unfold bX5_rivals_27 at h
  refine x_iload_n C dX5_rivals_27 rfl 3 rfl ?_
  refine x_bipush (v := 121) C dX5_rivals_28 bi_121 ?_
  refine x_icmp_ge (tgt := 90) C dX5_rivals_30 (by decide) h ?_ ?_
  · intro h
    refine x_iconst (v := 0) C dX5_rivals_90 ic_0 ?_
    refine x_istore_n (lv' := [(3, .int 0), (0, .ref (ad 0)), (1, .int a1), (2, .int a2)]) C dX5_rivals_91 rfl (by decide) rfl ?_
    refine x_bipush (v := (-9)) C dX5_rivals_92 bi_m9 ?_
    refine x_istore (lv' := [(4, .int (-9)), (3, .int 0), (0, .ref (ad 0)), (1, .int a1), (2, .int a2)]) C dX5_rivals_94 (by decide) rfl ?_
    refine x_iconst (v := 0) C dX5_rivals_96 ic_0 ?_
    refine x_istore (lv' := [(5, .int 0), (4, .int (-9)), (3, .int 0), (0, .ref (ad 0)), (1, .int a1), (2, .int a2)]) C dX5_rivals_97 (by decide) rfl ?_
    refine x_sub (lv' := [(0, .ref (ad 0)), (2, .int a2), (3, .int 0), (4, .int (-9)), (5, .int 0)]) [3, 5, 2, 1, 0] rfl ?_
    exact wX5_rivals_99 hJ C _ _ _ _ h
  · intro h
    refine x_iload_n C dX5_rivals_33 rfl 3 rfl ?_
    refine x_bipush (v := 11) C dX5_rivals_34 bi_11 ?_
    refine x_idiv_c C dX5_rivals_36 (by decide) ?_
    refine x_istore_b C (fun v1 => [(4, .int v1), (0, .ref (ad 0)), (1, .int a1), (2, .int a2), (3, .int a3)]) dX5_rivals_37 (by decide) h (fun _ => rfl) ?_
    intro v1 h
    refine x_iload_n C dX5_rivals_39 rfl 4 rfl ?_
    refine x_bipush (v := 11) C dX5_rivals_40 bi_11 ?_
    refine x_irem_c C dX5_rivals_42 (by decide) ?_
    refine x_istore_b C (fun v2 => [(5, .int v2), (4, .int v1), (0, .ref (ad 0)), (1, .int a1), (2, .int a2), (3, .int a3)]) dX5_rivals_43 (by decide) h (fun _ => rfl) ?_
    intro v2 h
    refine x_aload_n C dX5_rivals_45 rfl 2 rfl ?_
    refine fg_5_25 C 0 rfl rfl k_3_34 dX5_rivals_46 ?_
    refine x_iload_n C dX5_rivals_49 rfl 5 rfl ?_
    refine x_aload_n C dX5_rivals_50 rfl 2 rfl ?_
    refine x_iload C dX5_rivals_51 1 rfl ?_
    refine x_bipush (v := 10) C dX5_rivals_53 bi_10 ?_
    refine x_icmp_ne (tgt := 63) C dX5_rivals_55 (by decide) h ?_ ?_
    · intro h
      refine x_iload C dX5_rivals_63 1 rfl ?_
      refine x_sub (lv' := [(0, .ref (ad 0)), (1, .int a1), (2, .int a2), (3, .int a3), (5, .int v2)]) [2, 3, 4, 5, 0] rfl ?_
      exact wX5_rivals_65 hJ C hk27 h
    · intro h
      refine x_bipush (v := (-9)) C dX5_rivals_58 bi_m9 ?_
      refine x_goto (tgt := 65) C dX5_rivals_60 (by decide) ?_
      refine x_sub (lv' := [(0, .ref (ad 0)), (1, .int a1), (2, .int a2), (3, .int a3), (5, .int v2)]) [2, 3, 4, 5, 0] rfl ?_
      exact wX5_rivals_65 hJ C hk27 h
set_option maxRecDepth 100000 in
set_option maxHeartbeats 4000000 in
theorem wX5_rivals_0 (hJ : eInj 16 ad) (C : Cx p s m args meth c (dC, dI) (yW cI cZ ad) (yA ad) ExY [(cI, .int), (cZ, .boolean)] cX5_rivals 6 RX5 (some .int) yX5_rivals) {σ : eSt} {a1 : Int32} {a2 : Int32} {z : Int64} {r : Int32 × eSt} (h : fX5_rivals σ a1 a2 = some r) : WX p l e rmX5_rivals s m args below meth c (MQ below (cQ (dC, dI) (yW cI cZ ad) (yA ad) (some (.int r.1)) r.2 z) args s 0 0 (yA ad)) (dC, dI) (yW cI cZ ad) (yA ad) 6 σ z [(0, .ref (ad 0)), (1, .int a1), (2, .int a2)] 0 [] := by
  unfold fX5_rivals at h
  refine x_aload_n C dX5_rivals_0 rfl 0 rfl ?_
  refine x_iconst (v := 0) C dX5_rivals_1 ic_0 ?_
  refine fp_5_0 C 0 rfl (Nat.le_of_ble_eq_true rfl) k_3_9 h rfl dX5_rivals_2 ?_
  intro σ1 h
  refine x_iload_n C dX5_rivals_5 rfl 1 rfl ?_
  obtain ⟨v2, hv, h⟩ := e_bind h
  refine x_callS_i C [.int a1] (tX5_noHour hJ hv) k_3_209 k_3_210 k_1_6 k_3_211 hyX5_noHour.2 ⟨rfl, rfl⟩ (by decide) rfl rfl (Nat.le_of_ble_eq_true rfl) dX5_rivals_6 ?_
  refine x_if_ne (tgt := 22) C dX5_rivals_9 (by decide) h ?_ ?_
  · intro h
    refine x_bipush (v := (-2)) C dX5_rivals_22 bi_m2 ?_
    exact xr_wi C h dX5_rivals_24
  · intro h
    refine x_iload_n C dX5_rivals_12 rfl 2 rfl ?_
    refine x_i2l C dX5_rivals_13 ?_
    refine x_lconst (v := 0) C dX5_rivals_14 rfl ?_
    refine x_lconst (v := 1) C dX5_rivals_15 rfl ?_
    obtain ⟨v3, hv, h⟩ := e_bind h
    refine x_callS_i C [.long (a2.toInt64), .long 0, .long 1] (tX5_in hJ hv) k_3_111 k_3_112 k_1_6 k_3_113 hyX5_in.2 ⟨rfl, rfl⟩ (by decide) rfl rfl (Nat.le_of_ble_eq_true rfl) dX5_rivals_16 ?_
    refine x_if_ne (tgt := 25) C dX5_rivals_19 (by decide) h ?_ ?_
    · intro h
      refine x_iconst (v := 0) C dX5_rivals_25 ic_0 ?_
      refine x_istore_n (lv' := [(3, .int 0), (0, .ref (ad 0)), (1, .int a1), (2, .int a2)]) C dX5_rivals_26 rfl (by decide) rfl ?_
      refine x_sub (lv' := [(0, .ref (ad 0)), (1, .int a1), (2, .int a2), (3, .int 0)]) [1, 2, 3, 0] rfl ?_
      exact wX5_rivals_27 hJ C _ _ _ h
    · intro h
      refine x_bipush (v := (-2)) C dX5_rivals_22 bi_m2 ?_
      exact xr_wi C h dX5_rivals_24
set_option maxRecDepth 100000 in
set_option maxHeartbeats 4000000 in
theorem tX5_rivals {l : Launch} {dC : Nat → ClassId} {dI : Nat → Nat → Nat} {cI cZ : ClassId} {ad : Nat → Nat} (hJ : eInj 16 ad) {σ : eSt} {a1 : Int32} {a2 : Int32} {z : Int64} {r : Int32 × eSt} (h : fX5_rivals σ a1 a2 = some r) : Con l yX5_rivals cX5_rivals 6 (some .int) rmX5_rivals (dC, dI) (yW cI cZ ad) (yA ad) [(cI, .int), (cZ, .boolean)] ExY [.ref (ad 0), .int a1, .int a2] σ z (some (.int r.1)) r.2 z :=
  x_con (by decide) (yW_D hJ) (ExY_ok ad) (Nat.le_of_ble_eq_true rfl) (fun p e s m args below meth c C => wX5_rivals_0 hJ C h)
set_option maxRecDepth 100000 in
set_option maxHeartbeats 4000000 in
theorem wX5_chance_190 (hJ : eInj 16 ad) (C : Cx p s m args meth c (dC, dI) (yW cI cZ ad) (yA ad) ExY [(cI, .int), (cZ, .boolean)] cX5_chance 12 RX5 (some .int) yX5_chance) {σ : eSt} {a1 : Int32} {a2 : Int32} {a3 : Int32} {a4 : Int32} {a5 : Int32} {a6 : Int32} {a7 : Int32} {a8 : Int32} {a9 : Int32} {z : Int64} {r : Int32 × eSt} {k66 : Int32 → Int32 → Int32 → eSt → Option (Int32 × eSt)} (hk66 : ∀ (a7 : Int32) (a8 : Int32) (a9 : Int32) (σ : eSt), k66 a7 a8 a9 σ = some r → WX p l e rmX5_chance s m args below meth c (MQ below (cQ (dC, dI) (yW cI cZ ad) (yA ad) (some (.int r.1)) r.2 z) args s 0 0 (yA ad)) (dC, dI) (yW cI cZ ad) (yA ad) 12 σ z [(0, .ref (ad 0)), (1, .int a1), (2, .int a2), (3, .int a3), (4, .int a4), (5, .int a5), (6, .int a6), (7, .int a7), (8, .int a8), (9, .int a9)] 66 []) (h : fX5_chance_190 k66 σ a1 a2 a3 a4 a5 a6 a7 a8 a9 = some r) : WX p l e rmX5_chance s m args below meth c (MQ below (cQ (dC, dI) (yW cI cZ ad) (yA ad) (some (.int r.1)) r.2 z) args s 0 0 (yA ad)) (dC, dI) (yW cI cZ ad) (yA ad) 12 σ z [(0, .ref (ad 0)), (1, .int a1), (2, .int a2), (3, .int a3), (4, .int a4), (5, .int a5), (6, .int a6), (7, .int a7), (8, .int a8), (9, .int a9)] 190 [] := by
  unfold fX5_chance_190 at h
  refine x_iinc_b (j := 9) (w := 1) C (fun v1 => [(9, .int v1), (0, .ref (ad 0)), (1, .int a1), (2, .int a2), (3, .int a3), (4, .int a4), (5, .int a5), (6, .int a6), (7, .int a7), (8, .int a8)]) dX5_chance_190 ic_1 rfl (by decide) h (fun _ => rfl) ?_
  intro v1 h
  refine x_goto (tgt := 66) C dX5_chance_193 (by decide) ?_
  refine x_sub (lv' := [(0, .ref (ad 0)), (1, .int a1), (2, .int a2), (3, .int a3), (4, .int a4), (5, .int a5), (6, .int a6), (7, .int a7), (8, .int a8), (9, .int v1)]) [1, 2, 3, 4, 5, 6, 7, 8, 9, 0] rfl ?_
  exact hk66 _ _ _ _ h
set_option maxRecDepth 100000 in
set_option maxHeartbeats 4000000 in
theorem wX5_chance_187 (hJ : eInj 16 ad) (C : Cx p s m args meth c (dC, dI) (yW cI cZ ad) (yA ad) ExY [(cI, .int), (cZ, .boolean)] cX5_chance 12 RX5 (some .int) yX5_chance) {σ : eSt} {a1 : Int32} {a2 : Int32} {a3 : Int32} {a4 : Int32} {a5 : Int32} {a6 : Int32} {a8 : Int32} {a9 : Int32} {s0 : Int32} {s1 : Int32} {z : Int64} {r : Int32 × eSt} {k66 : Int32 → Int32 → Int32 → eSt → Option (Int32 × eSt)} (hk66 : ∀ (a7 : Int32) (a8 : Int32) (a9 : Int32) (σ : eSt), k66 a7 a8 a9 σ = some r → WX p l e rmX5_chance s m args below meth c (MQ below (cQ (dC, dI) (yW cI cZ ad) (yA ad) (some (.int r.1)) r.2 z) args s 0 0 (yA ad)) (dC, dI) (yW cI cZ ad) (yA ad) 12 σ z [(0, .ref (ad 0)), (1, .int a1), (2, .int a2), (3, .int a3), (4, .int a4), (5, .int a5), (6, .int a6), (7, .int a7), (8, .int a8), (9, .int a9)] 66 []) (h : fX5_chance_187 k66 σ a1 a2 a3 a4 a5 a6 a8 a9 s0 s1 = some r) : WX p l e rmX5_chance s m args below meth c (MQ below (cQ (dC, dI) (yW cI cZ ad) (yA ad) (some (.int r.1)) r.2 z) args s 0 0 (yA ad)) (dC, dI) (yW cI cZ ad) (yA ad) 12 σ z [(0, .ref (ad 0)), (1, .int a1), (2, .int a2), (3, .int a3), (4, .int a4), (5, .int a5), (6, .int a6), (8, .int a8), (9, .int a9)] 187 [.int s0, .int s1] := by
  unfold fX5_chance_187 at h
  refine x_iadd C dX5_chance_187 ?_
  refine x_istore_b C (fun v1 => [(7, .int v1), (0, .ref (ad 0)), (1, .int a1), (2, .int a2), (3, .int a3), (4, .int a4), (5, .int a5), (6, .int a6), (8, .int a8), (9, .int a9)]) dX5_chance_188 (by decide) h (fun _ => rfl) ?_
  intro v1 h
  refine x_sub (lv' := [(0, .ref (ad 0)), (1, .int a1), (2, .int a2), (3, .int a3), (4, .int a4), (5, .int a5), (6, .int a6), (7, .int v1), (8, .int a8), (9, .int a9)]) [1, 2, 3, 4, 5, 6, 7, 0, 8, 9] rfl ?_
  exact wX5_chance_190 hJ C hk66 h
set_option maxRecDepth 100000 in
set_option maxHeartbeats 4000000 in
theorem wX5_chance_132 (hJ : eInj 16 ad) (C : Cx p s m args meth c (dC, dI) (yW cI cZ ad) (yA ad) ExY [(cI, .int), (cZ, .boolean)] cX5_chance 12 RX5 (some .int) yX5_chance) {σ : eSt} {a1 : Int32} {a2 : Int32} {a3 : Int32} {a4 : Int32} {a5 : Int32} {a6 : Int32} {a7 : Int32} {a8 : Int32} {a9 : Int32} {a11 : Int32} {s0 : Int32} {s1 : Int32} {z : Int64} {r : Int32 × eSt} {k66 : Int32 → Int32 → Int32 → eSt → Option (Int32 × eSt)} (hk66 : ∀ (a7 : Int32) (a8 : Int32) (a9 : Int32) (σ : eSt), k66 a7 a8 a9 σ = some r → WX p l e rmX5_chance s m args below meth c (MQ below (cQ (dC, dI) (yW cI cZ ad) (yA ad) (some (.int r.1)) r.2 z) args s 0 0 (yA ad)) (dC, dI) (yW cI cZ ad) (yA ad) 12 σ z [(0, .ref (ad 0)), (1, .int a1), (2, .int a2), (3, .int a3), (4, .int a4), (5, .int a5), (6, .int a6), (7, .int a7), (8, .int a8), (9, .int a9)] 66 []) {k89 : Int32 → Int32 → Option (Int32 × eSt)} (hk89 : ∀ (a10 : Int32) (a11 : Int32), k89 a10 a11 = some r → WX p l e rmX5_chance s m args below meth c (MQ below (cQ (dC, dI) (yW cI cZ ad) (yA ad) (some (.int r.1)) r.2 z) args s 0 0 (yA ad)) (dC, dI) (yW cI cZ ad) (yA ad) 12 σ z [(0, .ref (ad 0)), (1, .int a1), (2, .int a2), (3, .int a3), (4, .int a4), (5, .int a5), (6, .int a6), (7, .int a7), (8, .int a8), (9, .int a9), (10, .int a10), (11, .int a11)] 89 []) (h : fX5_chance_132 k66 k89 σ a1 a2 a3 a4 a5 a6 a7 a8 a9 a11 s0 s1 = some r) : WX p l e rmX5_chance s m args below meth c (MQ below (cQ (dC, dI) (yW cI cZ ad) (yA ad) (some (.int r.1)) r.2 z) args s 0 0 (yA ad)) (dC, dI) (yW cI cZ ad) (yA ad) 12 σ z [(0, .ref (ad 0)), (1, .int a1), (2, .int a2), (3, .int a3), (4, .int a4), (5, .int a5), (6, .int a6), (7, .int a7), (8, .int a8), (9, .int a9), (11, .int a11)] 132 [.int s0, .int s1] := by
  unfold fX5_chance_132 at h
  refine x_imul C dX5_chance_132 ?_
  refine x_istore_b C (fun v1 => [(10, .int v1), (0, .ref (ad 0)), (1, .int a1), (2, .int a2), (3, .int a3), (4, .int a4), (5, .int a5), (6, .int a6), (7, .int a7), (8, .int a8), (9, .int a9), (11, .int a11)]) dX5_chance_133 (by decide) h (fun _ => rfl) ?_
  intro v1 h
  refine x_iinc_b (j := 11) (w := 1) C (fun v2 => [(11, .int v2), (10, .int v1), (0, .ref (ad 0)), (1, .int a1), (2, .int a2), (3, .int a3), (4, .int a4), (5, .int a5), (6, .int a6), (7, .int a7), (8, .int a8), (9, .int a9)]) dX5_chance_135 ic_1 rfl (by decide) h (fun _ => rfl) ?_
  intro v2 h
  refine x_goto (tgt := 89) C dX5_chance_138 (by decide) ?_
  refine x_sub (lv' := [(0, .ref (ad 0)), (1, .int a1), (2, .int a2), (3, .int a3), (4, .int a4), (5, .int a5), (6, .int a6), (7, .int a7), (8, .int a8), (9, .int a9), (10, .int v1), (11, .int v2)]) [2, 3, 4, 5, 6, 7, 8, 9, 10, 11, 1, 0] rfl ?_
  exact hk89 _ _ h
set_option maxRecDepth 100000 in
set_option maxHeartbeats 4000000 in
theorem wX5_chance_89 (hJ : eInj 16 ad) (C : Cx p s m args meth c (dC, dI) (yW cI cZ ad) (yA ad) ExY [(cI, .int), (cZ, .boolean)] cX5_chance 12 RX5 (some .int) yX5_chance) {σ : eSt} {a1 : Int32} {a2 : Int32} {a3 : Int32} {a4 : Int32} {a5 : Int32} {a6 : Int32} {a7 : Int32} {a8 : Int32} {a9 : Int32} {z : Int64} {r : Int32 × eSt} {k66 : Int32 → Int32 → Int32 → eSt → Option (Int32 × eSt)} (hk66 : ∀ (a7 : Int32) (a8 : Int32) (a9 : Int32) (σ : eSt), k66 a7 a8 a9 σ = some r → WX p l e rmX5_chance s m args below meth c (MQ below (cQ (dC, dI) (yW cI cZ ad) (yA ad) (some (.int r.1)) r.2 z) args s 0 0 (yA ad)) (dC, dI) (yW cI cZ ad) (yA ad) 12 σ z [(0, .ref (ad 0)), (1, .int a1), (2, .int a2), (3, .int a3), (4, .int a4), (5, .int a5), (6, .int a6), (7, .int a7), (8, .int a8), (9, .int a9)] 66 []) : ∀ (n : Nat) (a10 : Int32) (a11 : Int32), lo_2 (bX5_chance_89 k66 σ a1 a2 a3 a4 a5 a6 a7 a8 a9) n a10 a11 = some r → WX p l e rmX5_chance s m args below meth c (MQ below (cQ (dC, dI) (yW cI cZ ad) (yA ad) (some (.int r.1)) r.2 z) args s 0 0 (yA ad)) (dC, dI) (yW cI cZ ad) (yA ad) 12 σ z [(0, .ref (ad 0)), (1, .int a1), (2, .int a2), (3, .int a3), (4, .int a4), (5, .int a5), (6, .int a6), (7, .int a7), (8, .int a8), (9, .int a9), (10, .int a10), (11, .int a11)] 89 [] := by
  refine lo_2_ind (P := fun a10 a11 => WX p l e rmX5_chance s m args below meth c (MQ below (cQ (dC, dI) (yW cI cZ ad) (yA ad) (some (.int r.1)) r.2 z) args s 0 0 (yA ad)) (dC, dI) (yW cI cZ ad) (yA ad) 12 σ z [(0, .ref (ad 0)), (1, .int a1), (2, .int a2), (3, .int a3), (4, .int a4), (5, .int a5), (6, .int a6), (7, .int a7), (8, .int a8), (9, .int a9), (10, .int a10), (11, .int a11)] 89 []) ?_
  intro k89 hk89 a10 a11 h
  unfold bX5_chance_89 at h
  refine x_iload C dX5_chance_89 11 rfl ?_
  refine x_aload_n C dX5_chance_91 rfl 0 rfl ?_
  refine fg_5_4 C 0 rfl rfl k_3_13 dX5_chance_92 ?_
  refine x_icmp_ge (tgt := 141) C dX5_chance_95 (by decide) h ?_ ?_
  · intro h
    refine x_aload_n C dX5_chance_141 rfl 0 rfl ?_
    obtain ⟨σ1, hv, h⟩ := e_bind h
    refine x_callV_v C (ci := 5) 0 [] (tX5_begin hJ hv) k_3_232 k_3_234 k_p_31 k_1_6 k_3_235 hyX5_begin ⟨rfl, rfl⟩ (by decide) rfl rfl rfl rfl (Nat.le_of_ble_eq_true rfl) dX5_chance_142 ?_
    refine x_aload_n C dX5_chance_145 rfl 0 rfl ?_
    refine fg_5_12 C 0 rfl rfl k_3_21 dX5_chance_146 ?_
    refine x_iconst (v := 2) C dX5_chance_149 ic_2 ?_
    refine x_dup2 C dX5_chance_150 rfl rfl ?_
    refine x_iald_c C 5 0 2 rfl rfl dX5_chance_151 (by decide) (by decide) ?_
    refine x_iload C dX5_chance_152 9 rfl ?_
    refine x_ior C dX5_chance_154 ?_
    refine x_iast_c C 5 0 2 rfl rfl dX5_chance_155 (by decide) (by decide) h rfl ?_
    intro σ2 h
    refine x_iload C dX5_chance_156 8 rfl ?_
    refine x_iload C dX5_chance_158 10 rfl ?_
    refine x_iadd C dX5_chance_160 ?_
    refine x_istore_b C (fun v3 => [(8, .int v3), (0, .ref (ad 0)), (1, .int a1), (2, .int a2), (3, .int a3), (4, .int a4), (5, .int a5), (6, .int a6), (7, .int a7), (9, .int a9), (10, .int a10), (11, .int a11)]) dX5_chance_161 (by decide) h (fun _ => rfl) ?_
    intro v3 h
    refine x_iload C dX5_chance_163 8 rfl ?_
    refine x_aload_n C dX5_chance_165 rfl 1 rfl ?_
    refine x_aload_n C dX5_chance_166 rfl 1 rfl ?_
    refine fg_5_12 C 0 rfl rfl k_3_21 dX5_chance_167 ?_
    refine x_iload_n C dX5_chance_170 rfl 3 rfl ?_
    obtain ⟨w4, hv, h⟩ := e_bind h
    refine x_callV_i C (ci := 5) 0 [.ref (ad 5), .int a2] (tX5_sureAt hJ (Or.inr rfl) hv) k_3_216 k_3_218 k_p_30 k_1_6 k_3_219 hyX5_sureAt ⟨rfl, rfl⟩ (by decide) rfl rfl rfl rfl (Nat.le_of_ble_eq_true rfl) dX5_chance_171 ?_
    refine x_iload_n C dX5_chance_174 rfl 2 rfl ?_
    obtain ⟨v5, hv, h⟩ := e_bind h
    refine x_callS_i C [.int w4.1, .int a1] (tX5_has hJ hv) k_3_159 k_3_160 k_1_6 k_3_161 hyX5_has.2 ⟨rfl, rfl⟩ (by decide) rfl rfl (Nat.le_of_ble_eq_true rfl) dX5_chance_175 ?_
    refine x_if_eq (tgt := 186) C dX5_chance_178 (by decide) h ?_ ?_
    · intro h
      refine x_iconst (v := 0) C dX5_chance_186 ic_0 ?_
      refine x_sub (lv' := [(0, .ref (ad 0)), (1, .int a1), (2, .int a2), (3, .int a3), (4, .int a4), (5, .int a5), (6, .int a6), (8, .int v3), (9, .int a9)]) [1, 2, 3, 4, 5, 6, 7, 0, 9] rfl ?_
      exact wX5_chance_187 hJ C hk66 h
    · intro h
      refine x_iload C dX5_chance_181 10 rfl ?_
      refine x_goto (tgt := 187) C dX5_chance_183 (by decide) ?_
      refine x_sub (lv' := [(0, .ref (ad 0)), (1, .int a1), (2, .int a2), (3, .int a3), (4, .int a4), (5, .int a5), (6, .int a6), (8, .int v3), (9, .int a9)]) [1, 2, 3, 4, 5, 6, 7, 0, 9] rfl ?_
      exact wX5_chance_187 hJ C hk66 h
  · intro h
    refine x_iload C dX5_chance_98 10 rfl ?_
    refine x_iload C dX5_chance_100 6 rfl ?_
    refine x_iload C dX5_chance_102 11 rfl ?_
    obtain ⟨v6, hv, h⟩ := e_bind h
    refine x_callS_i C [.int a6, .int a11] (tX5_has hJ hv) k_3_159 k_3_160 k_1_6 k_3_161 hyX5_has.2 ⟨rfl, rfl⟩ (by decide) rfl rfl (Nat.le_of_ble_eq_true rfl) dX5_chance_104 ?_
    refine x_if_ne (tgt := 114) C dX5_chance_107 (by decide) h ?_ ?_
    · intro h
      refine x_iload C dX5_chance_114 9 rfl ?_
      refine x_iload C dX5_chance_116 11 rfl ?_
      obtain ⟨v7, hv, h⟩ := e_bind h
      refine x_callS_i C [.int a9, .int a11] (tX5_has hJ hv) k_3_159 k_3_160 k_1_6 k_3_161 hyX5_has.2 ⟨rfl, rfl⟩ (by decide) rfl rfl (Nat.le_of_ble_eq_true rfl) dX5_chance_118 ?_
      refine x_if_eq (tgt := 128) C dX5_chance_121 (by decide) h ?_ ?_
      · intro h
        refine x_bipush (v := 10) C dX5_chance_128 bi_10 ?_
        refine x_iload_n C dX5_chance_130 rfl 3 rfl ?_
        refine x_isub C dX5_chance_131 ?_
        refine x_sub (lv' := [(0, .ref (ad 0)), (1, .int a1), (2, .int a2), (3, .int a3), (4, .int a4), (5, .int a5), (6, .int a6), (7, .int a7), (8, .int a8), (9, .int a9), (11, .int a11)]) [0, 1, 2, 3, 4, 5, 6, 7, 8, 9, 11] rfl ?_
        exact wX5_chance_132 hJ C hk66 hk89 h
      · intro h
        refine x_iload_n C dX5_chance_124 rfl 3 rfl ?_
        refine x_goto (tgt := 132) C dX5_chance_125 (by decide) ?_
        refine x_sub (lv' := [(0, .ref (ad 0)), (1, .int a1), (2, .int a2), (3, .int a3), (4, .int a4), (5, .int a5), (6, .int a6), (7, .int a7), (8, .int a8), (9, .int a9), (11, .int a11)]) [0, 1, 2, 3, 4, 5, 6, 7, 8, 9, 11] rfl ?_
        exact wX5_chance_132 hJ C hk66 hk89 h
    · intro h
      refine x_iconst (v := 1) C dX5_chance_110 ic_1 ?_
      refine x_goto (tgt := 132) C dX5_chance_111 (by decide) ?_
      refine x_sub (lv' := [(0, .ref (ad 0)), (1, .int a1), (2, .int a2), (3, .int a3), (4, .int a4), (5, .int a5), (6, .int a6), (7, .int a7), (8, .int a8), (9, .int a9), (11, .int a11)]) [0, 1, 2, 3, 4, 5, 6, 7, 8, 9, 11] rfl ?_
      exact wX5_chance_132 hJ C hk66 hk89 h
set_option maxRecDepth 100000 in
set_option maxHeartbeats 4000000 in
theorem wX5_chance_66 (hJ : eInj 16 ad) (C : Cx p s m args meth c (dC, dI) (yW cI cZ ad) (yA ad) ExY [(cI, .int), (cZ, .boolean)] cX5_chance 12 RX5 (some .int) yX5_chance) {a1 : Int32} {a2 : Int32} {a3 : Int32} {a4 : Int32} {a5 : Int32} {a6 : Int32} {z : Int64} {r : Int32 × eSt} : ∀ (n : Nat) (a7 : Int32) (a8 : Int32) (a9 : Int32) (σ : eSt), lo_4 (bX5_chance_66 a1 a2 a3 a4 a5 a6) n a7 a8 a9 σ = some r → WX p l e rmX5_chance s m args below meth c (MQ below (cQ (dC, dI) (yW cI cZ ad) (yA ad) (some (.int r.1)) r.2 z) args s 0 0 (yA ad)) (dC, dI) (yW cI cZ ad) (yA ad) 12 σ z [(0, .ref (ad 0)), (1, .int a1), (2, .int a2), (3, .int a3), (4, .int a4), (5, .int a5), (6, .int a6), (7, .int a7), (8, .int a8), (9, .int a9)] 66 [] := by
  refine lo_4_ind (P := fun a7 a8 a9 σ => WX p l e rmX5_chance s m args below meth c (MQ below (cQ (dC, dI) (yW cI cZ ad) (yA ad) (some (.int r.1)) r.2 z) args s 0 0 (yA ad)) (dC, dI) (yW cI cZ ad) (yA ad) 12 σ z [(0, .ref (ad 0)), (1, .int a1), (2, .int a2), (3, .int a3), (4, .int a4), (5, .int a5), (6, .int a6), (7, .int a7), (8, .int a8), (9, .int a9)] 66 []) ?_
  intro k66 hk66 a7 a8 a9 σ h
  unfold bX5_chance_66 at h
  refine x_iload C dX5_chance_66 9 rfl ?_
  refine x_iload C dX5_chance_68 5 rfl ?_
  refine x_icmp_gt (tgt := 196) C dX5_chance_70 (by decide) h ?_ ?_
  · intro h
    refine x_iload C dX5_chance_196 7 rfl ?_
    refine x_iload C dX5_chance_198 8 rfl ?_
    refine x_iload C dX5_chance_200 4 rfl ?_
    obtain ⟨v1, hv, h⟩ := e_bind h
    refine x_callS_i C [.int a7, .int a8, .int a4] (tX5_fraction hJ hv) k_4_6 k_4_7 k_1_6 k_4_8 hyX5_fraction.2 ⟨rfl, rfl⟩ (by decide) rfl rfl (Nat.le_of_ble_eq_true rfl) dX5_chance_202 ?_
    exact xr_wi C h dX5_chance_205
  · intro h
    refine x_iload C dX5_chance_73 9 rfl ?_
    refine x_iload C dX5_chance_75 6 rfl ?_
    refine x_iconst (v := (-1)) C dX5_chance_77 ic_m1 ?_
    refine x_ixor C dX5_chance_78 ?_
    refine x_iand C dX5_chance_79 ?_
    refine x_if_ne (tgt := 190) C dX5_chance_80 (by decide) h ?_ ?_
    · intro h
      exact wX5_chance_190 hJ C hk66 h
    · intro h
      refine x_iconst (v := 1) C dX5_chance_83 ic_1 ?_
      refine x_istore (lv' := [(10, .int 1), (0, .ref (ad 0)), (1, .int a1), (2, .int a2), (3, .int a3), (4, .int a4), (5, .int a5), (6, .int a6), (7, .int a7), (8, .int a8), (9, .int a9)]) C dX5_chance_84 (by decide) rfl ?_
      refine x_iconst (v := 0) C dX5_chance_86 ic_0 ?_
      refine x_istore (lv' := [(11, .int 0), (10, .int 1), (0, .ref (ad 0)), (1, .int a1), (2, .int a2), (3, .int a3), (4, .int a4), (5, .int a5), (6, .int a6), (7, .int a7), (8, .int a8), (9, .int a9)]) C dX5_chance_87 (by decide) rfl ?_
      refine x_sub (lv' := [(0, .ref (ad 0)), (1, .int a1), (2, .int a2), (3, .int a3), (4, .int a4), (5, .int a5), (6, .int a6), (7, .int a7), (8, .int a8), (9, .int a9), (10, .int 1), (11, .int 0)]) [2, 3, 4, 5, 6, 7, 8, 9, 10, 11, 1, 0] rfl ?_
      exact wX5_chance_89 hJ C hk66 _ _ _ h
set_option maxRecDepth 100000 in
set_option maxHeartbeats 4000000 in
theorem wX5_chance_0 (hJ : eInj 16 ad) (C : Cx p s m args meth c (dC, dI) (yW cI cZ ad) (yA ad) ExY [(cI, .int), (cZ, .boolean)] cX5_chance 12 RX5 (some .int) yX5_chance) {σ : eSt} {a1 : Int32} {a2 : Int32} {a3 : Int32} {a4 : Int32} {z : Int64} {r : Int32 × eSt} (h : fX5_chance σ a1 a2 a3 a4 = some r) : WX p l e rmX5_chance s m args below meth c (MQ below (cQ (dC, dI) (yW cI cZ ad) (yA ad) (some (.int r.1)) r.2 z) args s 0 0 (yA ad)) (dC, dI) (yW cI cZ ad) (yA ad) 12 σ z [(0, .ref (ad 0)), (1, .int a1), (2, .int a2), (3, .int a3), (4, .int a4)] 0 [] := by
  unfold fX5_chance at h
  refine x_aload_n C dX5_chance_0 rfl 0 rfl ?_
  refine x_iconst (v := 0) C dX5_chance_1 ic_0 ?_
  refine fp_5_0 C 0 rfl (Nat.le_of_ble_eq_true rfl) k_3_9 h rfl dX5_chance_2 ?_
  intro σ1 h
  refine x_iload_n C dX5_chance_5 rfl 1 rfl ?_
  obtain ⟨v2, hv, h⟩ := e_bind h
  refine x_callS_i C [.int a1] (tX5_noCell hJ hv) k_3_173 k_3_174 k_1_6 k_3_175 hyX5_noCell.2 ⟨rfl, rfl⟩ (by decide) rfl rfl (Nat.le_of_ble_eq_true rfl) dX5_chance_6 ?_
  refine x_if_ne (tgt := 31) C dX5_chance_9 (by decide) h ?_ ?_
  · intro h
    refine x_bipush (v := (-2)) C dX5_chance_31 bi_m2 ?_
    exact xr_wi C h dX5_chance_33
  · intro h
    refine x_iload_n C dX5_chance_12 rfl 2 rfl ?_
    obtain ⟨v3, hv, h⟩ := e_bind h
    refine x_callS_i C [.int a2] (tX5_noHour hJ hv) k_3_209 k_3_210 k_1_6 k_3_211 hyX5_noHour.2 ⟨rfl, rfl⟩ (by decide) rfl rfl (Nat.le_of_ble_eq_true rfl) dX5_chance_13 ?_
    refine x_if_ne (tgt := 31) C dX5_chance_16 (by decide) h ?_ ?_
    · intro h
      refine x_bipush (v := (-2)) C dX5_chance_31 bi_m2 ?_
      exact xr_wi C h dX5_chance_33
    · intro h
      refine x_iload_n C dX5_chance_19 rfl 3 rfl ?_
      refine x_i2l C dX5_chance_20 ?_
      refine x_lconst (v := 0) C dX5_chance_21 rfl ?_
      refine x_ldc2 (v := 10) C dX5_chance_22 k_4_16 ?_
      obtain ⟨v4, hv, h⟩ := e_bind h
      refine x_callS_i C [.long (a3.toInt64), .long 0, .long 10] (tX5_in hJ hv) k_3_111 k_3_112 k_1_6 k_3_113 hyX5_in.2 ⟨rfl, rfl⟩ (by decide) rfl rfl (Nat.le_of_ble_eq_true rfl) dX5_chance_25 ?_
      refine x_if_ne (tgt := 34) C dX5_chance_28 (by decide) h ?_ ?_
      · intro h
        refine x_iconst (v := 1) C dX5_chance_34 ic_1 ?_
        refine x_aload_n C dX5_chance_35 rfl 0 rfl ?_
        refine fg_5_4 C 0 rfl rfl k_3_13 dX5_chance_36 ?_
        refine x_ishl C dX5_chance_39 ?_
        refine x_iconst (v := 1) C dX5_chance_40 ic_1 ?_
        refine x_isub C dX5_chance_41 ?_
        refine x_istore_b C (fun v5 => [(5, .int v5), (0, .ref (ad 0)), (1, .int a1), (2, .int a2), (3, .int a3), (4, .int a4)]) dX5_chance_42 (by decide) h (fun _ => rfl) ?_
        intro v5 h
        refine x_iload C dX5_chance_44 0 rfl ?_
        refine x_aload_n C dX5_chance_46 rfl 1 rfl ?_
        refine fg_5_11 C 0 rfl rfl k_3_20 dX5_chance_47 ?_
        refine x_iconst (v := 2) C dX5_chance_50 ic_2 ?_
        refine x_iald_c C 4 0 2 rfl rfl dX5_chance_51 (by decide) (by decide) ?_
        refine x_iconst (v := (-1)) C dX5_chance_52 ic_m1 ?_
        refine x_ixor C dX5_chance_53 ?_
        refine x_iand C dX5_chance_54 ?_
        refine x_istore_b C (fun v6 => [(6, .int v6), (5, .int v5), (0, .ref (ad 0)), (1, .int a1), (2, .int a2), (3, .int a3), (4, .int a4)]) dX5_chance_55 (by decide) h (fun _ => rfl) ?_
        intro v6 h
        refine x_iconst (v := 0) C dX5_chance_57 ic_0 ?_
        refine x_istore (lv' := [(7, .int 0), (6, .int v6), (5, .int v5), (0, .ref (ad 0)), (1, .int a1), (2, .int a2), (3, .int a3), (4, .int a4)]) C dX5_chance_58 (by decide) rfl ?_
        refine x_iconst (v := 0) C dX5_chance_60 ic_0 ?_
        refine x_istore (lv' := [(8, .int 0), (7, .int 0), (6, .int v6), (5, .int v5), (0, .ref (ad 0)), (1, .int a1), (2, .int a2), (3, .int a3), (4, .int a4)]) C dX5_chance_61 (by decide) rfl ?_
        refine x_iconst (v := 0) C dX5_chance_63 ic_0 ?_
        refine x_istore (lv' := [(9, .int 0), (8, .int 0), (7, .int 0), (6, .int v6), (5, .int v5), (0, .ref (ad 0)), (1, .int a1), (2, .int a2), (3, .int a3), (4, .int a4)]) C dX5_chance_64 (by decide) rfl ?_
        refine x_sub (lv' := [(0, .ref (ad 0)), (1, .int a1), (2, .int a2), (3, .int a3), (4, .int a4), (5, .int v5), (6, .int v6), (7, .int 0), (8, .int 0), (9, .int 0)]) [5, 6, 7, 8, 9, 4, 3, 2, 1, 0] rfl ?_
        exact wX5_chance_66 hJ C _ _ _ _ _ h
      · intro h
        refine x_bipush (v := (-2)) C dX5_chance_31 bi_m2 ?_
        exact xr_wi C h dX5_chance_33
set_option maxRecDepth 100000 in
set_option maxHeartbeats 4000000 in
theorem tX5_chance {l : Launch} {dC : Nat → ClassId} {dI : Nat → Nat → Nat} {cI cZ : ClassId} {ad : Nat → Nat} (hJ : eInj 16 ad) {σ : eSt} {a1 : Int32} {a2 : Int32} {a3 : Int32} {a4 : Int32} {z : Int64} {r : Int32 × eSt} (h : fX5_chance σ a1 a2 a3 a4 = some r) : Con l yX5_chance cX5_chance 12 (some .int) rmX5_chance (dC, dI) (yW cI cZ ad) (yA ad) [(cI, .int), (cZ, .boolean)] ExY [.ref (ad 0), .int a1, .int a2, .int a3, .int a4] σ z (some (.int r.1)) r.2 z :=
  x_con (by decide) (yW_D hJ) (ExY_ok ad) (Nat.le_of_ble_eq_true rfl) (fun p e s m args below meth c C => wX5_chance_0 hJ C h)
end WK

section WK
variable {p : Program} {l : Launch} {e : Env} {s : State} {m : MethodId} {args : Array Value} {below : List Frame} {meth : Method} {c : Code} {dC : Nat → ClassId} {dI : Nat → Nat → Nat} {cI cZ : ClassId} {ad : Nat → Nat}
set_option maxRecDepth 100000 in
set_option maxHeartbeats 4000000 in
theorem wX4_bestHours_118 (hJ : eInj 21 ad) (C : Cx p s m args meth c (dC, dI) (xW cI cZ ad) (xA ad) (ExX ad) [(cI, .int), (cZ, .boolean)] cX4_bestHours 8 RX4 (some .int) yX4_bestHours) {σ : eSt} {a1 : Int32} {a2 : Int32} {a3 : Int32} {a4 : Int32} {a5 : Int32} {z : Int64} {r : Int32 × eSt} {k61 : Int32 → Int32 → Int32 → Option (Int32 × eSt)} (hk61 : ∀ (a3 : Int32) (a4 : Int32) (a5 : Int32), k61 a3 a4 a5 = some r → WX p l e rmX4_bestHours s m args below meth c (MQ below (cQ (dC, dI) (xW cI cZ ad) (xA ad) (some (.int r.1)) r.2 z) args s 0 0 (xA ad)) (dC, dI) (xW cI cZ ad) (xA ad) 8 σ z [(0, .ref (ad 0)), (1, .int a1), (2, .int a2), (3, .int a3), (4, .int a4), (5, .int a5)] 61 []) (h : fX4_bestHours_118 k61 σ a1 a2 a3 a4 a5 = some r) : WX p l e rmX4_bestHours s m args below meth c (MQ below (cQ (dC, dI) (xW cI cZ ad) (xA ad) (some (.int r.1)) r.2 z) args s 0 0 (xA ad)) (dC, dI) (xW cI cZ ad) (xA ad) 8 σ z [(0, .ref (ad 0)), (1, .int a1), (2, .int a2), (3, .int a3), (4, .int a4), (5, .int a5)] 118 [] := by
  unfold fX4_bestHours_118 at h
  refine x_iinc_b (j := 5) (w := 1) C (fun v1 => [(5, .int v1), (0, .ref (ad 0)), (1, .int a1), (2, .int a2), (3, .int a3), (4, .int a4)]) dX4_bestHours_118 ic_1 rfl (by decide) h (fun _ => rfl) ?_
  intro v1 h
  refine x_goto (tgt := 61) C dX4_bestHours_121 (by decide) ?_
  refine x_sub (lv' := [(0, .ref (ad 0)), (1, .int a1), (2, .int a2), (3, .int a3), (4, .int a4), (5, .int v1)]) [1, 2, 3, 4, 5, 0] rfl ?_
  exact hk61 _ _ _ h
set_option maxRecDepth 100000 in
set_option maxHeartbeats 4000000 in
theorem wX4_bestHours_74 (hJ : eInj 21 ad) (C : Cx p s m args meth c (dC, dI) (xW cI cZ ad) (xA ad) (ExX ad) [(cI, .int), (cZ, .boolean)] cX4_bestHours 8 RX4 (some .int) yX4_bestHours) {σ : eSt} {a1 : Int32} {a2 : Int32} {a3 : Int32} {a4 : Int32} {a5 : Int32} {z : Int64} {r : Int32 × eSt} {k61 : Int32 → Int32 → Int32 → Option (Int32 × eSt)} (hk61 : ∀ (a3 : Int32) (a4 : Int32) (a5 : Int32), k61 a3 a4 a5 = some r → WX p l e rmX4_bestHours s m args below meth c (MQ below (cQ (dC, dI) (xW cI cZ ad) (xA ad) (some (.int r.1)) r.2 z) args s 0 0 (xA ad)) (dC, dI) (xW cI cZ ad) (xA ad) 8 σ z [(0, .ref (ad 0)), (1, .int a1), (2, .int a2), (3, .int a3), (4, .int a4), (5, .int a5)] 61 []) : ∀ (n : Nat) (a6 : Int32) (a7 : Int32), lo_2 (bX4_bestHours_74 k61 σ a1 a2 a3 a4 a5) n a6 a7 = some r → WX p l e rmX4_bestHours s m args below meth c (MQ below (cQ (dC, dI) (xW cI cZ ad) (xA ad) (some (.int r.1)) r.2 z) args s 0 0 (xA ad)) (dC, dI) (xW cI cZ ad) (xA ad) 8 σ z [(0, .ref (ad 0)), (1, .int a1), (2, .int a2), (3, .int a3), (4, .int a4), (5, .int a5), (6, .int a6), (7, .int a7)] 74 [] := by
  refine lo_2_ind (P := fun a6 a7 => WX p l e rmX4_bestHours s m args below meth c (MQ below (cQ (dC, dI) (xW cI cZ ad) (xA ad) (some (.int r.1)) r.2 z) args s 0 0 (xA ad)) (dC, dI) (xW cI cZ ad) (xA ad) 8 σ z [(0, .ref (ad 0)), (1, .int a1), (2, .int a2), (3, .int a3), (4, .int a4), (5, .int a5), (6, .int a6), (7, .int a7)] 74 []) ?_
  intro k74 hk74 a6 a7 h
  unfold bX4_bestHours_74 at h
  refine x_iload C dX4_bestHours_74 7 rfl ?_
  refine x_iload_n C dX4_bestHours_76 rfl 1 rfl ?_
  refine x_icmp_ge (tgt := 104) C dX4_bestHours_77 (by decide) h ?_ ?_
  · intro h
    refine x_iload C dX4_bestHours_104 6 rfl ?_
    refine x_iload C dX4_bestHours_106 4 rfl ?_
    refine x_icmp_le (tgt := 118) C dX4_bestHours_108 (by decide) h ?_ ?_
    · intro h
      refine x_sub (lv' := [(0, .ref (ad 0)), (1, .int a1), (2, .int a2), (3, .int a3), (4, .int a4), (5, .int a5)]) [0, 1, 2, 3, 4, 5] rfl ?_
      exact wX4_bestHours_118 hJ C hk61 h
    · intro h
      refine x_iload C dX4_bestHours_111 6 rfl ?_
      refine x_istore (lv' := [(4, .int a6), (0, .ref (ad 0)), (1, .int a1), (2, .int a2), (3, .int a3), (5, .int a5), (6, .int a6), (7, .int a7)]) C dX4_bestHours_113 (by decide) rfl ?_
      refine x_iload C dX4_bestHours_115 5 rfl ?_
      refine x_istore_n (lv' := [(3, .int a5), (4, .int a6), (0, .ref (ad 0)), (1, .int a1), (2, .int a2), (5, .int a5), (6, .int a6), (7, .int a7)]) C dX4_bestHours_117 rfl (by decide) rfl ?_
      refine x_sub (lv' := [(0, .ref (ad 0)), (1, .int a1), (2, .int a2), (3, .int a5), (4, .int a6), (5, .int a5)]) [2, 3, 4, 0, 1, 5] rfl ?_
      exact wX4_bestHours_118 hJ C hk61 h
  · intro h
    refine x_iload C dX4_bestHours_80 6 rfl ?_
    refine x_aload_n C dX4_bestHours_82 rfl 0 rfl ?_
    refine fg_4_10 C 0 rfl rfl k_1_137 dX4_bestHours_83 ?_
    refine x_iload C dX4_bestHours_86 5 rfl ?_
    refine x_iload C dX4_bestHours_88 7 rfl ?_
    refine x_iadd C dX4_bestHours_90 ?_
    refine x_bipush (v := 10) C dX4_bestHours_91 bi_10 ?_
    refine x_irem_c C dX4_bestHours_93 (by decide) ?_
    refine x_iald C 19 0 rfl rfl dX4_bestHours_94 h ?_
    intro h
    refine x_iadd C dX4_bestHours_95 ?_
    refine x_istore_b C (fun v1 => [(6, .int v1), (0, .ref (ad 0)), (1, .int a1), (2, .int a2), (3, .int a3), (4, .int a4), (5, .int a5), (7, .int a7)]) dX4_bestHours_96 (by decide) h (fun _ => rfl) ?_
    intro v1 h
    refine x_iinc_b (j := 7) (w := 1) C (fun v2 => [(7, .int v2), (6, .int v1), (0, .ref (ad 0)), (1, .int a1), (2, .int a2), (3, .int a3), (4, .int a4), (5, .int a5)]) dX4_bestHours_98 ic_1 rfl (by decide) h (fun _ => rfl) ?_
    intro v2 h
    refine x_goto (tgt := 74) C dX4_bestHours_101 (by decide) ?_
    refine x_sub (lv' := [(0, .ref (ad 0)), (1, .int a1), (2, .int a2), (3, .int a3), (4, .int a4), (5, .int a5), (6, .int v1), (7, .int v2)]) [2, 3, 4, 5, 6, 7, 1, 0] rfl ?_
    exact hk74 _ _ h
set_option maxRecDepth 100000 in
set_option maxHeartbeats 4000000 in
theorem wX4_bestHours_61 (hJ : eInj 21 ad) (C : Cx p s m args meth c (dC, dI) (xW cI cZ ad) (xA ad) (ExX ad) [(cI, .int), (cZ, .boolean)] cX4_bestHours 8 RX4 (some .int) yX4_bestHours) {σ : eSt} {a1 : Int32} {a2 : Int32} {z : Int64} {r : Int32 × eSt} : ∀ (n : Nat) (a3 : Int32) (a4 : Int32) (a5 : Int32), lo_3 (bX4_bestHours_61 σ a1 a2) n a3 a4 a5 = some r → WX p l e rmX4_bestHours s m args below meth c (MQ below (cQ (dC, dI) (xW cI cZ ad) (xA ad) (some (.int r.1)) r.2 z) args s 0 0 (xA ad)) (dC, dI) (xW cI cZ ad) (xA ad) 8 σ z [(0, .ref (ad 0)), (1, .int a1), (2, .int a2), (3, .int a3), (4, .int a4), (5, .int a5)] 61 [] := by
  refine lo_3_ind (P := fun a3 a4 a5 => WX p l e rmX4_bestHours s m args below meth c (MQ below (cQ (dC, dI) (xW cI cZ ad) (xA ad) (some (.int r.1)) r.2 z) args s 0 0 (xA ad)) (dC, dI) (xW cI cZ ad) (xA ad) 8 σ z [(0, .ref (ad 0)), (1, .int a1), (2, .int a2), (3, .int a3), (4, .int a4), (5, .int a5)] 61 []) ?_
  intro k61 hk61 a3 a4 a5 h
  unfold bX4_bestHours_61 at h
  refine x_iload C dX4_bestHours_61 5 rfl ?_
  refine x_bipush (v := 10) C dX4_bestHours_63 bi_10 ?_
  refine x_icmp_ge (tgt := 124) C dX4_bestHours_65 (by decide) h ?_ ?_
  · intro h
    refine x_iload_n C dX4_bestHours_124 rfl 2 rfl ?_
    refine x_if_ne (tgt := 132) C dX4_bestHours_125 (by decide) h ?_ ?_
    · intro h
      refine x_iload C dX4_bestHours_132 4 rfl ?_
      exact xr_wi C h dX4_bestHours_134
    · intro h
      refine x_iload_n C dX4_bestHours_128 rfl 3 rfl ?_
      refine x_goto (tgt := 134) C dX4_bestHours_129 (by decide) ?_
      exact xr_wi C h dX4_bestHours_134
  · intro h
    refine x_iconst (v := 0) C dX4_bestHours_68 ic_0 ?_
    refine x_istore (lv' := [(6, .int 0), (0, .ref (ad 0)), (1, .int a1), (2, .int a2), (3, .int a3), (4, .int a4), (5, .int a5)]) C dX4_bestHours_69 (by decide) rfl ?_
    refine x_iconst (v := 0) C dX4_bestHours_71 ic_0 ?_
    refine x_istore (lv' := [(7, .int 0), (6, .int 0), (0, .ref (ad 0)), (1, .int a1), (2, .int a2), (3, .int a3), (4, .int a4), (5, .int a5)]) C dX4_bestHours_72 (by decide) rfl ?_
    refine x_sub (lv' := [(0, .ref (ad 0)), (1, .int a1), (2, .int a2), (3, .int a3), (4, .int a4), (5, .int a5), (6, .int 0), (7, .int 0)]) [2, 3, 4, 5, 6, 7, 1, 0] rfl ?_
    exact wX4_bestHours_74 hJ C hk61 _ _ _ h
set_option maxRecDepth 100000 in
set_option maxHeartbeats 4000000 in
theorem wX4_bestHours_23 (hJ : eInj 21 ad) (C : Cx p s m args meth c (dC, dI) (xW cI cZ ad) (xA ad) (ExX ad) [(cI, .int), (cZ, .boolean)] cX4_bestHours 8 RX4 (some .int) yX4_bestHours) {a1 : Int32} {a2 : Int32} {z : Int64} {r : Int32 × eSt} : ∀ (n : Nat) (a3 : Int32) (σ : eSt), lo_2 (bX4_bestHours_23 a1 a2) n a3 σ = some r → WX p l e rmX4_bestHours s m args below meth c (MQ below (cQ (dC, dI) (xW cI cZ ad) (xA ad) (some (.int r.1)) r.2 z) args s 0 0 (xA ad)) (dC, dI) (xW cI cZ ad) (xA ad) 8 σ z [(0, .ref (ad 0)), (1, .int a1), (2, .int a2), (3, .int a3)] 23 [] := by
  refine lo_2_ind (P := fun a3 σ => WX p l e rmX4_bestHours s m args below meth c (MQ below (cQ (dC, dI) (xW cI cZ ad) (xA ad) (some (.int r.1)) r.2 z) args s 0 0 (xA ad)) (dC, dI) (xW cI cZ ad) (xA ad) 8 σ z [(0, .ref (ad 0)), (1, .int a1), (2, .int a2), (3, .int a3)] 23 []) ?_
  intro k23 hk23 a3 σ h
  unfold bX4_bestHours_23 at h
  refine x_iload_n C dX4_bestHours_23 rfl 3 rfl ?_
  refine x_bipush (v := 10) C dX4_bestHours_24 bi_10 ?_
  refine x_icmp_ge (tgt := 53) C dX4_bestHours_26 (by decide) h ?_ ?_
  · intro h
    refine x_iconst (v := 0) C dX4_bestHours_53 ic_0 ?_
    refine x_istore_n (lv' := [(3, .int 0), (0, .ref (ad 0)), (1, .int a1), (2, .int a2)]) C dX4_bestHours_54 rfl (by decide) rfl ?_
    refine x_iconst (v := (-1)) C dX4_bestHours_55 ic_m1 ?_
    refine x_istore (lv' := [(4, .int (-1)), (3, .int 0), (0, .ref (ad 0)), (1, .int a1), (2, .int a2)]) C dX4_bestHours_56 (by decide) rfl ?_
    refine x_iconst (v := 0) C dX4_bestHours_58 ic_0 ?_
    refine x_istore (lv' := [(5, .int 0), (4, .int (-1)), (3, .int 0), (0, .ref (ad 0)), (1, .int a1), (2, .int a2)]) C dX4_bestHours_59 (by decide) rfl ?_
    refine x_sub (lv' := [(0, .ref (ad 0)), (1, .int a1), (2, .int a2), (3, .int 0), (4, .int (-1)), (5, .int 0)]) [3, 4, 5, 2, 1, 0] rfl ?_
    exact wX4_bestHours_61 hJ C _ _ _ _ h
  · intro h
    refine x_aload_n C dX4_bestHours_29 rfl 0 rfl ?_
    refine x_iload_n C dX4_bestHours_30 rfl 3 rfl ?_
    obtain ⟨σ1, hv, h⟩ := e_bind h
    refine x_callV_v C (ci := 4) 0 [.int a3] (tX4_fillSetsNow hJ hv) k_2_100 k_2_102 k_p_11 k_1_1 k_2_103 hyX4_fillSetsNow ⟨rfl, rfl⟩ (by decide) rfl rfl rfl rfl (Nat.le_of_ble_eq_true rfl) dX4_bestHours_31 ?_
    refine x_aload_n C dX4_bestHours_34 rfl 0 rfl ?_
    refine fg_4_10 C 0 rfl rfl k_1_137 dX4_bestHours_35 ?_
    refine x_iload_n C dX4_bestHours_38 rfl 3 rfl ?_
    refine x_aload_n C dX4_bestHours_39 rfl 0 rfl ?_
    refine x_sipush (v := 255) C dX4_bestHours_40 si_255 ?_
    obtain ⟨v2, hv, h⟩ := e_bind h
    refine x_callV_i C (ci := 4) 0 [.int 255] (tX4_sureCount hJ hv) k_2_131 k_2_133 k_p_15 k_1_1 k_2_134 hyX4_sureCount ⟨rfl, rfl⟩ (by decide) rfl rfl rfl rfl (Nat.le_of_ble_eq_true rfl) dX4_bestHours_43 ?_
    refine x_iast C 19 0 rfl rfl dX4_bestHours_46 h rfl ?_
    intro σ3 h
    refine x_iinc_b (j := 3) (w := 1) C (fun v4 => [(3, .int v4), (0, .ref (ad 0)), (1, .int a1), (2, .int a2)]) dX4_bestHours_47 ic_1 rfl (by decide) h (fun _ => rfl) ?_
    intro v4 h
    refine x_goto (tgt := 23) C dX4_bestHours_50 (by decide) ?_
    refine x_sub (lv' := [(0, .ref (ad 0)), (1, .int a1), (2, .int a2), (3, .int v4)]) [1, 2, 3, 0] rfl ?_
    exact hk23 _ _ h
set_option maxRecDepth 100000 in
set_option maxHeartbeats 4000000 in
theorem wX4_bestHours_0 (hJ : eInj 21 ad) (C : Cx p s m args meth c (dC, dI) (xW cI cZ ad) (xA ad) (ExX ad) [(cI, .int), (cZ, .boolean)] cX4_bestHours 8 RX4 (some .int) yX4_bestHours) {σ : eSt} {a1 : Int32} {a2 : Int32} {z : Int64} {r : Int32 × eSt} (h : fX4_bestHours σ a1 a2 = some r) : WX p l e rmX4_bestHours s m args below meth c (MQ below (cQ (dC, dI) (xW cI cZ ad) (xA ad) (some (.int r.1)) r.2 z) args s 0 0 (xA ad)) (dC, dI) (xW cI cZ ad) (xA ad) 8 σ z [(0, .ref (ad 0)), (1, .int a1), (2, .int a2)] 0 [] := by
  unfold fX4_bestHours at h
  refine x_iload_n C dX4_bestHours_0 rfl 1 rfl ?_
  refine x_iconst (v := 1) C dX4_bestHours_1 ic_1 ?_
  refine x_icmp_lt (tgt := 18) C dX4_bestHours_2 (by decide) h ?_ ?_
  · intro h
    refine x_bipush (v := (-2)) C dX4_bestHours_18 bi_m2 ?_
    exact xr_wi C h dX4_bestHours_20
  · intro h
    refine x_iload_n C dX4_bestHours_5 rfl 1 rfl ?_
    refine x_bipush (v := 10) C dX4_bestHours_6 bi_10 ?_
    refine x_icmp_gt (tgt := 18) C dX4_bestHours_8 (by decide) h ?_ ?_
    · intro h
      refine x_bipush (v := (-2)) C dX4_bestHours_18 bi_m2 ?_
      exact xr_wi C h dX4_bestHours_20
    · intro h
      refine x_iload_n C dX4_bestHours_11 rfl 2 rfl ?_
      obtain ⟨v1, hv, h⟩ := e_bind h
      refine x_callS_i C [.int a2] (tX4_isFirstOrSecond hJ hv) k_2_159 k_2_160 k_1_1 k_2_161 hyX4_isFirstOrSecond.2 ⟨rfl, rfl⟩ (by decide) rfl rfl (Nat.le_of_ble_eq_true rfl) dX4_bestHours_12 ?_
      refine x_if_ne (tgt := 21) C dX4_bestHours_15 (by decide) h ?_ ?_
      · intro h
        refine x_iconst (v := 0) C dX4_bestHours_21 ic_0 ?_
        refine x_istore_n (lv' := [(3, .int 0), (0, .ref (ad 0)), (1, .int a1), (2, .int a2)]) C dX4_bestHours_22 rfl (by decide) rfl ?_
        refine x_sub (lv' := [(0, .ref (ad 0)), (1, .int a1), (2, .int a2), (3, .int 0)]) [1, 2, 3, 0] rfl ?_
        exact wX4_bestHours_23 hJ C _ _ _ h
      · intro h
        refine x_bipush (v := (-2)) C dX4_bestHours_18 bi_m2 ?_
        exact xr_wi C h dX4_bestHours_20
set_option maxRecDepth 100000 in
set_option maxHeartbeats 4000000 in
theorem tX4_bestHours {l : Launch} {dC : Nat → ClassId} {dI : Nat → Nat → Nat} {cI cZ : ClassId} {ad : Nat → Nat} (hJ : eInj 21 ad) {σ : eSt} {a1 : Int32} {a2 : Int32} {z : Int64} {r : Int32 × eSt} (h : fX4_bestHours σ a1 a2 = some r) : Con l yX4_bestHours cX4_bestHours 8 (some .int) rmX4_bestHours (dC, dI) (xW cI cZ ad) (xA ad) [(cI, .int), (cZ, .boolean)] (ExX ad) [.ref (ad 0), .int a1, .int a2] σ z (some (.int r.1)) r.2 z :=
  x_con (by decide) (xW_D hJ) (ExX_ok ad) (Nat.le_of_ble_eq_true rfl) (fun p e s m args below meth c C => wX4_bestHours_0 hJ C h)
set_option maxRecDepth 100000 in
set_option maxHeartbeats 4000000 in
theorem wX4_grounded_138 (hJ : eInj 21 ad) (C : Cx p s m args meth c (dC, dI) (xW cI cZ ad) (xA ad) (ExX ad) [(cI, .int), (cZ, .boolean)] cX4_grounded 10 RX4 (some .int) yX4_grounded) {σ : eSt} {a2 : Int32} {a5 : Int32} {a8 : Int32} {a9 : Int32} {z : Int64} {r : Int32} {k96 : Int32 → Int32 → Option (Int32)} (hk96 : ∀ (a8 : Int32) (a9 : Int32), k96 a8 a9 = some r → WX p l e rmX4_grounded s m args below meth c (MQ below (cQ (dC, dI) (xW cI cZ ad) (xA ad) (some (.int r)) σ z) args s 0 0 (xA ad)) (dC, dI) (xW cI cZ ad) (xA ad) 10 σ z [(0, .ref (ad 0)), (2, .int a2), (5, .int a5), (8, .int a8), (9, .int a9)] 96 []) (h : fX4_grounded_138 k96 σ a2 a5 a8 a9 = some r) : WX p l e rmX4_grounded s m args below meth c (MQ below (cQ (dC, dI) (xW cI cZ ad) (xA ad) (some (.int r)) σ z) args s 0 0 (xA ad)) (dC, dI) (xW cI cZ ad) (xA ad) 10 σ z [(0, .ref (ad 0)), (2, .int a2), (5, .int a5), (8, .int a8), (9, .int a9)] 138 [] := by
  unfold fX4_grounded_138 at h
  refine x_iinc_b (j := 4) (w := 1) C (fun v1 => [(9, .int v1), (0, .ref (ad 0)), (2, .int a2), (5, .int a5), (8, .int a8)]) dX4_grounded_138 ic_1 rfl (by decide) h (fun _ => rfl) ?_
  intro v1 h
  refine x_goto (tgt := 96) C dX4_grounded_141 (by decide) ?_
  refine x_sub (lv' := [(0, .ref (ad 0)), (2, .int a2), (5, .int a5), (8, .int a8), (9, .int v1)]) [1, 2, 3, 4, 0] rfl ?_
  exact hk96 _ _ h
set_option maxRecDepth 100000 in
set_option maxHeartbeats 4000000 in
theorem wX4_grounded_96 (hJ : eInj 21 ad) (C : Cx p s m args meth c (dC, dI) (xW cI cZ ad) (xA ad) (ExX ad) [(cI, .int), (cZ, .boolean)] cX4_grounded 10 RX4 (some .int) yX4_grounded) {σ : eSt} {a2 : Int32} {a5 : Int32} {z : Int64} {r : Int32} : ∀ (n : Nat) (a8 : Int32) (a9 : Int32), lo_2 (bX4_grounded_96 σ a2 a5) n a8 a9 = some r → WX p l e rmX4_grounded s m args below meth c (MQ below (cQ (dC, dI) (xW cI cZ ad) (xA ad) (some (.int r)) σ z) args s 0 0 (xA ad)) (dC, dI) (xW cI cZ ad) (xA ad) 10 σ z [(0, .ref (ad 0)), (2, .int a2), (5, .int a5), (8, .int a8), (9, .int a9)] 96 [] := by
  refine lo_2_ind (P := fun a8 a9 => WX p l e rmX4_grounded s m args below meth c (MQ below (cQ (dC, dI) (xW cI cZ ad) (xA ad) (some (.int r)) σ z) args s 0 0 (xA ad)) (dC, dI) (xW cI cZ ad) (xA ad) 10 σ z [(0, .ref (ad 0)), (2, .int a2), (5, .int a5), (8, .int a8), (9, .int a9)] 96 []) ?_
  intro k96 hk96 a8 a9 h
  unfold bX4_grounded_96 at h
  refine x_iload C dX4_grounded_96 4 rfl ?_
  refine x_bipush (v := 10) C dX4_grounded_98 bi_10 ?_
  refine x_icmp_ge (tgt := 144) C dX4_grounded_100 (by decide) h ?_ ?_
  · intro h
    refine x_iload C dX4_grounded_144 3 rfl ?_
    exact xr_i C h dX4_grounded_146
  · intro h
    refine x_iconst (v := 0) C dX4_grounded_103 ic_0 ?_
    refine x_iload C dX4_grounded_104 2 rfl ?_
    refine x_iload C dX4_grounded_106 4 rfl ?_
    refine x_iload_n C dX4_grounded_108 rfl 1 rfl ?_
    refine x_aload_n C dX4_grounded_109 rfl 0 rfl ?_
    refine fg_4_2 C 0 rfl rfl k_1_129 dX4_grounded_110 ?_
    refine fg_0_5 C 9 rfl rfl k_1_81 dX4_grounded_113 ?_
    refine x_aload_n C dX4_grounded_116 rfl 0 rfl ?_
    refine fg_4_2 C 0 rfl rfl k_1_129 dX4_grounded_117 ?_
    refine fg_0_6 C 9 rfl rfl k_1_83 dX4_grounded_120 ?_
    obtain ⟨v1, hv, h⟩ := e_bind h
    refine x_callS_i C [.int 0, .int a5, .int a9, .int a2, .int (σ 9 5), .int (σ 9 6)] (tX4_reaches hJ hv) k_2_53 k_2_17 k_1_1 k_2_18 hyX4_reaches.2 ⟨rfl, rfl⟩ (by decide) rfl rfl (Nat.le_of_ble_eq_true rfl) dX4_grounded_123 ?_
    refine x_if_eq (tgt := 138) C dX4_grounded_126 (by decide) h ?_ ?_
    · intro h
      exact wX4_grounded_138 hJ C hk96 h
    · intro h
      refine x_iload C dX4_grounded_129 3 rfl ?_
      refine x_iconst (v := 1) C dX4_grounded_131 ic_1 ?_
      refine x_iload C dX4_grounded_132 4 rfl ?_
      refine x_ishl C dX4_grounded_134 ?_
      refine x_ior C dX4_grounded_135 ?_
      refine x_istore_b C (fun v2 => [(8, .int v2), (0, .ref (ad 0)), (2, .int a2), (5, .int a5), (9, .int a9)]) dX4_grounded_136 (by decide) h (fun _ => rfl) ?_
      intro v2 h
      refine x_sub (lv' := [(0, .ref (ad 0)), (2, .int a2), (5, .int a5), (8, .int v2), (9, .int a9)]) [1, 2, 3, 0, 4] rfl ?_
      exact wX4_grounded_138 hJ C hk96 h
set_option maxRecDepth 100000 in
set_option maxHeartbeats 4000000 in
theorem wX4_grounded_0 (hJ : eInj 21 ad) (C : Cx p s m args meth c (dC, dI) (xW cI cZ ad) (xA ad) (ExX ad) [(cI, .int), (cZ, .boolean)] cX4_grounded 10 RX4 (some .int) yX4_grounded) {σ : eSt} {a1 : Int32} {a2 : Int32} {a3 : Int32} {a4 : Int32} {a5 : Int32} {z : Int64} {r : Int32} (h : fX4_grounded σ a1 a2 a3 a4 a5 = some r) : WX p l e rmX4_grounded s m args below meth c (MQ below (cQ (dC, dI) (xW cI cZ ad) (xA ad) (some (.int r)) σ z) args s 0 0 (xA ad)) (dC, dI) (xW cI cZ ad) (xA ad) 10 σ z [(0, .ref (ad 0)), (1, .int a1), (2, .int a2), (3, .int a3), (4, .int a4), (5, .int a5)] 0 [] := by
  unfold fX4_grounded at h
  refine x_aload_n C dX4_grounded_0 rfl 0 rfl ?_
  refine fg_4_1 C 0 rfl rfl k_1_128 dX4_grounded_1 ?_
  refine x_iload_n C dX4_grounded_4 rfl 1 rfl ?_
  obtain ⟨v1, hv, h⟩ := e_bind h
  refine x_callV_i C (ci := 2) 3 [.int a1] (tX2_has hJ hv) k_1_239 k_2_0 k_2_1 k_1_3 k_2_2 hyX2_has ⟨rfl, rfl⟩ (by decide) rfl rfl rfl rfl (Nat.le_of_ble_eq_true rfl) dX4_grounded_5 ?_
  refine x_if_ne (tgt := 13) C dX4_grounded_8 (by decide) h ?_ ?_
  · intro h
    refine x_iload_n C dX4_grounded_13 rfl 2 rfl ?_
    obtain ⟨v2, hv, h⟩ := e_bind h
    refine x_callS_i C [.int a2] (tX4_isCell hJ hv) k_2_26 k_2_27 k_1_1 k_2_28 hyX4_isCell.2 ⟨rfl, rfl⟩ (by decide) rfl rfl (Nat.le_of_ble_eq_true rfl) dX4_grounded_14 ?_
    refine x_if_eq (tgt := 48) C dX4_grounded_17 (by decide) h ?_ ?_
    · intro h
      refine x_bipush (v := (-2)) C dX4_grounded_48 bi_m2 ?_
      exact xr_i C h dX4_grounded_50
    · intro h
      refine x_iload_n C dX4_grounded_20 rfl 3 rfl ?_
      obtain ⟨v3, hv, h⟩ := e_bind h
      refine x_callS_i C [.int a3] (tX4_isCell hJ hv) k_2_26 k_2_27 k_1_1 k_2_28 hyX4_isCell.2 ⟨rfl, rfl⟩ (by decide) rfl rfl (Nat.le_of_ble_eq_true rfl) dX4_grounded_21 ?_
      refine x_if_eq (tgt := 48) C dX4_grounded_24 (by decide) h ?_ ?_
      · intro h
        refine x_bipush (v := (-2)) C dX4_grounded_48 bi_m2 ?_
        exact xr_i C h dX4_grounded_50
      · intro h
        refine x_iload C dX4_grounded_27 4 rfl ?_
        obtain ⟨v4, hv, h⟩ := e_bind h
        refine x_callS_i C [.int a4] (tX4_isHour hJ hv) k_2_93 k_2_94 k_1_1 k_2_95 hyX4_isHour.2 ⟨rfl, rfl⟩ (by decide) rfl rfl (Nat.le_of_ble_eq_true rfl) dX4_grounded_29 ?_
        refine x_if_eq (tgt := 48) C dX4_grounded_32 (by decide) h ?_ ?_
        · intro h
          refine x_bipush (v := (-2)) C dX4_grounded_48 bi_m2 ?_
          exact xr_i C h dX4_grounded_50
        · intro h
          refine x_iload C dX4_grounded_35 5 rfl ?_
          refine x_iconst (v := 1) C dX4_grounded_37 ic_1 ?_
          refine x_icmp_lt (tgt := 48) C dX4_grounded_38 (by decide) h ?_ ?_
          · intro h
            refine x_bipush (v := (-2)) C dX4_grounded_48 bi_m2 ?_
            exact xr_i C h dX4_grounded_50
          · intro h
            refine x_iload C dX4_grounded_41 5 rfl ?_
            refine x_bipush (v := 9) C dX4_grounded_43 bi_9 ?_
            refine x_icmp_le (tgt := 51) C dX4_grounded_45 (by decide) h ?_ ?_
            · intro h
              refine x_iconst (v := 1) C dX4_grounded_51 ic_1 ?_
              refine x_iload_n C dX4_grounded_52 rfl 1 rfl ?_
              refine x_ishl C dX4_grounded_53 ?_
              refine x_istore_b C (fun v5 => [(6, .int v5), (0, .ref (ad 0)), (1, .int a1), (2, .int a2), (3, .int a3), (4, .int a4), (5, .int a5)]) dX4_grounded_54 (by decide) h (fun _ => rfl) ?_
              intro v5 h
              refine x_aload_n C dX4_grounded_56 rfl 1 rfl ?_
              refine x_iload_n C dX4_grounded_57 rfl 3 rfl ?_
              refine x_iload C dX4_grounded_58 5 rfl ?_
              obtain ⟨v6, hv, h⟩ := e_bind h
              refine x_callV_i C (ci := 4) 0 [.int a2, .int a4] (tX4_setNow hJ hv) k_2_37 k_2_39 k_p_7 k_1_1 k_2_40 hyX4_setNow ⟨rfl, rfl⟩ (by decide) rfl rfl rfl rfl (Nat.le_of_ble_eq_true rfl) dX4_grounded_60 ?_
              refine x_istore (lv' := [(7, .int v6), (6, .int v5), (0, .ref (ad 0)), (1, .int a1), (2, .int a2), (3, .int a3), (4, .int a4), (5, .int a5)]) C dX4_grounded_63 (by decide) rfl ?_
              refine x_iload C dX4_grounded_65 0 rfl ?_
              refine x_iload C dX4_grounded_67 1 rfl ?_
              refine x_iand C dX4_grounded_69 ?_
              refine x_if_ne (tgt := 88) C dX4_grounded_70 (by decide) h ?_ ?_
              · intro h
                refine x_iconst (v := 0) C dX4_grounded_88 ic_0 ?_
                exact xr_i C h dX4_grounded_89
              · intro h
                refine x_iload C dX4_grounded_73 0 rfl ?_
                refine x_iload C dX4_grounded_75 1 rfl ?_
                refine x_ior C dX4_grounded_77 ?_
                refine x_aload_n C dX4_grounded_78 rfl 2 rfl ?_
                refine x_iload_n C dX4_grounded_79 rfl 5 rfl ?_
                refine x_iload C dX4_grounded_80 6 rfl ?_
                obtain ⟨v7, hv, h⟩ := e_bind h
                refine x_callV_i C (ci := 4) 0 [.int a3, .int a4] (tX4_setNow hJ hv) k_2_37 k_2_39 k_p_7 k_1_1 k_2_40 hyX4_setNow ⟨rfl, rfl⟩ (by decide) rfl rfl rfl rfl (Nat.le_of_ble_eq_true rfl) dX4_grounded_82 ?_
                refine x_icmp_eq (tgt := 90) C dX4_grounded_85 (by decide) h ?_ ?_
                · intro h
                  refine x_iconst (v := 0) C dX4_grounded_90 ic_0 ?_
                  refine x_istore (lv' := [(8, .int 0), (7, .int v6), (6, .int v5), (0, .ref (ad 0)), (1, .int a1), (2, .int a2), (3, .int a3), (4, .int a4), (5, .int a5)]) C dX4_grounded_91 (by decide) rfl ?_
                  refine x_iconst (v := 0) C dX4_grounded_93 ic_0 ?_
                  refine x_istore (lv' := [(9, .int 0), (8, .int 0), (7, .int v6), (6, .int v5), (0, .ref (ad 0)), (1, .int a1), (2, .int a2), (3, .int a3), (4, .int a4), (5, .int a5)]) C dX4_grounded_94 (by decide) rfl ?_
                  refine x_sub (lv' := [(0, .ref (ad 0)), (2, .int a2), (5, .int a5), (8, .int 0), (9, .int 0)]) [4, 6, 9, 1, 0] rfl ?_
                  exact wX4_grounded_96 hJ C _ _ _ h
                · intro h
                  refine x_iconst (v := 0) C dX4_grounded_88 ic_0 ?_
                  exact xr_i C h dX4_grounded_89
            · intro h
              refine x_bipush (v := (-2)) C dX4_grounded_48 bi_m2 ?_
              exact xr_i C h dX4_grounded_50
  · intro h
    refine x_iconst (v := (-1)) C dX4_grounded_11 ic_m1 ?_
    exact xr_i C h dX4_grounded_12
set_option maxRecDepth 100000 in
set_option maxHeartbeats 4000000 in
theorem tX4_grounded {l : Launch} {dC : Nat → ClassId} {dI : Nat → Nat → Nat} {cI cZ : ClassId} {ad : Nat → Nat} (hJ : eInj 21 ad) {σ : eSt} {a1 : Int32} {a2 : Int32} {a3 : Int32} {a4 : Int32} {a5 : Int32} {z : Int64} {r : Int32} (h : fX4_grounded σ a1 a2 a3 a4 a5 = some r) : Con l yX4_grounded cX4_grounded 10 (some .int) rmX4_grounded (dC, dI) (xW cI cZ ad) (xA ad) [(cI, .int), (cZ, .boolean)] (ExX ad) [.ref (ad 0), .int a1, .int a2, .int a3, .int a4, .int a5] σ z (some (.int r)) σ z :=
  x_con (by decide) (xW_D hJ) (ExX_ok ad) (Nat.le_of_ble_eq_true rfl) (fun p e s m args below meth c C => wX4_grounded_0 hJ C h)
set_option maxRecDepth 100000 in
set_option maxHeartbeats 4000000 in
theorem wX4_see_0 (hJ : eInj 21 ad) (C : Cx p s m args meth c (dC, dI) (xW cI cZ ad) (xA ad) (ExX ad) [(cI, .int), (cZ, .boolean)] cX4_see 5 RX4 (some .int) yX4_see) {σ : eSt} {a1 : Int32} {a2 : Int32} {a3 : Int32} {a4 : Int32} {z : Int64} {r : Int32 × eSt} (h : fX4_see σ a1 a2 a3 a4 = some r) : WX p l e rmX4_see s m args below meth c (MQ below (cQ (dC, dI) (xW cI cZ ad) (xA ad) (some (.int r.1)) r.2 z) args s 0 0 (xA ad)) (dC, dI) (xW cI cZ ad) (xA ad) 5 σ z [(0, .ref (ad 0)), (1, .int a1), (2, .int a2), (3, .int a3), (4, .int a4)] 0 [] := by
  unfold fX4_see at h
  refine x_aload_n C dX4_see_0 rfl 0 rfl ?_
  refine fg_4_1 C 0 rfl rfl k_1_128 dX4_see_1 ?_
  refine x_iload_n C dX4_see_4 rfl 1 rfl ?_
  obtain ⟨v1, hv, h⟩ := e_bind h
  refine x_callV_i C (ci := 2) 3 [.int a1] (tX2_has hJ hv) k_1_239 k_2_0 k_2_1 k_1_3 k_2_2 hyX2_has ⟨rfl, rfl⟩ (by decide) rfl rfl rfl rfl (Nat.le_of_ble_eq_true rfl) dX4_see_5 ?_
  refine x_if_ne (tgt := 13) C dX4_see_8 (by decide) h ?_ ?_
  · intro h
    refine x_iload_n C dX4_see_13 rfl 2 rfl ?_
    obtain ⟨v2, hv, h⟩ := e_bind h
    refine x_callS_i C [.int a2] (tX4_isCell hJ hv) k_2_26 k_2_27 k_1_1 k_2_28 hyX4_isCell.2 ⟨rfl, rfl⟩ (by decide) rfl rfl (Nat.le_of_ble_eq_true rfl) dX4_see_14 ?_
    refine x_if_eq (tgt := 27) C dX4_see_17 (by decide) h ?_ ?_
    · intro h
      refine x_bipush (v := (-2)) C dX4_see_27 bi_m2 ?_
      exact xr_wi C h dX4_see_29
    · intro h
      refine x_iload_n C dX4_see_20 rfl 3 rfl ?_
      obtain ⟨v3, hv, h⟩ := e_bind h
      refine x_callS_i C [.int a3] (tX4_isHour hJ hv) k_2_93 k_2_94 k_1_1 k_2_95 hyX4_isHour.2 ⟨rfl, rfl⟩ (by decide) rfl rfl (Nat.le_of_ble_eq_true rfl) dX4_see_21 ?_
      refine x_if_ne (tgt := 30) C dX4_see_24 (by decide) h ?_ ?_
      · intro h
        refine x_aload_n C dX4_see_30 rfl 0 rfl ?_
        refine fg_4_3 C 0 rfl rfl k_1_130 dX4_see_31 ?_
        refine fg_1_4 C 10 rfl rfl k_1_114 dX4_see_34 ?_
        refine x_bipush (v := 6) C dX4_see_37 bi_6 ?_
        refine x_icmp_lt (tgt := 45) C dX4_see_39 (by decide) h ?_ ?_
        · intro h
          refine x_aload_n C dX4_see_45 rfl 0 rfl ?_
          refine fg_4_3 C 0 rfl rfl k_1_130 dX4_see_46 ?_
          refine x_iload_n C dX4_see_49 rfl 1 rfl ?_
          refine x_iload_n C dX4_see_50 rfl 2 rfl ?_
          refine x_iload_n C dX4_see_51 rfl 3 rfl ?_
          refine x_iload C dX4_see_52 4 rfl ?_
          obtain ⟨σ4, hv, h⟩ := e_bind h
          refine x_callV_v C (ci := 1) 10 [.int a1, .int a2, .int a3, .int a4] (tX1_add hJ hv) k_2_182 k_2_183 k_2_184 k_1_5 k_2_185 hyX1_add ⟨rfl, rfl⟩ (by decide) rfl rfl rfl rfl (Nat.le_of_ble_eq_true rfl) dX4_see_54 ?_
          refine x_aload_n C dX4_see_57 rfl 0 rfl ?_
          refine fg_4_3 C 0 rfl rfl k_1_130 dX4_see_58 ?_
          refine fg_1_4 C 10 rfl rfl k_1_114 dX4_see_61 ?_
          exact xr_wi C h dX4_see_64
        · intro h
          refine x_bipush (v := (-4)) C dX4_see_42 bi_m4 ?_
          exact xr_wi C h dX4_see_44
      · intro h
        refine x_bipush (v := (-2)) C dX4_see_27 bi_m2 ?_
        exact xr_wi C h dX4_see_29
  · intro h
    refine x_iconst (v := (-1)) C dX4_see_11 ic_m1 ?_
    exact xr_wi C h dX4_see_12
set_option maxRecDepth 100000 in
set_option maxHeartbeats 4000000 in
theorem tX4_see {l : Launch} {dC : Nat → ClassId} {dI : Nat → Nat → Nat} {cI cZ : ClassId} {ad : Nat → Nat} (hJ : eInj 21 ad) {σ : eSt} {a1 : Int32} {a2 : Int32} {a3 : Int32} {a4 : Int32} {z : Int64} {r : Int32 × eSt} (h : fX4_see σ a1 a2 a3 a4 = some r) : Con l yX4_see cX4_see 5 (some .int) rmX4_see (dC, dI) (xW cI cZ ad) (xA ad) [(cI, .int), (cZ, .boolean)] (ExX ad) [.ref (ad 0), .int a1, .int a2, .int a3, .int a4] σ z (some (.int r.1)) r.2 z :=
  x_con (by decide) (xW_D hJ) (ExX_ok ad) (Nat.le_of_ble_eq_true rfl) (fun p e s m args below meth c C => wX4_see_0 hJ C h)
set_option maxRecDepth 100000 in
set_option maxHeartbeats 4000000 in
theorem wX4_unsee_0 (hJ : eInj 21 ad) (C : Cx p s m args meth c (dC, dI) (xW cI cZ ad) (xA ad) (ExX ad) [(cI, .int), (cZ, .boolean)] cX4_unsee 2 RX4 (some .int) yX4_unsee) {σ : eSt} {z : Int64} {r : Int32 × eSt} (h : fX4_unsee σ = some r) : WX p l e rmX4_unsee s m args below meth c (MQ below (cQ (dC, dI) (xW cI cZ ad) (xA ad) (some (.int r.1)) r.2 z) args s 0 0 (xA ad)) (dC, dI) (xW cI cZ ad) (xA ad) 2 σ z [(0, .ref (ad 0))] 0 [] := by
  unfold fX4_unsee at h
  refine x_aload_n C dX4_unsee_0 rfl 0 rfl ?_
  refine fg_4_3 C 0 rfl rfl k_1_130 dX4_unsee_1 ?_
  refine fg_1_4 C 10 rfl rfl k_1_114 dX4_unsee_4 ?_
  refine x_istore_n_b C (fun v1 => [(1, .int v1), (0, .ref (ad 0))]) dX4_unsee_7 rfl (by decide) h (fun _ => rfl) ?_
  intro v1 h
  refine x_aload_n C dX4_unsee_8 rfl 1 rfl ?_
  refine fg_4_3 C 0 rfl rfl k_1_130 dX4_unsee_9 ?_
  refine x_iconst (v := 0) C dX4_unsee_12 ic_0 ?_
  refine fp_1_4 C 10 rfl (Nat.le_of_ble_eq_true rfl) k_1_114 h rfl dX4_unsee_13 ?_
  intro σ2 h
  refine x_iload_n C dX4_unsee_16 rfl 0 rfl ?_
  exact xr_wi C h dX4_unsee_17
set_option maxRecDepth 100000 in
set_option maxHeartbeats 4000000 in
theorem tX4_unsee {l : Launch} {dC : Nat → ClassId} {dI : Nat → Nat → Nat} {cI cZ : ClassId} {ad : Nat → Nat} (hJ : eInj 21 ad) {σ : eSt} {z : Int64} {r : Int32 × eSt} (h : fX4_unsee σ = some r) : Con l yX4_unsee cX4_unsee 2 (some .int) rmX4_unsee (dC, dI) (xW cI cZ ad) (xA ad) [(cI, .int), (cZ, .boolean)] (ExX ad) [.ref (ad 0)] σ z (some (.int r.1)) r.2 z :=
  x_con (by decide) (xW_D hJ) (ExX_ok ad) (Nat.le_of_ble_eq_true rfl) (fun p e s m args below meth c C => wX4_unsee_0 hJ C h)
set_option maxRecDepth 100000 in
set_option maxHeartbeats 4000000 in
theorem wX4_agreesWithSeen_79 (hJ : eInj 21 ad) (C : Cx p s m args meth c (dC, dI) (xW cI cZ ad) (xA ad) (ExX ad) [(cI, .int), (cZ, .boolean)] cX4_agreesWithSeen 4 RX4 (some .boolean) yX4_agreesWithSeen) {σ : eSt} {a1 : Int32} {a2 : Int32} {a3 : Int32} {z : Int64} {r : Int32} {k2 : Int32 → Option (Int32)} (hk2 : ∀ (a3 : Int32), k2 a3 = some r → WX p l e rmX4_agreesWithSeen s m args below meth c (MQ below (cQ (dC, dI) (xW cI cZ ad) (xA ad) (some (.int r)) σ z) args s 0 0 (xA ad)) (dC, dI) (xW cI cZ ad) (xA ad) 4 σ z [(0, .ref (ad 0)), (1, .int a1), (2, .int a2), (3, .int a3)] 2 []) (h : fX4_agreesWithSeen_79 k2 σ a1 a2 a3 = some r) : WX p l e rmX4_agreesWithSeen s m args below meth c (MQ below (cQ (dC, dI) (xW cI cZ ad) (xA ad) (some (.int r)) σ z) args s 0 0 (xA ad)) (dC, dI) (xW cI cZ ad) (xA ad) 4 σ z [(0, .ref (ad 0)), (1, .int a1), (2, .int a2), (3, .int a3)] 79 [] := by
  unfold fX4_agreesWithSeen_79 at h
  refine x_iinc_b (j := 3) (w := 1) C (fun v1 => [(3, .int v1), (0, .ref (ad 0)), (1, .int a1), (2, .int a2)]) dX4_agreesWithSeen_79 ic_1 rfl (by decide) h (fun _ => rfl) ?_
  intro v1 h
  refine x_goto (tgt := 2) C dX4_agreesWithSeen_82 (by decide) ?_
  refine x_sub (lv' := [(0, .ref (ad 0)), (1, .int a1), (2, .int a2), (3, .int v1)]) [1, 2, 3, 0] rfl ?_
  exact hk2 _ h
set_option maxRecDepth 100000 in
set_option maxHeartbeats 4000000 in
theorem wX4_agreesWithSeen_2 (hJ : eInj 21 ad) (C : Cx p s m args meth c (dC, dI) (xW cI cZ ad) (xA ad) (ExX ad) [(cI, .int), (cZ, .boolean)] cX4_agreesWithSeen 4 RX4 (some .boolean) yX4_agreesWithSeen) {σ : eSt} {a1 : Int32} {a2 : Int32} {z : Int64} {r : Int32} : ∀ (n : Nat) (a3 : Int32), lo_1 (bX4_agreesWithSeen_2 σ a1 a2) n a3 = some r → WX p l e rmX4_agreesWithSeen s m args below meth c (MQ below (cQ (dC, dI) (xW cI cZ ad) (xA ad) (some (.int r)) σ z) args s 0 0 (xA ad)) (dC, dI) (xW cI cZ ad) (xA ad) 4 σ z [(0, .ref (ad 0)), (1, .int a1), (2, .int a2), (3, .int a3)] 2 [] := by
  refine lo_1_ind (P := fun a3 => WX p l e rmX4_agreesWithSeen s m args below meth c (MQ below (cQ (dC, dI) (xW cI cZ ad) (xA ad) (some (.int r)) σ z) args s 0 0 (xA ad)) (dC, dI) (xW cI cZ ad) (xA ad) 4 σ z [(0, .ref (ad 0)), (1, .int a1), (2, .int a2), (3, .int a3)] 2 []) ?_
  intro k2 hk2 a3 h
  unfold bX4_agreesWithSeen_2 at h
  refine x_iload_n C dX4_agreesWithSeen_2 rfl 3 rfl ?_
  refine x_aload_n C dX4_agreesWithSeen_3 rfl 0 rfl ?_
  refine fg_4_3 C 0 rfl rfl k_1_130 dX4_agreesWithSeen_4 ?_
  refine fg_1_4 C 10 rfl rfl k_1_114 dX4_agreesWithSeen_7 ?_
  refine x_icmp_ge (tgt := 85) C dX4_agreesWithSeen_10 (by decide) h ?_ ?_
  · intro h
    refine x_iconst (v := 1) C dX4_agreesWithSeen_85 ic_1 ?_
    exact xr_z C h dX4_agreesWithSeen_86
  · intro h
    refine x_aload_n C dX4_agreesWithSeen_13 rfl 0 rfl ?_
    refine fg_4_1 C 0 rfl rfl k_1_128 dX4_agreesWithSeen_14 ?_
    refine x_aload_n C dX4_agreesWithSeen_17 rfl 0 rfl ?_
    refine fg_4_3 C 0 rfl rfl k_1_130 dX4_agreesWithSeen_18 ?_
    refine fg_1_0 C 10 rfl rfl k_1_106 dX4_agreesWithSeen_21 ?_
    refine x_iload_n C dX4_agreesWithSeen_24 rfl 3 rfl ?_
    refine x_iald C 11 0 rfl rfl dX4_agreesWithSeen_25 h ?_
    intro h
    obtain ⟨v1, hv, h⟩ := e_bind h
    refine x_callV_i C (ci := 2) 3 [.int (σ 11 a3.toNatClampNeg)] (tX2_has hJ hv) k_1_239 k_2_0 k_2_1 k_1_3 k_2_2 hyX2_has ⟨rfl, rfl⟩ (by decide) rfl rfl rfl rfl (Nat.le_of_ble_eq_true rfl) dX4_agreesWithSeen_26 ?_
    refine x_if_eq (tgt := 79) C dX4_agreesWithSeen_29 (by decide) h ?_ ?_
    · intro h
      exact wX4_agreesWithSeen_79 hJ C hk2 h
    · intro h
      refine x_aload_n C dX4_agreesWithSeen_32 rfl 0 rfl ?_
      refine x_aload_n C dX4_agreesWithSeen_33 rfl 0 rfl ?_
      refine fg_4_3 C 0 rfl rfl k_1_130 dX4_agreesWithSeen_34 ?_
      refine fg_1_0 C 10 rfl rfl k_1_106 dX4_agreesWithSeen_37 ?_
      refine x_iload_n C dX4_agreesWithSeen_40 rfl 3 rfl ?_
      refine x_iald C 11 0 rfl rfl dX4_agreesWithSeen_41 h ?_
      intro h
      refine x_aload_n C dX4_agreesWithSeen_42 rfl 0 rfl ?_
      refine fg_4_3 C 0 rfl rfl k_1_130 dX4_agreesWithSeen_43 ?_
      refine fg_1_1 C 10 rfl rfl k_1_108 dX4_agreesWithSeen_46 ?_
      refine x_iload_n C dX4_agreesWithSeen_49 rfl 3 rfl ?_
      refine x_iald C 12 0 rfl rfl dX4_agreesWithSeen_50 h ?_
      intro h
      refine x_aload_n C dX4_agreesWithSeen_51 rfl 0 rfl ?_
      refine fg_4_3 C 0 rfl rfl k_1_130 dX4_agreesWithSeen_52 ?_
      refine fg_1_2 C 10 rfl rfl k_1_110 dX4_agreesWithSeen_55 ?_
      refine x_iload_n C dX4_agreesWithSeen_58 rfl 3 rfl ?_
      refine x_iald C 13 0 rfl rfl dX4_agreesWithSeen_59 h ?_
      intro h
      refine x_iload_n C dX4_agreesWithSeen_60 rfl 1 rfl ?_
      refine x_iload_n C dX4_agreesWithSeen_61 rfl 2 rfl ?_
      obtain ⟨v2, hv, h⟩ := e_bind h
      refine x_callV_i C (ci := 4) 0 [.int (σ 11 a3.toNatClampNeg), .int (σ 12 a3.toNatClampNeg), .int (σ 13 a3.toNatClampNeg), .int a1, .int a2] (tX4_isHeard hJ hv) k_2_7 k_2_9 k_p_5 k_1_1 k_2_10 hyX4_isHeard ⟨rfl, rfl⟩ (by decide) rfl rfl rfl rfl (Nat.le_of_ble_eq_true rfl) dX4_agreesWithSeen_62 ?_
      refine x_aload_n C dX4_agreesWithSeen_65 rfl 0 rfl ?_
      refine fg_4_3 C 0 rfl rfl k_1_130 dX4_agreesWithSeen_66 ?_
      refine fg_1_3 C 10 rfl rfl k_1_112 dX4_agreesWithSeen_69 ?_
      refine x_iload_n C dX4_agreesWithSeen_72 rfl 3 rfl ?_
      refine x_zald C 14 1 rfl rfl dX4_agreesWithSeen_73 h ?_
      intro h
      refine x_icmp_eq (tgt := 79) C dX4_agreesWithSeen_74 (by decide) h ?_ ?_
      · intro h
        exact wX4_agreesWithSeen_79 hJ C hk2 h
      · intro h
        refine x_iconst (v := 0) C dX4_agreesWithSeen_77 ic_0 ?_
        exact xr_z C h dX4_agreesWithSeen_78
set_option maxRecDepth 100000 in
set_option maxHeartbeats 4000000 in
theorem wX4_agreesWithSeen_0 (hJ : eInj 21 ad) (C : Cx p s m args meth c (dC, dI) (xW cI cZ ad) (xA ad) (ExX ad) [(cI, .int), (cZ, .boolean)] cX4_agreesWithSeen 4 RX4 (some .boolean) yX4_agreesWithSeen) {σ : eSt} {a1 : Int32} {a2 : Int32} {z : Int64} {r : Int32} (h : fX4_agreesWithSeen σ a1 a2 = some r) : WX p l e rmX4_agreesWithSeen s m args below meth c (MQ below (cQ (dC, dI) (xW cI cZ ad) (xA ad) (some (.int r)) σ z) args s 0 0 (xA ad)) (dC, dI) (xW cI cZ ad) (xA ad) 4 σ z [(0, .ref (ad 0)), (1, .int a1), (2, .int a2)] 0 [] := by
  unfold fX4_agreesWithSeen at h
  refine x_iconst (v := 0) C dX4_agreesWithSeen_0 ic_0 ?_
  refine x_istore_n (lv' := [(3, .int 0), (0, .ref (ad 0)), (1, .int a1), (2, .int a2)]) C dX4_agreesWithSeen_1 rfl (by decide) rfl ?_
  refine x_sub (lv' := [(0, .ref (ad 0)), (1, .int a1), (2, .int a2), (3, .int 0)]) [1, 2, 3, 0] rfl ?_
  exact wX4_agreesWithSeen_2 hJ C _ _ h
set_option maxRecDepth 100000 in
set_option maxHeartbeats 4000000 in
theorem tX4_agreesWithSeen {l : Launch} {dC : Nat → ClassId} {dI : Nat → Nat → Nat} {cI cZ : ClassId} {ad : Nat → Nat} (hJ : eInj 21 ad) {σ : eSt} {a1 : Int32} {a2 : Int32} {z : Int64} {r : Int32} (h : fX4_agreesWithSeen σ a1 a2 = some r) : Con l yX4_agreesWithSeen cX4_agreesWithSeen 4 (some .boolean) rmX4_agreesWithSeen (dC, dI) (xW cI cZ ad) (xA ad) [(cI, .int), (cZ, .boolean)] (ExX ad) [.ref (ad 0), .int a1, .int a2] σ z (some (.int r)) σ z :=
  x_con (by decide) (xW_D hJ) (ExX_ok ad) (Nat.le_of_ble_eq_true rfl) (fun p e s m args below meth c C => wX4_agreesWithSeen_0 hJ C h)
set_option maxRecDepth 100000 in
set_option maxHeartbeats 4000000 in
theorem wX4_weather_64 (hJ : eInj 21 ad) (C : Cx p s m args meth c (dC, dI) (xW cI cZ ad) (xA ad) (ExX ad) [(cI, .int), (cZ, .boolean)] cX4_weather 6 RX4 (some .int) yX4_weather) {σ : eSt} {a1 : Int32} {a2 : Int32} {a3 : Int32} {a4 : Int32} {a5 : Int32} {z : Int64} {r : Int32} {k18 : Int32 → Int32 → Int32 → Option (Int32)} (hk18 : ∀ (a2 : Int32) (a3 : Int32) (a4 : Int32), k18 a2 a3 a4 = some r → WX p l e rmX4_weather s m args below meth c (MQ below (cQ (dC, dI) (xW cI cZ ad) (xA ad) (some (.int r)) σ z) args s 0 0 (xA ad)) (dC, dI) (xW cI cZ ad) (xA ad) 6 σ z [(0, .ref (ad 0)), (1, .int a1), (2, .int a2), (3, .int a3), (4, .int a4)] 18 []) {k27 : Int32 → Int32 → Int32 → Option (Int32)} (hk27 : ∀ (a2 : Int32) (a3 : Int32) (a5 : Int32), k27 a2 a3 a5 = some r → WX p l e rmX4_weather s m args below meth c (MQ below (cQ (dC, dI) (xW cI cZ ad) (xA ad) (some (.int r)) σ z) args s 0 0 (xA ad)) (dC, dI) (xW cI cZ ad) (xA ad) 6 σ z [(0, .ref (ad 0)), (1, .int a1), (2, .int a2), (3, .int a3), (4, .int a4), (5, .int a5)] 27 []) (h : fX4_weather_64 k18 k27 σ a1 a2 a3 a4 a5 = some r) : WX p l e rmX4_weather s m args below meth c (MQ below (cQ (dC, dI) (xW cI cZ ad) (xA ad) (some (.int r)) σ z) args s 0 0 (xA ad)) (dC, dI) (xW cI cZ ad) (xA ad) 6 σ z [(0, .ref (ad 0)), (1, .int a1), (2, .int a2), (3, .int a3), (4, .int a4), (5, .int a5)] 64 [] := by
  unfold fX4_weather_64 at h
  refine x_iinc_b (j := 5) (w := 1) C (fun v1 => [(5, .int v1), (0, .ref (ad 0)), (1, .int a1), (2, .int a2), (3, .int a3), (4, .int a4)]) dX4_weather_64 ic_1 rfl (by decide) h (fun _ => rfl) ?_
  intro v1 h
  refine x_goto (tgt := 27) C dX4_weather_67 (by decide) ?_
  refine x_sub (lv' := [(0, .ref (ad 0)), (1, .int a1), (2, .int a2), (3, .int a3), (4, .int a4), (5, .int v1)]) [1, 2, 3, 4, 5, 0] rfl ?_
  exact hk27 _ _ _ h
set_option maxRecDepth 100000 in
set_option maxHeartbeats 4000000 in
theorem wX4_weather_60 (hJ : eInj 21 ad) (C : Cx p s m args meth c (dC, dI) (xW cI cZ ad) (xA ad) (ExX ad) [(cI, .int), (cZ, .boolean)] cX4_weather 6 RX4 (some .int) yX4_weather) {σ : eSt} {a1 : Int32} {a2 : Int32} {a4 : Int32} {a5 : Int32} {s0 : Int32} {z : Int64} {r : Int32} {k18 : Int32 → Int32 → Int32 → Option (Int32)} (hk18 : ∀ (a2 : Int32) (a3 : Int32) (a4 : Int32), k18 a2 a3 a4 = some r → WX p l e rmX4_weather s m args below meth c (MQ below (cQ (dC, dI) (xW cI cZ ad) (xA ad) (some (.int r)) σ z) args s 0 0 (xA ad)) (dC, dI) (xW cI cZ ad) (xA ad) 6 σ z [(0, .ref (ad 0)), (1, .int a1), (2, .int a2), (3, .int a3), (4, .int a4)] 18 []) {k27 : Int32 → Int32 → Int32 → Option (Int32)} (hk27 : ∀ (a2 : Int32) (a3 : Int32) (a5 : Int32), k27 a2 a3 a5 = some r → WX p l e rmX4_weather s m args below meth c (MQ below (cQ (dC, dI) (xW cI cZ ad) (xA ad) (some (.int r)) σ z) args s 0 0 (xA ad)) (dC, dI) (xW cI cZ ad) (xA ad) 6 σ z [(0, .ref (ad 0)), (1, .int a1), (2, .int a2), (3, .int a3), (4, .int a4), (5, .int a5)] 27 []) (h : fX4_weather_60 k18 k27 σ a1 a2 a4 a5 s0 = some r) : WX p l e rmX4_weather s m args below meth c (MQ below (cQ (dC, dI) (xW cI cZ ad) (xA ad) (some (.int r)) σ z) args s 0 0 (xA ad)) (dC, dI) (xW cI cZ ad) (xA ad) 6 σ z [(0, .ref (ad 0)), (1, .int a1), (2, .int a2), (4, .int a4), (5, .int a5)] 60 [.int s0] := by
  unfold fX4_weather_60 at h
  refine x_istore_n (lv' := [(3, .int s0), (0, .ref (ad 0)), (1, .int a1), (2, .int a2), (4, .int a4), (5, .int a5)]) C dX4_weather_60 rfl (by decide) rfl ?_
  refine x_iinc_b (j := 3) (w := 1) C (fun v1 => [(2, .int v1), (3, .int s0), (0, .ref (ad 0)), (1, .int a1), (4, .int a4), (5, .int a5)]) dX4_weather_61 ic_1 rfl (by decide) h (fun _ => rfl) ?_
  intro v1 h
  refine x_sub (lv' := [(0, .ref (ad 0)), (1, .int a1), (2, .int v1), (3, .int s0), (4, .int a4), (5, .int a5)]) [2, 3, 0, 1, 4, 5] rfl ?_
  exact wX4_weather_64 hJ C hk18 hk27 h
set_option maxRecDepth 100000 in
set_option maxHeartbeats 4000000 in
theorem wX4_weather_27 (hJ : eInj 21 ad) (C : Cx p s m args meth c (dC, dI) (xW cI cZ ad) (xA ad) (ExX ad) [(cI, .int), (cZ, .boolean)] cX4_weather 6 RX4 (some .int) yX4_weather) {σ : eSt} {a1 : Int32} {a4 : Int32} {z : Int64} {r : Int32} {k18 : Int32 → Int32 → Int32 → Option (Int32)} (hk18 : ∀ (a2 : Int32) (a3 : Int32) (a4 : Int32), k18 a2 a3 a4 = some r → WX p l e rmX4_weather s m args below meth c (MQ below (cQ (dC, dI) (xW cI cZ ad) (xA ad) (some (.int r)) σ z) args s 0 0 (xA ad)) (dC, dI) (xW cI cZ ad) (xA ad) 6 σ z [(0, .ref (ad 0)), (1, .int a1), (2, .int a2), (3, .int a3), (4, .int a4)] 18 []) : ∀ (n : Nat) (a2 : Int32) (a3 : Int32) (a5 : Int32), lo_3 (bX4_weather_27 k18 σ a1 a4) n a2 a3 a5 = some r → WX p l e rmX4_weather s m args below meth c (MQ below (cQ (dC, dI) (xW cI cZ ad) (xA ad) (some (.int r)) σ z) args s 0 0 (xA ad)) (dC, dI) (xW cI cZ ad) (xA ad) 6 σ z [(0, .ref (ad 0)), (1, .int a1), (2, .int a2), (3, .int a3), (4, .int a4), (5, .int a5)] 27 [] := by
  refine lo_3_ind (P := fun a2 a3 a5 => WX p l e rmX4_weather s m args below meth c (MQ below (cQ (dC, dI) (xW cI cZ ad) (xA ad) (some (.int r)) σ z) args s 0 0 (xA ad)) (dC, dI) (xW cI cZ ad) (xA ad) 6 σ z [(0, .ref (ad 0)), (1, .int a1), (2, .int a2), (3, .int a3), (4, .int a4), (5, .int a5)] 27 []) ?_
  intro k27 hk27 a2 a3 a5 h
  unfold bX4_weather_27 at h
  refine x_iload C dX4_weather_27 5 rfl ?_
  refine x_iconst (v := 2) C dX4_weather_29 ic_2 ?_
  refine x_icmp_gt (tgt := 70) C dX4_weather_30 (by decide) h ?_ ?_
  · intro h
    refine x_iinc_b (j := 4) (w := 1) C (fun v1 => [(4, .int v1), (0, .ref (ad 0)), (1, .int a1), (2, .int a2), (3, .int a3), (5, .int a5)]) dX4_weather_70 ic_1 rfl (by decide) h (fun _ => rfl) ?_
    intro v1 h
    refine x_goto (tgt := 18) C dX4_weather_73 (by decide) ?_
    refine x_sub (lv' := [(0, .ref (ad 0)), (1, .int a1), (2, .int a2), (3, .int a3), (4, .int v1)]) [1, 2, 3, 4, 0] rfl ?_
    exact hk18 _ _ _ h
  · intro h
    refine x_aload_n C dX4_weather_33 rfl 0 rfl ?_
    refine x_iload C dX4_weather_34 4 rfl ?_
    refine x_iload C dX4_weather_36 5 rfl ?_
    obtain ⟨v2, hv, h⟩ := e_bind h
    refine x_callV_i C (ci := 4) 0 [.int a4, .int a5] (tX4_agreesWithSeen hJ hv) k_2_194 k_2_196 k_p_18 k_1_1 k_2_197 hyX4_agreesWithSeen ⟨rfl, rfl⟩ (by decide) rfl rfl rfl rfl (Nat.le_of_ble_eq_true rfl) dX4_weather_38 ?_
    refine x_if_eq (tgt := 64) C dX4_weather_41 (by decide) h ?_ ?_
    · intro h
      exact wX4_weather_64 hJ C hk18 hk27 h
    · intro h
      refine x_iload_n C dX4_weather_44 rfl 2 rfl ?_
      refine x_if_ne (tgt := 59) C dX4_weather_45 (by decide) h ?_ ?_
      · intro h
        refine x_iload_n C dX4_weather_59 rfl 3 rfl ?_
        refine x_sub (lv' := [(0, .ref (ad 0)), (1, .int a1), (2, .int a2), (4, .int a4), (5, .int a5)]) [0, 1, 2, 4, 5] rfl ?_
        exact wX4_weather_60 hJ C hk18 hk27 h
      · intro h
        refine x_bipush (v := 10) C dX4_weather_48 bi_10 ?_
        refine x_iload C dX4_weather_50 4 rfl ?_
        refine x_imul C dX4_weather_52 ?_
        refine x_iload C dX4_weather_53 5 rfl ?_
        refine x_iadd C dX4_weather_55 ?_
        refine x_goto (tgt := 60) C dX4_weather_56 (by decide) ?_
        refine x_sub (lv' := [(0, .ref (ad 0)), (1, .int a1), (2, .int a2), (4, .int a4), (5, .int a5)]) [0, 1, 2, 4, 5] rfl ?_
        exact wX4_weather_60 hJ C hk18 hk27 h
set_option maxRecDepth 100000 in
set_option maxHeartbeats 4000000 in
theorem wX4_weather_18 (hJ : eInj 21 ad) (C : Cx p s m args meth c (dC, dI) (xW cI cZ ad) (xA ad) (ExX ad) [(cI, .int), (cZ, .boolean)] cX4_weather 6 RX4 (some .int) yX4_weather) {σ : eSt} {a1 : Int32} {z : Int64} {r : Int32} : ∀ (n : Nat) (a2 : Int32) (a3 : Int32) (a4 : Int32), lo_3 (bX4_weather_18 σ a1) n a2 a3 a4 = some r → WX p l e rmX4_weather s m args below meth c (MQ below (cQ (dC, dI) (xW cI cZ ad) (xA ad) (some (.int r)) σ z) args s 0 0 (xA ad)) (dC, dI) (xW cI cZ ad) (xA ad) 6 σ z [(0, .ref (ad 0)), (1, .int a1), (2, .int a2), (3, .int a3), (4, .int a4)] 18 [] := by
  refine lo_3_ind (P := fun a2 a3 a4 => WX p l e rmX4_weather s m args below meth c (MQ below (cQ (dC, dI) (xW cI cZ ad) (xA ad) (some (.int r)) σ z) args s 0 0 (xA ad)) (dC, dI) (xW cI cZ ad) (xA ad) 6 σ z [(0, .ref (ad 0)), (1, .int a1), (2, .int a2), (3, .int a3), (4, .int a4)] 18 []) ?_
  intro k18 hk18 a2 a3 a4 h
  unfold bX4_weather_18 at h
  refine x_iload C dX4_weather_18 4 rfl ?_
  refine x_iconst (v := 4) C dX4_weather_20 ic_4 ?_
  refine x_icmp_gt (tgt := 76) C dX4_weather_21 (by decide) h ?_ ?_
  · intro h
    refine x_iload_n C dX4_weather_76 rfl 1 rfl ?_
    refine x_if_ne (tgt := 84) C dX4_weather_77 (by decide) h ?_ ?_
    · intro h
      refine x_iload_n C dX4_weather_84 rfl 3 rfl ?_
      exact xr_i C h dX4_weather_85
    · intro h
      refine x_iload_n C dX4_weather_80 rfl 2 rfl ?_
      refine x_goto (tgt := 85) C dX4_weather_81 (by decide) ?_
      exact xr_i C h dX4_weather_85
  · intro h
    refine x_iconst (v := 0) C dX4_weather_24 ic_0 ?_
    refine x_istore (lv' := [(5, .int 0), (0, .ref (ad 0)), (1, .int a1), (2, .int a2), (3, .int a3), (4, .int a4)]) C dX4_weather_25 (by decide) rfl ?_
    refine x_sub (lv' := [(0, .ref (ad 0)), (1, .int a1), (2, .int a2), (3, .int a3), (4, .int a4), (5, .int 0)]) [1, 2, 3, 4, 5, 0] rfl ?_
    exact wX4_weather_27 hJ C hk18 _ _ _ _ h
set_option maxRecDepth 100000 in
set_option maxHeartbeats 4000000 in
theorem wX4_weather_0 (hJ : eInj 21 ad) (C : Cx p s m args meth c (dC, dI) (xW cI cZ ad) (xA ad) (ExX ad) [(cI, .int), (cZ, .boolean)] cX4_weather 6 RX4 (some .int) yX4_weather) {σ : eSt} {a1 : Int32} {z : Int64} {r : Int32} (h : fX4_weather σ a1 = some r) : WX p l e rmX4_weather s m args below meth c (MQ below (cQ (dC, dI) (xW cI cZ ad) (xA ad) (some (.int r)) σ z) args s 0 0 (xA ad)) (dC, dI) (xW cI cZ ad) (xA ad) 6 σ z [(0, .ref (ad 0)), (1, .int a1)] 0 [] := by
  unfold fX4_weather at h
  refine x_iload_n C dX4_weather_0 rfl 1 rfl ?_
  obtain ⟨v1, hv, h⟩ := e_bind h
  refine x_callS_i C [.int a1] (tX4_isFirstOrSecond hJ hv) k_2_159 k_2_160 k_1_1 k_2_161 hyX4_isFirstOrSecond.2 ⟨rfl, rfl⟩ (by decide) rfl rfl (Nat.le_of_ble_eq_true rfl) dX4_weather_1 ?_
  refine x_if_ne (tgt := 10) C dX4_weather_4 (by decide) h ?_ ?_
  · intro h
    refine x_iconst (v := 0) C dX4_weather_10 ic_0 ?_
    refine x_istore_n (lv' := [(2, .int 0), (0, .ref (ad 0)), (1, .int a1)]) C dX4_weather_11 rfl (by decide) rfl ?_
    refine x_bipush (v := (-9)) C dX4_weather_12 bi_m9 ?_
    refine x_istore_n (lv' := [(3, .int (-9)), (2, .int 0), (0, .ref (ad 0)), (1, .int a1)]) C dX4_weather_14 rfl (by decide) rfl ?_
    refine x_iconst (v := 0) C dX4_weather_15 ic_0 ?_
    refine x_istore (lv' := [(4, .int 0), (3, .int (-9)), (2, .int 0), (0, .ref (ad 0)), (1, .int a1)]) C dX4_weather_16 (by decide) rfl ?_
    refine x_sub (lv' := [(0, .ref (ad 0)), (1, .int a1), (2, .int 0), (3, .int (-9)), (4, .int 0)]) [3, 4, 2, 1, 0] rfl ?_
    exact wX4_weather_18 hJ C _ _ _ _ h
  · intro h
    refine x_bipush (v := (-2)) C dX4_weather_7 bi_m2 ?_
    exact xr_i C h dX4_weather_9
set_option maxRecDepth 100000 in
set_option maxHeartbeats 4000000 in
theorem tX4_weather {l : Launch} {dC : Nat → ClassId} {dI : Nat → Nat → Nat} {cI cZ : ClassId} {ad : Nat → Nat} (hJ : eInj 21 ad) {σ : eSt} {a1 : Int32} {z : Int64} {r : Int32} (h : fX4_weather σ a1 = some r) : Con l yX4_weather cX4_weather 6 (some .int) rmX4_weather (dC, dI) (xW cI cZ ad) (xA ad) [(cI, .int), (cZ, .boolean)] (ExX ad) [.ref (ad 0), .int a1] σ z (some (.int r)) σ z :=
  x_con (by decide) (xW_D hJ) (ExX_ok ad) (Nat.le_of_ble_eq_true rfl) (fun p e s m args below meth c C => wX4_weather_0 hJ C h)
set_option maxRecDepth 100000 in
set_option maxHeartbeats 4000000 in
theorem wX4_canBoth_0 (hJ : eInj 21 ad) (C : Cx p s m args meth c (dC, dI) (xW cI cZ ad) (xA ad) (ExX ad) [(cI, .int), (cZ, .boolean)] cX4_canBoth 2 RX4 (some .boolean) yX4_canBoth) {σ : eSt} {a0 : Int32} {a1 : Int32} {z : Int64} {r : Int32} (h : fX4_canBoth a0 a1 = some r) : WX p l e rmX4_canBoth s m args below meth c (MQ below (cQ (dC, dI) (xW cI cZ ad) (xA ad) (some (.int r)) σ z) args s 0 0 (xA ad)) (dC, dI) (xW cI cZ ad) (xA ad) 2 σ z [(0, .int a0), (1, .int a1)] 0 [] := by
  unfold fX4_canBoth at h
  refine x_iload_n C dX4_canBoth_0 rfl 0 rfl ?_
  refine x_iload_n C dX4_canBoth_1 rfl 1 rfl ?_
  refine x_icmp_ne (tgt := 11) C dX4_canBoth_2 (by decide) h ?_ ?_
  · intro h
    refine x_iconst (v := 1) C dX4_canBoth_11 ic_1 ?_
    refine x_goto (tgt := 16) C dX4_canBoth_12 (by decide) ?_
    exact xr_z C h dX4_canBoth_16
  · intro h
    refine x_iload_n C dX4_canBoth_5 rfl 0 rfl ?_
    refine x_bipush (v := 10) C dX4_canBoth_6 bi_10 ?_
    refine x_icmp_ne (tgt := 15) C dX4_canBoth_8 (by decide) h ?_ ?_
    · intro h
      refine x_iconst (v := 0) C dX4_canBoth_15 ic_0 ?_
      exact xr_z C h dX4_canBoth_16
    · intro h
      refine x_iconst (v := 1) C dX4_canBoth_11 ic_1 ?_
      refine x_goto (tgt := 16) C dX4_canBoth_12 (by decide) ?_
      exact xr_z C h dX4_canBoth_16
set_option maxRecDepth 100000 in
set_option maxHeartbeats 4000000 in
theorem tX4_canBoth {l : Launch} {dC : Nat → ClassId} {dI : Nat → Nat → Nat} {cI cZ : ClassId} {ad : Nat → Nat} (hJ : eInj 21 ad) {a0 : Int32} {a1 : Int32} {σ : eSt} {z : Int64} {r : Int32} (h : fX4_canBoth a0 a1 = some r) : Con l yX4_canBoth cX4_canBoth 2 (some .boolean) rmX4_canBoth (dC, dI) (xW cI cZ ad) (xA ad) [(cI, .int), (cZ, .boolean)] (ExX ad) [.int a0, .int a1] σ z (some (.int r)) σ z :=
  x_con (by decide) (xW_D hJ) (ExX_ok ad) (Nat.le_of_ble_eq_true rfl) (fun p e s m args below meth c C => wX4_canBoth_0 hJ C h)
set_option maxRecDepth 100000 in
set_option maxHeartbeats 4000000 in
theorem wX4_fillSureByChoice_41 (hJ : eInj 21 ad) (C : Cx p s m args meth c (dC, dI) (xW cI cZ ad) (xA ad) (ExX ad) [(cI, .int), (cZ, .boolean)] cX4_fillSureByChoice 3 RX4 none yX4_fillSureByChoice) {σ : eSt} {a1 : Int32} {a2 : Int32} {z : Int64} {r : eSt} {k2 : Int32 → eSt → Option (eSt)} (hk2 : ∀ (a1 : Int32) (σ : eSt), k2 a1 σ = some r → WX p l e rmX4_fillSureByChoice s m args below meth c (MQ below (cQ (dC, dI) (xW cI cZ ad) (xA ad) none r z) args s 0 0 (xA ad)) (dC, dI) (xW cI cZ ad) (xA ad) 3 σ z [(0, .ref (ad 0)), (1, .int a1)] 2 []) {k10 : Int32 → eSt → Option (eSt)} (hk10 : ∀ (a2 : Int32) (σ : eSt), k10 a2 σ = some r → WX p l e rmX4_fillSureByChoice s m args below meth c (MQ below (cQ (dC, dI) (xW cI cZ ad) (xA ad) none r z) args s 0 0 (xA ad)) (dC, dI) (xW cI cZ ad) (xA ad) 3 σ z [(0, .ref (ad 0)), (1, .int a1), (2, .int a2)] 10 []) (h : fX4_fillSureByChoice_41 k2 k10 σ a1 a2 = some r) : WX p l e rmX4_fillSureByChoice s m args below meth c (MQ below (cQ (dC, dI) (xW cI cZ ad) (xA ad) none r z) args s 0 0 (xA ad)) (dC, dI) (xW cI cZ ad) (xA ad) 3 σ z [(0, .ref (ad 0)), (1, .int a1), (2, .int a2)] 41 [] := by
  unfold fX4_fillSureByChoice_41 at h
  refine x_iinc_b (j := 2) (w := 1) C (fun v1 => [(2, .int v1), (0, .ref (ad 0)), (1, .int a1)]) dX4_fillSureByChoice_41 ic_1 rfl (by decide) h (fun _ => rfl) ?_
  intro v1 h
  refine x_goto (tgt := 10) C dX4_fillSureByChoice_44 (by decide) ?_
  refine x_sub (lv' := [(0, .ref (ad 0)), (1, .int a1), (2, .int v1)]) [1, 2, 0] rfl ?_
  exact hk10 _ _ h
set_option maxRecDepth 100000 in
set_option maxHeartbeats 4000000 in
theorem wX4_fillSureByChoice_10 (hJ : eInj 21 ad) (C : Cx p s m args meth c (dC, dI) (xW cI cZ ad) (xA ad) (ExX ad) [(cI, .int), (cZ, .boolean)] cX4_fillSureByChoice 3 RX4 none yX4_fillSureByChoice) {a1 : Int32} {z : Int64} {r : eSt} {k2 : Int32 → eSt → Option (eSt)} (hk2 : ∀ (a1 : Int32) (σ : eSt), k2 a1 σ = some r → WX p l e rmX4_fillSureByChoice s m args below meth c (MQ below (cQ (dC, dI) (xW cI cZ ad) (xA ad) none r z) args s 0 0 (xA ad)) (dC, dI) (xW cI cZ ad) (xA ad) 3 σ z [(0, .ref (ad 0)), (1, .int a1)] 2 []) : ∀ (n : Nat) (a2 : Int32) (σ : eSt), lo_2 (bX4_fillSureByChoice_10 k2 a1) n a2 σ = some r → WX p l e rmX4_fillSureByChoice s m args below meth c (MQ below (cQ (dC, dI) (xW cI cZ ad) (xA ad) none r z) args s 0 0 (xA ad)) (dC, dI) (xW cI cZ ad) (xA ad) 3 σ z [(0, .ref (ad 0)), (1, .int a1), (2, .int a2)] 10 [] := by
  refine lo_2_ind (P := fun a2 σ => WX p l e rmX4_fillSureByChoice s m args below meth c (MQ below (cQ (dC, dI) (xW cI cZ ad) (xA ad) none r z) args s 0 0 (xA ad)) (dC, dI) (xW cI cZ ad) (xA ad) 3 σ z [(0, .ref (ad 0)), (1, .int a1), (2, .int a2)] 10 []) ?_
  intro k10 hk10 a2 σ h
  unfold bX4_fillSureByChoice_10 at h
  refine x_iload_n C dX4_fillSureByChoice_10 rfl 2 rfl ?_
  refine x_bipush (v := 11) C dX4_fillSureByChoice_11 bi_11 ?_
  refine x_icmp_ge (tgt := 47) C dX4_fillSureByChoice_13 (by decide) h ?_ ?_
  · intro h
    refine x_iinc_b (j := 1) (w := 1) C (fun v1 => [(1, .int v1), (0, .ref (ad 0)), (2, .int a2)]) dX4_fillSureByChoice_47 ic_1 rfl (by decide) h (fun _ => rfl) ?_
    intro v1 h
    refine x_goto (tgt := 2) C dX4_fillSureByChoice_50 (by decide) ?_
    refine x_sub (lv' := [(0, .ref (ad 0)), (1, .int v1)]) [1, 0] rfl ?_
    exact hk2 _ _ h
  · intro h
    refine x_iload_n C dX4_fillSureByChoice_16 rfl 1 rfl ?_
    refine x_iload_n C dX4_fillSureByChoice_17 rfl 2 rfl ?_
    obtain ⟨v2, hv, h⟩ := e_bind h
    refine x_callS_i C [.int a1, .int a2] (tX4_canBoth hJ hv) k_2_206 k_2_207 k_1_1 k_2_208 hyX4_canBoth.2 ⟨rfl, rfl⟩ (by decide) rfl rfl (Nat.le_of_ble_eq_true rfl) dX4_fillSureByChoice_18 ?_
    refine x_if_eq (tgt := 41) C dX4_fillSureByChoice_21 (by decide) h ?_ ?_
    · intro h
      exact wX4_fillSureByChoice_41 hJ C hk2 hk10 h
    · intro h
      refine x_aload_n C dX4_fillSureByChoice_24 rfl 0 rfl ?_
      refine fg_4_11 C 0 rfl rfl k_1_138 dX4_fillSureByChoice_25 ?_
      refine x_bipush (v := 11) C dX4_fillSureByChoice_28 bi_11 ?_
      refine x_iload_n C dX4_fillSureByChoice_30 rfl 1 rfl ?_
      refine x_imul C dX4_fillSureByChoice_31 ?_
      refine x_iload_n C dX4_fillSureByChoice_32 rfl 2 rfl ?_
      refine x_iadd C dX4_fillSureByChoice_33 ?_
      refine x_aload_n C dX4_fillSureByChoice_34 rfl 0 rfl ?_
      refine x_iload_n C dX4_fillSureByChoice_35 rfl 1 rfl ?_
      refine x_iload_n C dX4_fillSureByChoice_36 rfl 2 rfl ?_
      obtain ⟨w3, hv, h⟩ := e_bind h
      refine x_callV_i C (ci := 4) 0 [.int a1, .int a2] (tX4_sureCountWith hJ hv) k_2_166 k_2_168 k_p_17 k_1_1 k_2_169 hyX4_sureCountWith ⟨rfl, rfl⟩ (by decide) rfl rfl rfl rfl (Nat.le_of_ble_eq_true rfl) dX4_fillSureByChoice_37 ?_
      refine x_iast C 20 0 rfl rfl dX4_fillSureByChoice_40 h rfl ?_
      intro σ4 h
      exact wX4_fillSureByChoice_41 hJ C hk2 hk10 h
set_option maxRecDepth 100000 in
set_option maxHeartbeats 4000000 in
theorem wX4_fillSureByChoice_2 (hJ : eInj 21 ad) (C : Cx p s m args meth c (dC, dI) (xW cI cZ ad) (xA ad) (ExX ad) [(cI, .int), (cZ, .boolean)] cX4_fillSureByChoice 3 RX4 none yX4_fillSureByChoice) {z : Int64} {r : eSt} : ∀ (n : Nat) (a1 : Int32) (σ : eSt), lo_2 (bX4_fillSureByChoice_2) n a1 σ = some r → WX p l e rmX4_fillSureByChoice s m args below meth c (MQ below (cQ (dC, dI) (xW cI cZ ad) (xA ad) none r z) args s 0 0 (xA ad)) (dC, dI) (xW cI cZ ad) (xA ad) 3 σ z [(0, .ref (ad 0)), (1, .int a1)] 2 [] := by
  refine lo_2_ind (P := fun a1 σ => WX p l e rmX4_fillSureByChoice s m args below meth c (MQ below (cQ (dC, dI) (xW cI cZ ad) (xA ad) none r z) args s 0 0 (xA ad)) (dC, dI) (xW cI cZ ad) (xA ad) 3 σ z [(0, .ref (ad 0)), (1, .int a1)] 2 []) ?_
  intro k2 hk2 a1 σ h
  unfold bX4_fillSureByChoice_2 at h
  refine x_iload_n C dX4_fillSureByChoice_2 rfl 1 rfl ?_
  refine x_bipush (v := 11) C dX4_fillSureByChoice_3 bi_11 ?_
  refine x_icmp_ge (tgt := 53) C dX4_fillSureByChoice_5 (by decide) h ?_ ?_
  · intro h
    exact xr_wv C h dX4_fillSureByChoice_53
  · intro h
    refine x_iconst (v := 0) C dX4_fillSureByChoice_8 ic_0 ?_
    refine x_istore_n (lv' := [(2, .int 0), (0, .ref (ad 0)), (1, .int a1)]) C dX4_fillSureByChoice_9 rfl (by decide) rfl ?_
    refine x_sub (lv' := [(0, .ref (ad 0)), (1, .int a1), (2, .int 0)]) [1, 2, 0] rfl ?_
    exact wX4_fillSureByChoice_10 hJ C hk2 _ _ _ h
set_option maxRecDepth 100000 in
set_option maxHeartbeats 4000000 in
theorem wX4_fillSureByChoice_0 (hJ : eInj 21 ad) (C : Cx p s m args meth c (dC, dI) (xW cI cZ ad) (xA ad) (ExX ad) [(cI, .int), (cZ, .boolean)] cX4_fillSureByChoice 3 RX4 none yX4_fillSureByChoice) {σ : eSt} {z : Int64} {r : eSt} (h : fX4_fillSureByChoice σ = some r) : WX p l e rmX4_fillSureByChoice s m args below meth c (MQ below (cQ (dC, dI) (xW cI cZ ad) (xA ad) none r z) args s 0 0 (xA ad)) (dC, dI) (xW cI cZ ad) (xA ad) 3 σ z [(0, .ref (ad 0))] 0 [] := by
  unfold fX4_fillSureByChoice at h
  refine x_iconst (v := 0) C dX4_fillSureByChoice_0 ic_0 ?_
  refine x_istore_n (lv' := [(1, .int 0), (0, .ref (ad 0))]) C dX4_fillSureByChoice_1 rfl (by decide) rfl ?_
  refine x_sub (lv' := [(0, .ref (ad 0)), (1, .int 0)]) [1, 0] rfl ?_
  exact wX4_fillSureByChoice_2 hJ C _ _ _ h
set_option maxRecDepth 100000 in
set_option maxHeartbeats 4000000 in
theorem tX4_fillSureByChoice {l : Launch} {dC : Nat → ClassId} {dI : Nat → Nat → Nat} {cI cZ : ClassId} {ad : Nat → Nat} (hJ : eInj 21 ad) {σ : eSt} {z : Int64} {r : eSt} (h : fX4_fillSureByChoice σ = some r) : Con l yX4_fillSureByChoice cX4_fillSureByChoice 3 none rmX4_fillSureByChoice (dC, dI) (xW cI cZ ad) (xA ad) [(cI, .int), (cZ, .boolean)] (ExX ad) [.ref (ad 0)] σ z none r z :=
  x_con (by decide) (xW_D hJ) (ExX_ok ad) (Nat.le_of_ble_eq_true rfl) (fun p e s m args below meth c C => wX4_fillSureByChoice_0 hJ C h)
set_option maxRecDepth 100000 in
set_option maxHeartbeats 4000000 in
theorem wX4_isAtRest_86 (hJ : eInj 21 ad) (C : Cx p s m args meth c (dC, dI) (xW cI cZ ad) (xA ad) (ExX ad) [(cI, .int), (cZ, .boolean)] cX4_isAtRest 5 RX4 (some .boolean) yX4_isAtRest) {σ : eSt} {a1 : Int32} {a2 : Int32} {a3 : Int32} {a4 : Int32} {z : Int64} {r : Int32} {k25 : Int32 → Option (Int32)} (hk25 : ∀ (a4 : Int32), k25 a4 = some r → WX p l e rmX4_isAtRest s m args below meth c (MQ below (cQ (dC, dI) (xW cI cZ ad) (xA ad) (some (.int r)) σ z) args s 0 0 (xA ad)) (dC, dI) (xW cI cZ ad) (xA ad) 5 σ z [(0, .ref (ad 0)), (1, .int a1), (2, .int a2), (3, .int a3), (4, .int a4)] 25 []) (h : fX4_isAtRest_86 k25 σ a1 a2 a3 a4 = some r) : WX p l e rmX4_isAtRest s m args below meth c (MQ below (cQ (dC, dI) (xW cI cZ ad) (xA ad) (some (.int r)) σ z) args s 0 0 (xA ad)) (dC, dI) (xW cI cZ ad) (xA ad) 5 σ z [(0, .ref (ad 0)), (1, .int a1), (2, .int a2), (3, .int a3), (4, .int a4)] 86 [] := by
  unfold fX4_isAtRest_86 at h
  refine x_iinc_b (j := 4) (w := 1) C (fun v1 => [(4, .int v1), (0, .ref (ad 0)), (1, .int a1), (2, .int a2), (3, .int a3)]) dX4_isAtRest_86 ic_1 rfl (by decide) h (fun _ => rfl) ?_
  intro v1 h
  refine x_goto (tgt := 25) C dX4_isAtRest_89 (by decide) ?_
  refine x_sub (lv' := [(0, .ref (ad 0)), (1, .int a1), (2, .int a2), (3, .int a3), (4, .int v1)]) [1, 2, 3, 4, 0] rfl ?_
  exact hk25 _ h
set_option maxRecDepth 100000 in
set_option maxHeartbeats 4000000 in
theorem wX4_isAtRest_59 (hJ : eInj 21 ad) (C : Cx p s m args meth c (dC, dI) (xW cI cZ ad) (xA ad) (ExX ad) [(cI, .int), (cZ, .boolean)] cX4_isAtRest 5 RX4 (some .boolean) yX4_isAtRest) {σ : eSt} {a1 : Int32} {a2 : Int32} {a3 : Int32} {a4 : Int32} {z : Int64} {r : Int32} {k25 : Int32 → Option (Int32)} (hk25 : ∀ (a4 : Int32), k25 a4 = some r → WX p l e rmX4_isAtRest s m args below meth c (MQ below (cQ (dC, dI) (xW cI cZ ad) (xA ad) (some (.int r)) σ z) args s 0 0 (xA ad)) (dC, dI) (xW cI cZ ad) (xA ad) 5 σ z [(0, .ref (ad 0)), (1, .int a1), (2, .int a2), (3, .int a3), (4, .int a4)] 25 []) (h : fX4_isAtRest_59 k25 σ a1 a2 a3 a4 = some r) : WX p l e rmX4_isAtRest s m args below meth c (MQ below (cQ (dC, dI) (xW cI cZ ad) (xA ad) (some (.int r)) σ z) args s 0 0 (xA ad)) (dC, dI) (xW cI cZ ad) (xA ad) 5 σ z [(0, .ref (ad 0)), (1, .int a1), (2, .int a2), (3, .int a3), (4, .int a4)] 59 [] := by
  unfold fX4_isAtRest_59 at h
  refine x_iload_n C dX4_isAtRest_59 rfl 1 rfl ?_
  refine x_iload C dX4_isAtRest_60 4 rfl ?_
  obtain ⟨v1, hv, h⟩ := e_bind h
  refine x_callS_i C [.int a1, .int a4] (tX4_canBoth hJ hv) k_2_206 k_2_207 k_1_1 k_2_208 hyX4_canBoth.2 ⟨rfl, rfl⟩ (by decide) rfl rfl (Nat.le_of_ble_eq_true rfl) dX4_isAtRest_62 ?_
  refine x_if_eq (tgt := 86) C dX4_isAtRest_65 (by decide) h ?_ ?_
  · intro h
    exact wX4_isAtRest_86 hJ C hk25 h
  · intro h
    refine x_aload_n C dX4_isAtRest_68 rfl 0 rfl ?_
    refine fg_4_11 C 0 rfl rfl k_1_138 dX4_isAtRest_69 ?_
    refine x_bipush (v := 11) C dX4_isAtRest_72 bi_11 ?_
    refine x_iload_n C dX4_isAtRest_74 rfl 1 rfl ?_
    refine x_imul C dX4_isAtRest_75 ?_
    refine x_iload C dX4_isAtRest_76 4 rfl ?_
    refine x_iadd C dX4_isAtRest_78 ?_
    refine x_iald C 20 0 rfl rfl dX4_isAtRest_79 h ?_
    intro h
    refine x_iload_n C dX4_isAtRest_80 rfl 3 rfl ?_
    refine x_icmp_ge (tgt := 86) C dX4_isAtRest_81 (by decide) h ?_ ?_
    · intro h
      exact wX4_isAtRest_86 hJ C hk25 h
    · intro h
      refine x_iconst (v := 0) C dX4_isAtRest_84 ic_0 ?_
      exact xr_z C h dX4_isAtRest_85
set_option maxRecDepth 100000 in
set_option maxHeartbeats 4000000 in
theorem wX4_isAtRest_25 (hJ : eInj 21 ad) (C : Cx p s m args meth c (dC, dI) (xW cI cZ ad) (xA ad) (ExX ad) [(cI, .int), (cZ, .boolean)] cX4_isAtRest 5 RX4 (some .boolean) yX4_isAtRest) {σ : eSt} {a1 : Int32} {a2 : Int32} {a3 : Int32} {z : Int64} {r : Int32} : ∀ (n : Nat) (a4 : Int32), lo_1 (bX4_isAtRest_25 σ a1 a2 a3) n a4 = some r → WX p l e rmX4_isAtRest s m args below meth c (MQ below (cQ (dC, dI) (xW cI cZ ad) (xA ad) (some (.int r)) σ z) args s 0 0 (xA ad)) (dC, dI) (xW cI cZ ad) (xA ad) 5 σ z [(0, .ref (ad 0)), (1, .int a1), (2, .int a2), (3, .int a3), (4, .int a4)] 25 [] := by
  refine lo_1_ind (P := fun a4 => WX p l e rmX4_isAtRest s m args below meth c (MQ below (cQ (dC, dI) (xW cI cZ ad) (xA ad) (some (.int r)) σ z) args s 0 0 (xA ad)) (dC, dI) (xW cI cZ ad) (xA ad) 5 σ z [(0, .ref (ad 0)), (1, .int a1), (2, .int a2), (3, .int a3), (4, .int a4)] 25 []) ?_
  intro k25 hk25 a4 h
  unfold bX4_isAtRest_25 at h
  refine x_iload C dX4_isAtRest_25 4 rfl ?_
  refine x_bipush (v := 11) C dX4_isAtRest_27 bi_11 ?_
  refine x_icmp_ge (tgt := 92) C dX4_isAtRest_29 (by decide) h ?_ ?_
  · intro h
    refine x_iconst (v := 1) C dX4_isAtRest_92 ic_1 ?_
    exact xr_z C h dX4_isAtRest_93
  · intro h
    refine x_iload C dX4_isAtRest_32 4 rfl ?_
    refine x_iload_n C dX4_isAtRest_34 rfl 2 rfl ?_
    obtain ⟨v1, hv, h⟩ := e_bind h
    refine x_callS_i C [.int a4, .int a2] (tX4_canBoth hJ hv) k_2_206 k_2_207 k_1_1 k_2_208 hyX4_canBoth.2 ⟨rfl, rfl⟩ (by decide) rfl rfl (Nat.le_of_ble_eq_true rfl) dX4_isAtRest_35 ?_
    refine x_if_eq (tgt := 59) C dX4_isAtRest_38 (by decide) h ?_ ?_
    · intro h
      exact wX4_isAtRest_59 hJ C hk25 h
    · intro h
      refine x_aload_n C dX4_isAtRest_41 rfl 0 rfl ?_
      refine fg_4_11 C 0 rfl rfl k_1_138 dX4_isAtRest_42 ?_
      refine x_bipush (v := 11) C dX4_isAtRest_45 bi_11 ?_
      refine x_iload C dX4_isAtRest_47 4 rfl ?_
      refine x_imul C dX4_isAtRest_49 ?_
      refine x_iload_n C dX4_isAtRest_50 rfl 2 rfl ?_
      refine x_iadd C dX4_isAtRest_51 ?_
      refine x_iald C 20 0 rfl rfl dX4_isAtRest_52 h ?_
      intro h
      refine x_iload_n C dX4_isAtRest_53 rfl 3 rfl ?_
      refine x_icmp_le (tgt := 59) C dX4_isAtRest_54 (by decide) h ?_ ?_
      · intro h
        exact wX4_isAtRest_59 hJ C hk25 h
      · intro h
        refine x_iconst (v := 0) C dX4_isAtRest_57 ic_0 ?_
        exact xr_z C h dX4_isAtRest_58
set_option maxRecDepth 100000 in
set_option maxHeartbeats 4000000 in
theorem wX4_isAtRest_0 (hJ : eInj 21 ad) (C : Cx p s m args meth c (dC, dI) (xW cI cZ ad) (xA ad) (ExX ad) [(cI, .int), (cZ, .boolean)] cX4_isAtRest 5 RX4 (some .boolean) yX4_isAtRest) {σ : eSt} {a1 : Int32} {a2 : Int32} {z : Int64} {r : Int32} (h : fX4_isAtRest σ a1 a2 = some r) : WX p l e rmX4_isAtRest s m args below meth c (MQ below (cQ (dC, dI) (xW cI cZ ad) (xA ad) (some (.int r)) σ z) args s 0 0 (xA ad)) (dC, dI) (xW cI cZ ad) (xA ad) 5 σ z [(0, .ref (ad 0)), (1, .int a1), (2, .int a2)] 0 [] := by
  unfold fX4_isAtRest at h
  refine x_iload_n C dX4_isAtRest_0 rfl 1 rfl ?_
  refine x_iload_n C dX4_isAtRest_1 rfl 2 rfl ?_
  obtain ⟨v1, hv, h⟩ := e_bind h
  refine x_callS_i C [.int a1, .int a2] (tX4_canBoth hJ hv) k_2_206 k_2_207 k_1_1 k_2_208 hyX4_canBoth.2 ⟨rfl, rfl⟩ (by decide) rfl rfl (Nat.le_of_ble_eq_true rfl) dX4_isAtRest_2 ?_
  refine x_if_ne (tgt := 10) C dX4_isAtRest_5 (by decide) h ?_ ?_
  · intro h
    refine x_aload_n C dX4_isAtRest_10 rfl 0 rfl ?_
    refine fg_4_11 C 0 rfl rfl k_1_138 dX4_isAtRest_11 ?_
    refine x_bipush (v := 11) C dX4_isAtRest_14 bi_11 ?_
    refine x_iload_n C dX4_isAtRest_16 rfl 1 rfl ?_
    refine x_imul C dX4_isAtRest_17 ?_
    refine x_iload_n C dX4_isAtRest_18 rfl 2 rfl ?_
    refine x_iadd C dX4_isAtRest_19 ?_
    refine x_iald C 20 0 rfl rfl dX4_isAtRest_20 h ?_
    intro h
    refine x_istore_n_b C (fun v2 => [(3, .int v2), (0, .ref (ad 0)), (1, .int a1), (2, .int a2)]) dX4_isAtRest_21 rfl (by decide) h (fun _ => rfl) ?_
    intro v2 h
    refine x_iconst (v := 0) C dX4_isAtRest_22 ic_0 ?_
    refine x_istore (lv' := [(4, .int 0), (3, .int v2), (0, .ref (ad 0)), (1, .int a1), (2, .int a2)]) C dX4_isAtRest_23 (by decide) rfl ?_
    refine x_sub (lv' := [(0, .ref (ad 0)), (1, .int a1), (2, .int a2), (3, .int v2), (4, .int 0)]) [2, 3, 4, 1, 0] rfl ?_
    exact wX4_isAtRest_25 hJ C _ _ h
  · intro h
    refine x_iconst (v := 0) C dX4_isAtRest_8 ic_0 ?_
    exact xr_z C h dX4_isAtRest_9
set_option maxRecDepth 100000 in
set_option maxHeartbeats 4000000 in
theorem tX4_isAtRest {l : Launch} {dC : Nat → ClassId} {dI : Nat → Nat → Nat} {cI cZ : ClassId} {ad : Nat → Nat} (hJ : eInj 21 ad) {σ : eSt} {a1 : Int32} {a2 : Int32} {z : Int64} {r : Int32} (h : fX4_isAtRest σ a1 a2 = some r) : Con l yX4_isAtRest cX4_isAtRest 5 (some .boolean) rmX4_isAtRest (dC, dI) (xW cI cZ ad) (xA ad) [(cI, .int), (cZ, .boolean)] (ExX ad) [.ref (ad 0), .int a1, .int a2] σ z (some (.int r)) σ z :=
  x_con (by decide) (xW_D hJ) (ExX_ok ad) (Nat.le_of_ble_eq_true rfl) (fun p e s m args below meth c C => wX4_isAtRest_0 hJ C h)
set_option maxRecDepth 100000 in
set_option maxHeartbeats 4000000 in
theorem wX4_rivals_85 (hJ : eInj 21 ad) (C : Cx p s m args meth c (dC, dI) (xW cI cZ ad) (xA ad) (ExX ad) [(cI, .int), (cZ, .boolean)] cX4_rivals 7 RX4 (some .int) yX4_rivals) {σ : eSt} {a2 : Int32} {a3 : Int32} {a4 : Int32} {a5 : Int32} {a6 : Int32} {z : Int64} {r : Int32 × eSt} {k35 : Int32 → Int32 → Int32 → Option (Int32 × eSt)} (hk35 : ∀ (a3 : Int32) (a4 : Int32) (a5 : Int32), k35 a3 a4 a5 = some r → WX p l e rmX4_rivals s m args below meth c (MQ below (cQ (dC, dI) (xW cI cZ ad) (xA ad) (some (.int r.1)) r.2 z) args s 0 0 (xA ad)) (dC, dI) (xW cI cZ ad) (xA ad) 7 σ z [(0, .ref (ad 0)), (2, .int a2), (3, .int a3), (4, .int a4), (5, .int a5)] 35 []) {k45 : Int32 → Int32 → Int32 → Option (Int32 × eSt)} (hk45 : ∀ (a3 : Int32) (a4 : Int32) (a6 : Int32), k45 a3 a4 a6 = some r → WX p l e rmX4_rivals s m args below meth c (MQ below (cQ (dC, dI) (xW cI cZ ad) (xA ad) (some (.int r.1)) r.2 z) args s 0 0 (xA ad)) (dC, dI) (xW cI cZ ad) (xA ad) 7 σ z [(0, .ref (ad 0)), (2, .int a2), (3, .int a3), (4, .int a4), (5, .int a5), (6, .int a6)] 45 []) (h : fX4_rivals_85 k35 k45 σ a2 a3 a4 a5 a6 = some r) : WX p l e rmX4_rivals s m args below meth c (MQ below (cQ (dC, dI) (xW cI cZ ad) (xA ad) (some (.int r.1)) r.2 z) args s 0 0 (xA ad)) (dC, dI) (xW cI cZ ad) (xA ad) 7 σ z [(0, .ref (ad 0)), (2, .int a2), (3, .int a3), (4, .int a4), (5, .int a5), (6, .int a6)] 85 [] := by
  unfold fX4_rivals_85 at h
  refine x_iinc_b (j := 5) (w := 1) C (fun v1 => [(6, .int v1), (0, .ref (ad 0)), (2, .int a2), (3, .int a3), (4, .int a4), (5, .int a5)]) dX4_rivals_85 ic_1 rfl (by decide) h (fun _ => rfl) ?_
  intro v1 h
  refine x_goto (tgt := 45) C dX4_rivals_88 (by decide) ?_
  refine x_sub (lv' := [(0, .ref (ad 0)), (2, .int a2), (3, .int a3), (4, .int a4), (5, .int a5), (6, .int v1)]) [1, 2, 3, 4, 5, 0] rfl ?_
  exact hk45 _ _ _ h
set_option maxRecDepth 100000 in
set_option maxHeartbeats 4000000 in
theorem wX4_rivals_80 (hJ : eInj 21 ad) (C : Cx p s m args meth c (dC, dI) (xW cI cZ ad) (xA ad) (ExX ad) [(cI, .int), (cZ, .boolean)] cX4_rivals 7 RX4 (some .int) yX4_rivals) {σ : eSt} {a2 : Int32} {a3 : Int32} {a5 : Int32} {a6 : Int32} {s0 : Int32} {z : Int64} {r : Int32 × eSt} {k35 : Int32 → Int32 → Int32 → Option (Int32 × eSt)} (hk35 : ∀ (a3 : Int32) (a4 : Int32) (a5 : Int32), k35 a3 a4 a5 = some r → WX p l e rmX4_rivals s m args below meth c (MQ below (cQ (dC, dI) (xW cI cZ ad) (xA ad) (some (.int r.1)) r.2 z) args s 0 0 (xA ad)) (dC, dI) (xW cI cZ ad) (xA ad) 7 σ z [(0, .ref (ad 0)), (2, .int a2), (3, .int a3), (4, .int a4), (5, .int a5)] 35 []) {k45 : Int32 → Int32 → Int32 → Option (Int32 × eSt)} (hk45 : ∀ (a3 : Int32) (a4 : Int32) (a6 : Int32), k45 a3 a4 a6 = some r → WX p l e rmX4_rivals s m args below meth c (MQ below (cQ (dC, dI) (xW cI cZ ad) (xA ad) (some (.int r.1)) r.2 z) args s 0 0 (xA ad)) (dC, dI) (xW cI cZ ad) (xA ad) 7 σ z [(0, .ref (ad 0)), (2, .int a2), (3, .int a3), (4, .int a4), (5, .int a5), (6, .int a6)] 45 []) (h : fX4_rivals_80 k35 k45 σ a2 a3 a5 a6 s0 = some r) : WX p l e rmX4_rivals s m args below meth c (MQ below (cQ (dC, dI) (xW cI cZ ad) (xA ad) (some (.int r.1)) r.2 z) args s 0 0 (xA ad)) (dC, dI) (xW cI cZ ad) (xA ad) 7 σ z [(0, .ref (ad 0)), (2, .int a2), (3, .int a3), (5, .int a5), (6, .int a6)] 80 [.int s0] := by
  unfold fX4_rivals_80 at h
  refine x_istore (lv' := [(4, .int s0), (0, .ref (ad 0)), (2, .int a2), (3, .int a3), (5, .int a5), (6, .int a6)]) C dX4_rivals_80 (by decide) rfl ?_
  refine x_iinc_b (j := 3) (w := 1) C (fun v1 => [(3, .int v1), (4, .int s0), (0, .ref (ad 0)), (2, .int a2), (5, .int a5), (6, .int a6)]) dX4_rivals_82 ic_1 rfl (by decide) h (fun _ => rfl) ?_
  intro v1 h
  refine x_sub (lv' := [(0, .ref (ad 0)), (2, .int a2), (3, .int v1), (4, .int s0), (5, .int a5), (6, .int a6)]) [2, 3, 0, 1, 4, 5] rfl ?_
  exact wX4_rivals_85 hJ C hk35 hk45 h
set_option maxRecDepth 100000 in
set_option maxHeartbeats 4000000 in
theorem wX4_rivals_45 (hJ : eInj 21 ad) (C : Cx p s m args meth c (dC, dI) (xW cI cZ ad) (xA ad) (ExX ad) [(cI, .int), (cZ, .boolean)] cX4_rivals 7 RX4 (some .int) yX4_rivals) {σ : eSt} {a2 : Int32} {a5 : Int32} {z : Int64} {r : Int32 × eSt} {k35 : Int32 → Int32 → Int32 → Option (Int32 × eSt)} (hk35 : ∀ (a3 : Int32) (a4 : Int32) (a5 : Int32), k35 a3 a4 a5 = some r → WX p l e rmX4_rivals s m args below meth c (MQ below (cQ (dC, dI) (xW cI cZ ad) (xA ad) (some (.int r.1)) r.2 z) args s 0 0 (xA ad)) (dC, dI) (xW cI cZ ad) (xA ad) 7 σ z [(0, .ref (ad 0)), (2, .int a2), (3, .int a3), (4, .int a4), (5, .int a5)] 35 []) : ∀ (n : Nat) (a3 : Int32) (a4 : Int32) (a6 : Int32), lo_3 (bX4_rivals_45 k35 σ a2 a5) n a3 a4 a6 = some r → WX p l e rmX4_rivals s m args below meth c (MQ below (cQ (dC, dI) (xW cI cZ ad) (xA ad) (some (.int r.1)) r.2 z) args s 0 0 (xA ad)) (dC, dI) (xW cI cZ ad) (xA ad) 7 σ z [(0, .ref (ad 0)), (2, .int a2), (3, .int a3), (4, .int a4), (5, .int a5), (6, .int a6)] 45 [] := by
  refine lo_3_ind (P := fun a3 a4 a6 => WX p l e rmX4_rivals s m args below meth c (MQ below (cQ (dC, dI) (xW cI cZ ad) (xA ad) (some (.int r.1)) r.2 z) args s 0 0 (xA ad)) (dC, dI) (xW cI cZ ad) (xA ad) 7 σ z [(0, .ref (ad 0)), (2, .int a2), (3, .int a3), (4, .int a4), (5, .int a5), (6, .int a6)] 45 []) ?_
  intro k45 hk45 a3 a4 a6 h
  unfold bX4_rivals_45 at h
  refine x_iload C dX4_rivals_45 5 rfl ?_
  refine x_bipush (v := 11) C dX4_rivals_47 bi_11 ?_
  refine x_icmp_ge (tgt := 91) C dX4_rivals_49 (by decide) h ?_ ?_
  · intro h
    refine x_iinc_b (j := 4) (w := 1) C (fun v1 => [(5, .int v1), (0, .ref (ad 0)), (2, .int a2), (3, .int a3), (4, .int a4), (6, .int a6)]) dX4_rivals_91 ic_1 rfl (by decide) h (fun _ => rfl) ?_
    intro v1 h
    refine x_goto (tgt := 35) C dX4_rivals_94 (by decide) ?_
    refine x_sub (lv' := [(0, .ref (ad 0)), (2, .int a2), (3, .int a3), (4, .int a4), (5, .int v1)]) [1, 2, 3, 4, 0] rfl ?_
    exact hk35 _ _ _ h
  · intro h
    refine x_aload_n C dX4_rivals_52 rfl 0 rfl ?_
    refine x_iload C dX4_rivals_53 4 rfl ?_
    refine x_iload C dX4_rivals_55 5 rfl ?_
    obtain ⟨v2, hv, h⟩ := e_bind h
    refine x_callV_i C (ci := 4) 0 [.int a5, .int a6] (tX4_isAtRest hJ hv) k_2_209 k_2_211 k_p_20 k_1_1 k_2_212 hyX4_isAtRest ⟨rfl, rfl⟩ (by decide) rfl rfl rfl rfl (Nat.le_of_ble_eq_true rfl) dX4_rivals_57 ?_
    refine x_if_eq (tgt := 85) C dX4_rivals_60 (by decide) h ?_ ?_
    · intro h
      exact wX4_rivals_85 hJ C hk35 hk45 h
    · intro h
      refine x_iload_n C dX4_rivals_63 rfl 2 rfl ?_
      refine x_if_ne (tgt := 78) C dX4_rivals_64 (by decide) h ?_ ?_
      · intro h
        refine x_iload C dX4_rivals_78 3 rfl ?_
        refine x_sub (lv' := [(0, .ref (ad 0)), (2, .int a2), (3, .int a3), (5, .int a5), (6, .int a6)]) [0, 1, 2, 4, 5] rfl ?_
        exact wX4_rivals_80 hJ C hk35 hk45 h
      · intro h
        refine x_bipush (v := 11) C dX4_rivals_67 bi_11 ?_
        refine x_iload C dX4_rivals_69 4 rfl ?_
        refine x_imul C dX4_rivals_71 ?_
        refine x_iload C dX4_rivals_72 5 rfl ?_
        refine x_iadd C dX4_rivals_74 ?_
        refine x_goto (tgt := 80) C dX4_rivals_75 (by decide) ?_
        refine x_sub (lv' := [(0, .ref (ad 0)), (2, .int a2), (3, .int a3), (5, .int a5), (6, .int a6)]) [0, 1, 2, 4, 5] rfl ?_
        exact wX4_rivals_80 hJ C hk35 hk45 h
set_option maxRecDepth 100000 in
set_option maxHeartbeats 4000000 in
theorem wX4_rivals_35 (hJ : eInj 21 ad) (C : Cx p s m args meth c (dC, dI) (xW cI cZ ad) (xA ad) (ExX ad) [(cI, .int), (cZ, .boolean)] cX4_rivals 7 RX4 (some .int) yX4_rivals) {σ : eSt} {a2 : Int32} {z : Int64} {r : Int32 × eSt} : ∀ (n : Nat) (a3 : Int32) (a4 : Int32) (a5 : Int32), lo_3 (bX4_rivals_35 σ a2) n a3 a4 a5 = some r → WX p l e rmX4_rivals s m args below meth c (MQ below (cQ (dC, dI) (xW cI cZ ad) (xA ad) (some (.int r.1)) r.2 z) args s 0 0 (xA ad)) (dC, dI) (xW cI cZ ad) (xA ad) 7 σ z [(0, .ref (ad 0)), (2, .int a2), (3, .int a3), (4, .int a4), (5, .int a5)] 35 [] := by
  refine lo_3_ind (P := fun a3 a4 a5 => WX p l e rmX4_rivals s m args below meth c (MQ below (cQ (dC, dI) (xW cI cZ ad) (xA ad) (some (.int r.1)) r.2 z) args s 0 0 (xA ad)) (dC, dI) (xW cI cZ ad) (xA ad) 7 σ z [(0, .ref (ad 0)), (2, .int a2), (3, .int a3), (4, .int a4), (5, .int a5)] 35 []) ?_
  intro k35 hk35 a3 a4 a5 h
  unfold bX4_rivals_35 at h
  refine x_iload C dX4_rivals_35 4 rfl ?_
  refine x_bipush (v := 11) C dX4_rivals_37 bi_11 ?_
  refine x_icmp_ge (tgt := 97) C dX4_rivals_39 (by decide) h ?_ ?_
  · intro h
    refine x_iload_n C dX4_rivals_97 rfl 1 rfl ?_
    refine x_if_ne (tgt := 105) C dX4_rivals_98 (by decide) h ?_ ?_
    · intro h
      refine x_iload C dX4_rivals_105 3 rfl ?_
      exact xr_wi C h dX4_rivals_107
    · intro h
      refine x_iload_n C dX4_rivals_101 rfl 2 rfl ?_
      refine x_goto (tgt := 107) C dX4_rivals_102 (by decide) ?_
      exact xr_wi C h dX4_rivals_107
  · intro h
    refine x_iconst (v := 0) C dX4_rivals_42 ic_0 ?_
    refine x_istore (lv' := [(6, .int 0), (0, .ref (ad 0)), (2, .int a2), (3, .int a3), (4, .int a4), (5, .int a5)]) C dX4_rivals_43 (by decide) rfl ?_
    refine x_sub (lv' := [(0, .ref (ad 0)), (2, .int a2), (3, .int a3), (4, .int a4), (5, .int a5), (6, .int 0)]) [1, 2, 3, 4, 5, 0] rfl ?_
    exact wX4_rivals_45 hJ C hk35 _ _ _ _ h
set_option maxRecDepth 100000 in
set_option maxHeartbeats 4000000 in
theorem wX4_rivals_0 (hJ : eInj 21 ad) (C : Cx p s m args meth c (dC, dI) (xW cI cZ ad) (xA ad) (ExX ad) [(cI, .int), (cZ, .boolean)] cX4_rivals 7 RX4 (some .int) yX4_rivals) {σ : eSt} {a1 : Int32} {a2 : Int32} {z : Int64} {r : Int32 × eSt} (h : fX4_rivals σ a1 a2 = some r) : WX p l e rmX4_rivals s m args below meth c (MQ below (cQ (dC, dI) (xW cI cZ ad) (xA ad) (some (.int r.1)) r.2 z) args s 0 0 (xA ad)) (dC, dI) (xW cI cZ ad) (xA ad) 7 σ z [(0, .ref (ad 0)), (1, .int a1), (2, .int a2)] 0 [] := by
  unfold fX4_rivals at h
  refine x_iload_n C dX4_rivals_0 rfl 1 rfl ?_
  obtain ⟨v1, hv, h⟩ := e_bind h
  refine x_callS_i C [.int a1] (tX4_isHour hJ hv) k_2_93 k_2_94 k_1_1 k_2_95 hyX4_isHour.2 ⟨rfl, rfl⟩ (by decide) rfl rfl (Nat.le_of_ble_eq_true rfl) dX4_rivals_1 ?_
  refine x_if_eq (tgt := 14) C dX4_rivals_4 (by decide) h ?_ ?_
  · intro h
    refine x_bipush (v := (-2)) C dX4_rivals_14 bi_m2 ?_
    exact xr_wi C h dX4_rivals_16
  · intro h
    refine x_iload_n C dX4_rivals_7 rfl 2 rfl ?_
    obtain ⟨v2, hv, h⟩ := e_bind h
    refine x_callS_i C [.int a2] (tX4_isFirstOrSecond hJ hv) k_2_159 k_2_160 k_1_1 k_2_161 hyX4_isFirstOrSecond.2 ⟨rfl, rfl⟩ (by decide) rfl rfl (Nat.le_of_ble_eq_true rfl) dX4_rivals_8 ?_
    refine x_if_ne (tgt := 17) C dX4_rivals_11 (by decide) h ?_ ?_
    · intro h
      refine x_aload_n C dX4_rivals_17 rfl 0 rfl ?_
      refine x_iload_n C dX4_rivals_18 rfl 1 rfl ?_
      obtain ⟨σ3, hv, h⟩ := e_bind h
      refine x_callV_v C (ci := 4) 0 [.int a1] (tX4_fillSoundSets hJ hv) k_2_104 k_2_106 k_p_12 k_1_1 k_2_107 hyX4_fillSoundSets ⟨rfl, rfl⟩ (by decide) rfl rfl rfl rfl (Nat.le_of_ble_eq_true rfl) dX4_rivals_19 ?_
      refine x_aload_n C dX4_rivals_22 rfl 0 rfl ?_
      obtain ⟨σ4, hv, h⟩ := e_bind h
      refine x_callV_v C (ci := 4) 0 [] (tX4_fillSureByChoice hJ hv) k_2_202 k_2_204 k_p_19 k_1_1 k_2_205 hyX4_fillSureByChoice ⟨rfl, rfl⟩ (by decide) rfl rfl rfl rfl (Nat.le_of_ble_eq_true rfl) dX4_rivals_23 ?_
      refine x_iconst (v := 0) C dX4_rivals_26 ic_0 ?_
      refine x_istore_n (lv' := [(3, .int 0), (0, .ref (ad 0)), (1, .int a1), (2, .int a2)]) C dX4_rivals_27 rfl (by decide) rfl ?_
      refine x_bipush (v := (-9)) C dX4_rivals_28 bi_m9 ?_
      refine x_istore (lv' := [(4, .int (-9)), (3, .int 0), (0, .ref (ad 0)), (1, .int a1), (2, .int a2)]) C dX4_rivals_30 (by decide) rfl ?_
      refine x_iconst (v := 0) C dX4_rivals_32 ic_0 ?_
      refine x_istore (lv' := [(5, .int 0), (4, .int (-9)), (3, .int 0), (0, .ref (ad 0)), (1, .int a1), (2, .int a2)]) C dX4_rivals_33 (by decide) rfl ?_
      refine x_sub (lv' := [(0, .ref (ad 0)), (2, .int a2), (3, .int 0), (4, .int (-9)), (5, .int 0)]) [3, 5, 2, 1, 0] rfl ?_
      exact wX4_rivals_35 hJ C _ _ _ _ h
    · intro h
      refine x_bipush (v := (-2)) C dX4_rivals_14 bi_m2 ?_
      exact xr_wi C h dX4_rivals_16
set_option maxRecDepth 100000 in
set_option maxHeartbeats 4000000 in
theorem tX4_rivals {l : Launch} {dC : Nat → ClassId} {dI : Nat → Nat → Nat} {cI cZ : ClassId} {ad : Nat → Nat} (hJ : eInj 21 ad) {σ : eSt} {a1 : Int32} {a2 : Int32} {z : Int64} {r : Int32 × eSt} (h : fX4_rivals σ a1 a2 = some r) : Con l yX4_rivals cX4_rivals 7 (some .int) rmX4_rivals (dC, dI) (xW cI cZ ad) (xA ad) [(cI, .int), (cZ, .boolean)] (ExX ad) [.ref (ad 0), .int a1, .int a2] σ z (some (.int r.1)) r.2 z :=
  x_con (by decide) (xW_D hJ) (ExX_ok ad) (Nat.le_of_ble_eq_true rfl) (fun p e s m args below meth c C => wX4_rivals_0 hJ C h)
set_option maxRecDepth 100000 in
set_option maxHeartbeats 4000000 in
theorem wX4_isSure_0 (hJ : eInj 21 ad) (C : Cx p s m args meth c (dC, dI) (xW cI cZ ad) (xA ad) (ExX ad) [(cI, .int), (cZ, .boolean)] cX4_isSure 3 RX4 (some .boolean) yX4_isSure) {σ : eSt} {a1 : Int32} {a2 : Int32} {z : Int64} {r : Int32} (h : fX4_isSure σ a1 a2 = some r) : WX p l e rmX4_isSure s m args below meth c (MQ below (cQ (dC, dI) (xW cI cZ ad) (xA ad) (some (.int r)) σ z) args s 0 0 (xA ad)) (dC, dI) (xW cI cZ ad) (xA ad) 3 σ z [(0, .ref (ad 0)), (1, .int a1), (2, .int a2)] 0 [] := by
  unfold fX4_isSure at h
  refine x_aload_n C dX4_isSure_0 rfl 0 rfl ?_
  refine x_iload_n C dX4_isSure_1 rfl 2 rfl ?_
  refine x_sipush (v := 192) C dX4_isSure_2 si_192 ?_
  refine x_ior C dX4_isSure_5 ?_
  obtain ⟨v1, hv, h⟩ := e_bind h
  refine x_callV_i C (ci := 4) 0 [.int (a2 ||| 192)] (tX4_sureCells hJ hv) k_2_112 k_2_114 k_p_14 k_1_1 k_2_115 hyX4_sureCells ⟨rfl, rfl⟩ (by decide) rfl rfl rfl rfl (Nat.le_of_ble_eq_true rfl) dX4_isSure_6 ?_
  refine x_iload_n C dX4_isSure_9 rfl 1 rfl ?_
  refine x_ishr C dX4_isSure_10 ?_
  refine x_iconst (v := 1) C dX4_isSure_11 ic_1 ?_
  refine x_iand C dX4_isSure_12 ?_
  refine x_iconst (v := 1) C dX4_isSure_13 ic_1 ?_
  refine x_icmp_ne (tgt := 21) C dX4_isSure_14 (by decide) h ?_ ?_
  · intro h
    refine x_iconst (v := 0) C dX4_isSure_21 ic_0 ?_
    exact xr_z C h dX4_isSure_22
  · intro h
    refine x_iconst (v := 1) C dX4_isSure_17 ic_1 ?_
    refine x_goto (tgt := 22) C dX4_isSure_18 (by decide) ?_
    exact xr_z C h dX4_isSure_22
set_option maxRecDepth 100000 in
set_option maxHeartbeats 4000000 in
theorem tX4_isSure {l : Launch} {dC : Nat → ClassId} {dI : Nat → Nat → Nat} {cI cZ : ClassId} {ad : Nat → Nat} (hJ : eInj 21 ad) {σ : eSt} {a1 : Int32} {a2 : Int32} {z : Int64} {r : Int32} (h : fX4_isSure σ a1 a2 = some r) : Con l yX4_isSure cX4_isSure 3 (some .boolean) rmX4_isSure (dC, dI) (xW cI cZ ad) (xA ad) [(cI, .int), (cZ, .boolean)] (ExX ad) [.ref (ad 0), .int a1, .int a2] σ z (some (.int r)) σ z :=
  x_con (by decide) (xW_D hJ) (ExX_ok ad) (Nat.le_of_ble_eq_true rfl) (fun p e s m args below meth c C => wX4_isSure_0 hJ C h)
set_option maxRecDepth 100000 in
set_option maxHeartbeats 4000000 in
theorem wX4_power_4 (hJ : eInj 21 ad) (C : Cx p s m args meth c (dC, dI) (xW cI cZ ad) (xA ad) (ExX ad) [(cI, .int), (cZ, .boolean)] cX4_power 4 RX4 (some .int) yX4_power) {σ : eSt} {a0 : Int32} {a1 : Int32} {z : Int64} {r : Int32} : ∀ (n : Nat) (a2 : Int32) (a3 : Int32), lo_2 (bX4_power_4 a0 a1) n a2 a3 = some r → WX p l e rmX4_power s m args below meth c (MQ below (cQ (dC, dI) (xW cI cZ ad) (xA ad) (some (.int r)) σ z) args s 0 0 (xA ad)) (dC, dI) (xW cI cZ ad) (xA ad) 4 σ z [(0, .int a0), (1, .int a1), (2, .int a2), (3, .int a3)] 4 [] := by
  refine lo_2_ind (P := fun a2 a3 => WX p l e rmX4_power s m args below meth c (MQ below (cQ (dC, dI) (xW cI cZ ad) (xA ad) (some (.int r)) σ z) args s 0 0 (xA ad)) (dC, dI) (xW cI cZ ad) (xA ad) 4 σ z [(0, .int a0), (1, .int a1), (2, .int a2), (3, .int a3)] 4 []) ?_
  intro k4 hk4 a2 a3 h
  unfold bX4_power_4 at h
  refine x_iload_n C dX4_power_4 rfl 3 rfl ?_
  refine x_iload_n C dX4_power_5 rfl 1 rfl ?_
  refine x_icmp_ge (tgt := 19) C dX4_power_6 (by decide) h ?_ ?_
  · intro h
    refine x_iload_n C dX4_power_19 rfl 2 rfl ?_
    exact xr_i C h dX4_power_20
  · intro h
    refine x_iload_n C dX4_power_9 rfl 2 rfl ?_
    refine x_iload_n C dX4_power_10 rfl 0 rfl ?_
    refine x_imul C dX4_power_11 ?_
    refine x_istore_n_b C (fun v1 => [(2, .int v1), (0, .int a0), (1, .int a1), (3, .int a3)]) dX4_power_12 rfl (by decide) h (fun _ => rfl) ?_
    intro v1 h
    refine x_iinc_b (j := 3) (w := 1) C (fun v2 => [(3, .int v2), (2, .int v1), (0, .int a0), (1, .int a1)]) dX4_power_13 ic_1 rfl (by decide) h (fun _ => rfl) ?_
    intro v2 h
    refine x_goto (tgt := 4) C dX4_power_16 (by decide) ?_
    refine x_sub (lv' := [(0, .int a0), (1, .int a1), (2, .int v1), (3, .int v2)]) [2, 3, 1, 0] rfl ?_
    exact hk4 _ _ h
set_option maxRecDepth 100000 in
set_option maxHeartbeats 4000000 in
theorem wX4_power_0 (hJ : eInj 21 ad) (C : Cx p s m args meth c (dC, dI) (xW cI cZ ad) (xA ad) (ExX ad) [(cI, .int), (cZ, .boolean)] cX4_power 4 RX4 (some .int) yX4_power) {σ : eSt} {a0 : Int32} {a1 : Int32} {z : Int64} {r : Int32} (h : fX4_power a0 a1 = some r) : WX p l e rmX4_power s m args below meth c (MQ below (cQ (dC, dI) (xW cI cZ ad) (xA ad) (some (.int r)) σ z) args s 0 0 (xA ad)) (dC, dI) (xW cI cZ ad) (xA ad) 4 σ z [(0, .int a0), (1, .int a1)] 0 [] := by
  unfold fX4_power at h
  refine x_iconst (v := 1) C dX4_power_0 ic_1 ?_
  refine x_istore_n (lv' := [(2, .int 1), (0, .int a0), (1, .int a1)]) C dX4_power_1 rfl (by decide) rfl ?_
  refine x_iconst (v := 0) C dX4_power_2 ic_0 ?_
  refine x_istore_n (lv' := [(3, .int 0), (2, .int 1), (0, .int a0), (1, .int a1)]) C dX4_power_3 rfl (by decide) rfl ?_
  refine x_sub (lv' := [(0, .int a0), (1, .int a1), (2, .int 1), (3, .int 0)]) [2, 3, 1, 0] rfl ?_
  exact wX4_power_4 hJ C _ _ _ h
set_option maxRecDepth 100000 in
set_option maxHeartbeats 4000000 in
theorem tX4_power {l : Launch} {dC : Nat → ClassId} {dI : Nat → Nat → Nat} {cI cZ : ClassId} {ad : Nat → Nat} (hJ : eInj 21 ad) {a0 : Int32} {a1 : Int32} {σ : eSt} {z : Int64} {r : Int32} (h : fX4_power a0 a1 = some r) : Con l yX4_power cX4_power 4 (some .int) rmX4_power (dC, dI) (xW cI cZ ad) (xA ad) [(cI, .int), (cZ, .boolean)] (ExX ad) [.int a0, .int a1] σ z (some (.int r)) σ z :=
  x_con (by decide) (xW_D hJ) (ExX_ok ad) (Nat.le_of_ble_eq_true rfl) (fun p e s m args below meth c C => wX4_power_0 hJ C h)
set_option maxRecDepth 100000 in
set_option maxHeartbeats 4000000 in
theorem wX4_chance_109 (hJ : eInj 21 ad) (C : Cx p s m args meth c (dC, dI) (xW cI cZ ad) (xA ad) (ExX ad) [(cI, .int), (cZ, .boolean)] cX4_chance 10 RX4 (some .int) yX4_chance) {σ : eSt} {a1 : Int32} {a3 : Int32} {a4 : Int32} {a5 : Int32} {a6 : Int32} {a7 : Int32} {a8 : Int32} {z : Int64} {r : Int32 × eSt} {k51 : Int32 → Int32 → Option (Int32 × eSt)} (hk51 : ∀ (a7 : Int32) (a8 : Int32), k51 a7 a8 = some r → WX p l e rmX4_chance s m args below meth c (MQ below (cQ (dC, dI) (xW cI cZ ad) (xA ad) (some (.int r.1)) r.2 z) args s 0 0 (xA ad)) (dC, dI) (xW cI cZ ad) (xA ad) 10 σ z [(0, .ref (ad 0)), (1, .int a1), (3, .int a3), (4, .int a4), (5, .int a5), (6, .int a6), (7, .int a7), (8, .int a8)] 51 []) (h : fX4_chance_109 k51 σ a1 a3 a4 a5 a6 a7 a8 = some r) : WX p l e rmX4_chance s m args below meth c (MQ below (cQ (dC, dI) (xW cI cZ ad) (xA ad) (some (.int r.1)) r.2 z) args s 0 0 (xA ad)) (dC, dI) (xW cI cZ ad) (xA ad) 10 σ z [(0, .ref (ad 0)), (1, .int a1), (3, .int a3), (4, .int a4), (5, .int a5), (6, .int a6), (7, .int a7), (8, .int a8)] 109 [] := by
  unfold fX4_chance_109 at h
  refine x_iinc_b (j := 7) (w := 1) C (fun v1 => [(8, .int v1), (0, .ref (ad 0)), (1, .int a1), (3, .int a3), (4, .int a4), (5, .int a5), (6, .int a6), (7, .int a7)]) dX4_chance_109 ic_1 rfl (by decide) h (fun _ => rfl) ?_
  intro v1 h
  refine x_goto (tgt := 51) C dX4_chance_112 (by decide) ?_
  refine x_sub (lv' := [(0, .ref (ad 0)), (1, .int a1), (3, .int a3), (4, .int a4), (5, .int a5), (6, .int a6), (7, .int a7), (8, .int v1)]) [1, 2, 3, 4, 5, 6, 7, 0] rfl ?_
  exact hk51 _ _ h
set_option maxRecDepth 100000 in
set_option maxHeartbeats 4000000 in
theorem wX4_chance_51 (hJ : eInj 21 ad) (C : Cx p s m args meth c (dC, dI) (xW cI cZ ad) (xA ad) (ExX ad) [(cI, .int), (cZ, .boolean)] cX4_chance 10 RX4 (some .int) yX4_chance) {σ : eSt} {a1 : Int32} {a3 : Int32} {a4 : Int32} {a5 : Int32} {a6 : Int32} {z : Int64} {r : Int32 × eSt} : ∀ (n : Nat) (a7 : Int32) (a8 : Int32), lo_2 (bX4_chance_51 σ a1 a3 a4 a5 a6) n a7 a8 = some r → WX p l e rmX4_chance s m args below meth c (MQ below (cQ (dC, dI) (xW cI cZ ad) (xA ad) (some (.int r.1)) r.2 z) args s 0 0 (xA ad)) (dC, dI) (xW cI cZ ad) (xA ad) 10 σ z [(0, .ref (ad 0)), (1, .int a1), (3, .int a3), (4, .int a4), (5, .int a5), (6, .int a6), (7, .int a7), (8, .int a8)] 51 [] := by
  refine lo_2_ind (P := fun a7 a8 => WX p l e rmX4_chance s m args below meth c (MQ below (cQ (dC, dI) (xW cI cZ ad) (xA ad) (some (.int r.1)) r.2 z) args s 0 0 (xA ad)) (dC, dI) (xW cI cZ ad) (xA ad) 10 σ z [(0, .ref (ad 0)), (1, .int a1), (3, .int a3), (4, .int a4), (5, .int a5), (6, .int a6), (7, .int a7), (8, .int a8)] 51 []) ?_
  intro k51 hk51 a7 a8 h
  unfold bX4_chance_51 at h
  refine x_iload C dX4_chance_51 7 rfl ?_
  refine x_bipush (v := 64) C dX4_chance_53 bi_64 ?_
  refine x_icmp_ge (tgt := 115) C dX4_chance_55 (by decide) h ?_ ?_
  · intro h
    refine x_iload C dX4_chance_115 6 rfl ?_
    refine x_bipush (v := 10) C dX4_chance_117 bi_10 ?_
    refine x_iload C dX4_chance_119 5 rfl ?_
    obtain ⟨v1, hv, h⟩ := e_bind h
    refine x_callS_i C [.int 10, .int a6] (tX4_power hJ hv) k_2_221 k_2_222 k_1_1 k_2_223 hyX4_power.2 ⟨rfl, rfl⟩ (by decide) rfl rfl (Nat.le_of_ble_eq_true rfl) dX4_chance_121 ?_
    refine x_iload C dX4_chance_124 3 rfl ?_
    obtain ⟨v2, hv, h⟩ := e_bind h
    refine x_callS_i C [.int a7, .int v1, .int a4] (tX4_toldPart hJ hv) k_2_145 k_2_146 k_1_1 k_2_147 hyX4_toldPart.2 ⟨rfl, rfl⟩ (by decide) rfl rfl (Nat.le_of_ble_eq_true rfl) dX4_chance_126 ?_
    exact xr_wi C h dX4_chance_129
  · intro h
    refine x_iload C dX4_chance_58 7 rfl ?_
    refine x_iload C dX4_chance_60 4 rfl ?_
    refine x_iconst (v := (-1)) C dX4_chance_62 ic_m1 ?_
    refine x_ixor C dX4_chance_63 ?_
    refine x_iand C dX4_chance_64 ?_
    refine x_if_ne (tgt := 109) C dX4_chance_65 (by decide) h ?_ ?_
    · intro h
      exact wX4_chance_109 hJ C hk51 h
    · intro h
      refine x_aload_n C dX4_chance_68 rfl 0 rfl ?_
      refine x_iload_n C dX4_chance_69 rfl 1 rfl ?_
      refine x_iload C dX4_chance_70 7 rfl ?_
      obtain ⟨v3, hv, h⟩ := e_bind h
      refine x_callV_i C (ci := 4) 0 [.int a1, .int a8] (tX4_isSure hJ hv) k_2_217 k_2_219 k_p_21 k_1_1 k_2_220 hyX4_isSure ⟨rfl, rfl⟩ (by decide) rfl rfl rfl rfl (Nat.le_of_ble_eq_true rfl) dX4_chance_72 ?_
      refine x_if_eq (tgt := 109) C dX4_chance_75 (by decide) h ?_ ?_
      · intro h
        exact wX4_chance_109 hJ C hk51 h
      · intro h
        refine x_iload C dX4_chance_78 7 rfl ?_
        obtain ⟨v4, hv, h⟩ := e_bind h
        refine x_callS_i C [.int a8] (tJ6_bitCount_0f7a4 hJ hv) k_2_135 k_2_136 k_1_8 k_2_137 hyJ6_bitCount_0f7a4.2 ⟨rfl, rfl⟩ (by decide) rfl rfl (Nat.le_of_ble_eq_true rfl) dX4_chance_80 ?_
        refine x_istore (lv' := [(9, .int v4), (0, .ref (ad 0)), (1, .int a1), (3, .int a3), (4, .int a4), (5, .int a5), (6, .int a6), (7, .int a7), (8, .int a8)]) C dX4_chance_83 (by decide) rfl ?_
        refine x_iload C dX4_chance_85 7 rfl ?_
        refine x_bipush (v := 10) C dX4_chance_87 bi_10 ?_
        refine x_iload_n C dX4_chance_89 rfl 3 rfl ?_
        refine x_isub C dX4_chance_90 ?_
        refine x_iload C dX4_chance_91 0 rfl ?_
        obtain ⟨v5, hv, h⟩ := e_bind h
        refine x_callS_i C [.int (10 - a3), .int v4] (tX4_power hJ hv) k_2_221 k_2_222 k_1_1 k_2_223 hyX4_power.2 ⟨rfl, rfl⟩ (by decide) rfl rfl (Nat.le_of_ble_eq_true rfl) dX4_chance_93 ?_
        refine x_iload_n C dX4_chance_96 rfl 3 rfl ?_
        refine x_iload C dX4_chance_97 6 rfl ?_
        refine x_iload C dX4_chance_99 0 rfl ?_
        refine x_isub C dX4_chance_101 ?_
        obtain ⟨v6, hv, h⟩ := e_bind h
        refine x_callS_i C [.int a3, .int (a6 - v4)] (tX4_power hJ hv) k_2_221 k_2_222 k_1_1 k_2_223 hyX4_power.2 ⟨rfl, rfl⟩ (by decide) rfl rfl (Nat.le_of_ble_eq_true rfl) dX4_chance_102 ?_
        refine x_imul C dX4_chance_105 ?_
        refine x_iadd C dX4_chance_106 ?_
        refine x_istore_b C (fun v7 => [(7, .int v7), (9, .int v4), (0, .ref (ad 0)), (1, .int a1), (3, .int a3), (4, .int a4), (5, .int a5), (6, .int a6), (8, .int a8)]) dX4_chance_107 (by decide) h (fun _ => rfl) ?_
        intro v7 h
        refine x_sub (lv' := [(0, .ref (ad 0)), (1, .int a1), (3, .int a3), (4, .int a4), (5, .int a5), (6, .int a6), (7, .int v7), (8, .int a8)]) [2, 3, 4, 5, 6, 7, 0, 8] rfl ?_
        exact wX4_chance_109 hJ C hk51 h
set_option maxRecDepth 100000 in
set_option maxHeartbeats 4000000 in
theorem wX4_chance_0 (hJ : eInj 21 ad) (C : Cx p s m args meth c (dC, dI) (xW cI cZ ad) (xA ad) (ExX ad) [(cI, .int), (cZ, .boolean)] cX4_chance 10 RX4 (some .int) yX4_chance) {σ : eSt} {a1 : Int32} {a2 : Int32} {a3 : Int32} {a4 : Int32} {z : Int64} {r : Int32 × eSt} (h : fX4_chance σ a1 a2 a3 a4 = some r) : WX p l e rmX4_chance s m args below meth c (MQ below (cQ (dC, dI) (xW cI cZ ad) (xA ad) (some (.int r.1)) r.2 z) args s 0 0 (xA ad)) (dC, dI) (xW cI cZ ad) (xA ad) 10 σ z [(0, .ref (ad 0)), (1, .int a1), (2, .int a2), (3, .int a3), (4, .int a4)] 0 [] := by
  unfold fX4_chance at h
  refine x_iload_n C dX4_chance_0 rfl 1 rfl ?_
  obtain ⟨v1, hv, h⟩ := e_bind h
  refine x_callS_i C [.int a1] (tX4_isCell hJ hv) k_2_26 k_2_27 k_1_1 k_2_28 hyX4_isCell.2 ⟨rfl, rfl⟩ (by decide) rfl rfl (Nat.le_of_ble_eq_true rfl) dX4_chance_1 ?_
  refine x_if_eq (tgt := 24) C dX4_chance_4 (by decide) h ?_ ?_
  · intro h
    refine x_bipush (v := (-2)) C dX4_chance_24 bi_m2 ?_
    exact xr_wi C h dX4_chance_26
  · intro h
    refine x_iload_n C dX4_chance_7 rfl 2 rfl ?_
    obtain ⟨v2, hv, h⟩ := e_bind h
    refine x_callS_i C [.int a2] (tX4_isHour hJ hv) k_2_93 k_2_94 k_1_1 k_2_95 hyX4_isHour.2 ⟨rfl, rfl⟩ (by decide) rfl rfl (Nat.le_of_ble_eq_true rfl) dX4_chance_8 ?_
    refine x_if_eq (tgt := 24) C dX4_chance_11 (by decide) h ?_ ?_
    · intro h
      refine x_bipush (v := (-2)) C dX4_chance_24 bi_m2 ?_
      exact xr_wi C h dX4_chance_26
    · intro h
      refine x_iload_n C dX4_chance_14 rfl 3 rfl ?_
      refine x_if_lt (tgt := 24) C dX4_chance_15 (by decide) h ?_ ?_
      · intro h
        refine x_bipush (v := (-2)) C dX4_chance_24 bi_m2 ?_
        exact xr_wi C h dX4_chance_26
      · intro h
        refine x_iload_n C dX4_chance_18 rfl 3 rfl ?_
        refine x_bipush (v := 10) C dX4_chance_19 bi_10 ?_
        refine x_icmp_le (tgt := 27) C dX4_chance_21 (by decide) h ?_ ?_
        · intro h
          refine x_aload_n C dX4_chance_27 rfl 0 rfl ?_
          refine x_iload_n C dX4_chance_28 rfl 2 rfl ?_
          obtain ⟨σ3, hv, h⟩ := e_bind h
          refine x_callV_v C (ci := 4) 0 [.int a2] (tX4_fillSetsNow hJ hv) k_2_100 k_2_102 k_p_11 k_1_1 k_2_103 hyX4_fillSetsNow ⟨rfl, rfl⟩ (by decide) rfl rfl rfl rfl (Nat.le_of_ble_eq_true rfl) dX4_chance_29 ?_
          refine x_aload_n C dX4_chance_32 rfl 0 rfl ?_
          obtain ⟨v4, hv, h⟩ := e_bind h
          refine x_callV_i C (ci := 4) 0 [] (tX4_liveSounds hJ hv) k_2_45 k_2_47 k_p_9 k_1_1 k_2_48 hyX4_liveSounds ⟨rfl, rfl⟩ (by decide) rfl rfl rfl rfl (Nat.le_of_ble_eq_true rfl) dX4_chance_33 ?_
          refine x_istore (lv' := [(5, .int v4), (0, .ref (ad 0)), (1, .int a1), (2, .int a2), (3, .int a3), (4, .int a4)]) C dX4_chance_36 (by decide) rfl ?_
          refine x_iload C dX4_chance_38 0 rfl ?_
          obtain ⟨v5, hv, h⟩ := e_bind h
          refine x_callS_i C [.int v4] (tJ6_bitCount_0f7a4 hJ hv) k_2_135 k_2_136 k_1_8 k_2_137 hyJ6_bitCount_0f7a4.2 ⟨rfl, rfl⟩ (by decide) rfl rfl (Nat.le_of_ble_eq_true rfl) dX4_chance_40 ?_
          refine x_istore (lv' := [(6, .int v5), (5, .int v4), (0, .ref (ad 0)), (1, .int a1), (2, .int a2), (3, .int a3), (4, .int a4)]) C dX4_chance_43 (by decide) rfl ?_
          refine x_iconst (v := 0) C dX4_chance_45 ic_0 ?_
          refine x_istore (lv' := [(7, .int 0), (6, .int v5), (5, .int v4), (0, .ref (ad 0)), (1, .int a1), (2, .int a2), (3, .int a3), (4, .int a4)]) C dX4_chance_46 (by decide) rfl ?_
          refine x_iconst (v := 0) C dX4_chance_48 ic_0 ?_
          refine x_istore (lv' := [(8, .int 0), (7, .int 0), (6, .int v5), (5, .int v4), (0, .ref (ad 0)), (1, .int a1), (2, .int a2), (3, .int a3), (4, .int a4)]) C dX4_chance_49 (by decide) rfl ?_
          refine x_sub (lv' := [(0, .ref (ad 0)), (1, .int a1), (3, .int a3), (4, .int a4), (5, .int v4), (6, .int v5), (7, .int 0), (8, .int 0)]) [4, 5, 7, 8, 3, 2, 1, 0] rfl ?_
          exact wX4_chance_51 hJ C _ _ _ h
        · intro h
          refine x_bipush (v := (-2)) C dX4_chance_24 bi_m2 ?_
          exact xr_wi C h dX4_chance_26
set_option maxRecDepth 100000 in
set_option maxHeartbeats 4000000 in
theorem tX4_chance {l : Launch} {dC : Nat → ClassId} {dI : Nat → Nat → Nat} {cI cZ : ClassId} {ad : Nat → Nat} (hJ : eInj 21 ad) {σ : eSt} {a1 : Int32} {a2 : Int32} {a3 : Int32} {a4 : Int32} {z : Int64} {r : Int32 × eSt} (h : fX4_chance σ a1 a2 a3 a4 = some r) : Con l yX4_chance cX4_chance 10 (some .int) rmX4_chance (dC, dI) (xW cI cZ ad) (xA ad) [(cI, .int), (cZ, .boolean)] (ExX ad) [.ref (ad 0), .int a1, .int a2, .int a3, .int a4] σ z (some (.int r.1)) r.2 z :=
  x_con (by decide) (xW_D hJ) (ExX_ok ad) (Nat.le_of_ble_eq_true rfl) (fun p e s m args below meth c C => wX4_chance_0 hJ C h)
end WK

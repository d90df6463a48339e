section WK
variable {p : Program} {l : Launch} {e : Env} {s : State} {m : MethodId} {args : Array Value} {below : List Frame} {meth : Method} {c : Code} {dC : Nat → ClassId} {dI : Nat → Nat → Nat} {cI cZ : ClassId} {ad : Nat → Nat}
set_option maxRecDepth 100000 in
set_option maxHeartbeats 4000000 in
theorem wX4_heard_0 (hJ : eInj 21 ad) (C : Cx p s m args meth c (dC, dI) (xW cI cZ ad) (xA ad) (ExX ad) [(cI, .int), (cZ, .boolean)] cX4_heard 3 RX4 (some .int) yX4_heard) {σ : eSt} {a1 : Int32} {a2 : Int32} {z : Int64} {r : Int32} (h : fX4_heard σ a1 a2 = some r) : WX p l e rmX4_heard s m args below meth c (MQ below (cQ (dC, dI) (xW cI cZ ad) (xA ad) (some (.int r)) σ z) args s 0 0 (xA ad)) (dC, dI) (xW cI cZ ad) (xA ad) 3 σ z [(0, .ref (ad 0)), (1, .int a1), (2, .int a2)] 0 [] := by
  unfold fX4_heard at h
  refine x_iload_n C dX4_heard_0 rfl 1 rfl ?_
  obtain ⟨v1, hv, h⟩ := e_bind h
  refine x_callS_i C [.int a1] (tX4_isCell hJ hv) k_2_26 k_2_27 k_1_1 k_2_28 hyX4_isCell.2 ⟨rfl, rfl⟩ (by decide) rfl rfl (Nat.le_of_ble_eq_true rfl) dX4_heard_1 ?_
  refine x_if_eq (tgt := 14) C dX4_heard_4 (by decide) h ?_ ?_
  · intro h
    refine x_bipush (v := (-2)) C dX4_heard_14 bi_m2 ?_
    exact xr_i C h dX4_heard_16
  · intro h
    refine x_iload_n C dX4_heard_7 rfl 2 rfl ?_
    obtain ⟨v2, hv, h⟩ := e_bind h
    refine x_callS_i C [.int a2] (tX4_isHour hJ hv) k_2_93 k_2_94 k_1_1 k_2_95 hyX4_isHour.2 ⟨rfl, rfl⟩ (by decide) rfl rfl (Nat.le_of_ble_eq_true rfl) dX4_heard_8 ?_
    refine x_if_ne (tgt := 17) C dX4_heard_11 (by decide) h ?_ ?_
    · intro h
      refine x_aload_n C dX4_heard_17 rfl 0 rfl ?_
      refine x_iload_n C dX4_heard_18 rfl 1 rfl ?_
      refine x_iload_n C dX4_heard_19 rfl 2 rfl ?_
      obtain ⟨v3, hv, h⟩ := e_bind h
      refine x_callV_i C (ci := 4) 0 [.int a1, .int a2] (tX4_setNow hJ hv) k_2_37 k_2_39 k_p_7 k_1_1 k_2_40 hyX4_setNow ⟨rfl, rfl⟩ (by decide) rfl rfl rfl rfl (Nat.le_of_ble_eq_true rfl) dX4_heard_20 ?_
      exact xr_i C h dX4_heard_23
    · intro h
      refine x_bipush (v := (-2)) C dX4_heard_14 bi_m2 ?_
      exact xr_i C h dX4_heard_16
set_option maxRecDepth 100000 in
set_option maxHeartbeats 4000000 in
theorem tX4_heard {l : Launch} {dC : Nat → ClassId} {dI : Nat → Nat → Nat} {cI cZ : ClassId} {ad : Nat → Nat} (hJ : eInj 21 ad) {σ : eSt} {a1 : Int32} {a2 : Int32} {z : Int64} {r : Int32} (h : fX4_heard σ a1 a2 = some r) : Con l yX4_heard cX4_heard 3 (some .int) rmX4_heard (dC, dI) (xW cI cZ ad) (xA ad) [(cI, .int), (cZ, .boolean)] (ExX ad) [.ref (ad 0), .int a1, .int a2] σ z (some (.int r)) σ z :=
  x_con (by decide) (xW_D hJ) (ExX_ok ad) (Nat.le_of_ble_eq_true rfl) (fun p e s m args below meth c C => wX4_heard_0 hJ C h)
set_option maxRecDepth 100000 in
set_option maxHeartbeats 4000000 in
theorem wX4_fillSoundSets_2 (hJ : eInj 21 ad) (C : Cx p s m args meth c (dC, dI) (xW cI cZ ad) (xA ad) (ExX ad) [(cI, .int), (cZ, .boolean)] cX4_fillSoundSets 3 RX4 none yX4_fillSoundSets) {a1 : Int32} {z : Int64} {r : eSt} : ∀ (n : Nat) (a2 : Int32) (σ : eSt), lo_2 (bX4_fillSoundSets_2 a1) n a2 σ = some r → WX p l e rmX4_fillSoundSets s m args below meth c (MQ below (cQ (dC, dI) (xW cI cZ ad) (xA ad) none r z) args s 0 0 (xA ad)) (dC, dI) (xW cI cZ ad) (xA ad) 3 σ z [(0, .ref (ad 0)), (1, .int a1), (2, .int a2)] 2 [] := by
  refine lo_2_ind (P := fun a2 σ => WX p l e rmX4_fillSoundSets s m args below meth c (MQ below (cQ (dC, dI) (xW cI cZ ad) (xA ad) none r z) args s 0 0 (xA ad)) (dC, dI) (xW cI cZ ad) (xA ad) 3 σ z [(0, .ref (ad 0)), (1, .int a1), (2, .int a2)] 2 []) ?_
  intro k2 hk2 a2 σ h
  unfold bX4_fillSoundSets_2 at h
  refine x_iload_n C dX4_fillSoundSets_2 rfl 2 rfl ?_
  refine x_bipush (v := 10) C dX4_fillSoundSets_3 bi_10 ?_
  refine x_icmp_ge (tgt := 26) C dX4_fillSoundSets_5 (by decide) h ?_ ?_
  · intro h
    exact xr_wv C h dX4_fillSoundSets_26
  · intro h
    refine x_aload_n C dX4_fillSoundSets_8 rfl 0 rfl ?_
    refine fg_4_8 C 0 rfl rfl k_1_135 dX4_fillSoundSets_9 ?_
    refine x_iload_n C dX4_fillSoundSets_12 rfl 2 rfl ?_
    refine x_aload_n C dX4_fillSoundSets_13 rfl 0 rfl ?_
    refine x_iload_n C dX4_fillSoundSets_14 rfl 2 rfl ?_
    refine x_iload_n C dX4_fillSoundSets_15 rfl 1 rfl ?_
    obtain ⟨v1, hv, h⟩ := e_bind h
    refine x_callV_i C (ci := 4) 0 [.int a2, .int a1] (tX4_soundSet hJ hv) k_2_41 k_2_43 k_p_8 k_1_1 k_2_44 hyX4_soundSet ⟨rfl, rfl⟩ (by decide) rfl rfl rfl rfl (Nat.le_of_ble_eq_true rfl) dX4_fillSoundSets_16 ?_
    refine x_iast C 17 0 rfl rfl dX4_fillSoundSets_19 h rfl ?_
    intro σ2 h
    refine x_iinc_b (j := 2) (w := 1) C (fun v3 => [(2, .int v3), (0, .ref (ad 0)), (1, .int a1)]) dX4_fillSoundSets_20 ic_1 rfl (by decide) h (fun _ => rfl) ?_
    intro v3 h
    refine x_goto (tgt := 2) C dX4_fillSoundSets_23 (by decide) ?_
    refine x_sub (lv' := [(0, .ref (ad 0)), (1, .int a1), (2, .int v3)]) [1, 2, 0] rfl ?_
    exact hk2 _ _ h
set_option maxRecDepth 100000 in
set_option maxHeartbeats 4000000 in
theorem wX4_fillSoundSets_0 (hJ : eInj 21 ad) (C : Cx p s m args meth c (dC, dI) (xW cI cZ ad) (xA ad) (ExX ad) [(cI, .int), (cZ, .boolean)] cX4_fillSoundSets 3 RX4 none yX4_fillSoundSets) {σ : eSt} {a1 : Int32} {z : Int64} {r : eSt} (h : fX4_fillSoundSets σ a1 = some r) : WX p l e rmX4_fillSoundSets s m args below meth c (MQ below (cQ (dC, dI) (xW cI cZ ad) (xA ad) none r z) args s 0 0 (xA ad)) (dC, dI) (xW cI cZ ad) (xA ad) 3 σ z [(0, .ref (ad 0)), (1, .int a1)] 0 [] := by
  unfold fX4_fillSoundSets at h
  refine x_iconst (v := 0) C dX4_fillSoundSets_0 ic_0 ?_
  refine x_istore_n (lv' := [(2, .int 0), (0, .ref (ad 0)), (1, .int a1)]) C dX4_fillSoundSets_1 rfl (by decide) rfl ?_
  refine x_sub (lv' := [(0, .ref (ad 0)), (1, .int a1), (2, .int 0)]) [1, 2, 0] rfl ?_
  exact wX4_fillSoundSets_2 hJ C _ _ _ h
set_option maxRecDepth 100000 in
set_option maxHeartbeats 4000000 in
theorem tX4_fillSoundSets {l : Launch} {dC : Nat → ClassId} {dI : Nat → Nat → Nat} {cI cZ : ClassId} {ad : Nat → Nat} (hJ : eInj 21 ad) {σ : eSt} {a1 : Int32} {z : Int64} {r : eSt} (h : fX4_fillSoundSets σ a1 = some r) : Con l yX4_fillSoundSets cX4_fillSoundSets 3 none rmX4_fillSoundSets (dC, dI) (xW cI cZ ad) (xA ad) [(cI, .int), (cZ, .boolean)] (ExX ad) [.ref (ad 0), .int a1] σ z none r z :=
  x_con (by decide) (xW_D hJ) (ExX_ok ad) (Nat.le_of_ble_eq_true rfl) (fun p e s m args below meth c C => wX4_fillSoundSets_0 hJ C h)
set_option maxRecDepth 100000 in
set_option maxHeartbeats 4000000 in
theorem wX4_fillSets_2 (hJ : eInj 21 ad) (C : Cx p s m args meth c (dC, dI) (xW cI cZ ad) (xA ad) (ExX ad) [(cI, .int), (cZ, .boolean)] cX4_fillSets 4 RX4 none yX4_fillSets) {a1 : Int32} {a2 : Int32} {z : Int64} {r : eSt} : ∀ (n : Nat) (a3 : Int32) (σ : eSt), lo_2 (bX4_fillSets_2 a1 a2) n a3 σ = some r → WX p l e rmX4_fillSets s m args below meth c (MQ below (cQ (dC, dI) (xW cI cZ ad) (xA ad) none r z) args s 0 0 (xA ad)) (dC, dI) (xW cI cZ ad) (xA ad) 4 σ z [(0, .ref (ad 0)), (1, .int a1), (2, .int a2), (3, .int a3)] 2 [] := by
  refine lo_2_ind (P := fun a3 σ => WX p l e rmX4_fillSets s m args below meth c (MQ below (cQ (dC, dI) (xW cI cZ ad) (xA ad) none r z) args s 0 0 (xA ad)) (dC, dI) (xW cI cZ ad) (xA ad) 4 σ z [(0, .ref (ad 0)), (1, .int a1), (2, .int a2), (3, .int a3)] 2 []) ?_
  intro k2 hk2 a3 σ h
  unfold bX4_fillSets_2 at h
  refine x_iload_n C dX4_fillSets_2 rfl 3 rfl ?_
  refine x_bipush (v := 10) C dX4_fillSets_3 bi_10 ?_
  refine x_icmp_ge (tgt := 34) C dX4_fillSets_5 (by decide) h ?_ ?_
  · intro h
    exact xr_wv C h dX4_fillSets_34
  · intro h
    refine x_aload_n C dX4_fillSets_8 rfl 0 rfl ?_
    refine fg_4_9 C 0 rfl rfl k_1_136 dX4_fillSets_9 ?_
    refine x_iload_n C dX4_fillSets_12 rfl 3 rfl ?_
    refine x_aload_n C dX4_fillSets_13 rfl 0 rfl ?_
    refine fg_4_8 C 0 rfl rfl k_1_135 dX4_fillSets_14 ?_
    refine x_iload_n C dX4_fillSets_17 rfl 3 rfl ?_
    refine x_iald C 17 0 rfl rfl dX4_fillSets_18 h ?_
    intro h
    refine x_aload_n C dX4_fillSets_19 rfl 0 rfl ?_
    refine x_iload_n C dX4_fillSets_20 rfl 3 rfl ?_
    refine x_iload_n C dX4_fillSets_21 rfl 1 rfl ?_
    refine x_iload_n C dX4_fillSets_22 rfl 2 rfl ?_
    obtain ⟨v1, hv, h⟩ := e_bind h
    refine x_callV_i C (ci := 4) 0 [.int a3, .int a1, .int a2] (tX4_hammerSet hJ hv) k_2_49 k_2_51 k_p_10 k_1_1 k_2_52 hyX4_hammerSet ⟨rfl, rfl⟩ (by decide) rfl rfl rfl rfl (Nat.le_of_ble_eq_true rfl) dX4_fillSets_23 ?_
    refine x_ior C dX4_fillSets_26 ?_
    refine x_iast C 18 0 rfl rfl dX4_fillSets_27 h rfl ?_
    intro σ2 h
    refine x_iinc_b (j := 3) (w := 1) C (fun v3 => [(3, .int v3), (0, .ref (ad 0)), (1, .int a1), (2, .int a2)]) dX4_fillSets_28 ic_1 rfl (by decide) h (fun _ => rfl) ?_
    intro v3 h
    refine x_goto (tgt := 2) C dX4_fillSets_31 (by decide) ?_
    refine x_sub (lv' := [(0, .ref (ad 0)), (1, .int a1), (2, .int a2), (3, .int v3)]) [1, 2, 3, 0] rfl ?_
    exact hk2 _ _ h
set_option maxRecDepth 100000 in
set_option maxHeartbeats 4000000 in
theorem wX4_fillSets_0 (hJ : eInj 21 ad) (C : Cx p s m args meth c (dC, dI) (xW cI cZ ad) (xA ad) (ExX ad) [(cI, .int), (cZ, .boolean)] cX4_fillSets 4 RX4 none yX4_fillSets) {σ : eSt} {a1 : Int32} {a2 : Int32} {z : Int64} {r : eSt} (h : fX4_fillSets σ a1 a2 = some r) : WX p l e rmX4_fillSets s m args below meth c (MQ below (cQ (dC, dI) (xW cI cZ ad) (xA ad) none r z) args s 0 0 (xA ad)) (dC, dI) (xW cI cZ ad) (xA ad) 4 σ z [(0, .ref (ad 0)), (1, .int a1), (2, .int a2)] 0 [] := by
  unfold fX4_fillSets at h
  refine x_iconst (v := 0) C dX4_fillSets_0 ic_0 ?_
  refine x_istore_n (lv' := [(3, .int 0), (0, .ref (ad 0)), (1, .int a1), (2, .int a2)]) C dX4_fillSets_1 rfl (by decide) rfl ?_
  refine x_sub (lv' := [(0, .ref (ad 0)), (1, .int a1), (2, .int a2), (3, .int 0)]) [1, 2, 3, 0] rfl ?_
  exact wX4_fillSets_2 hJ C _ _ _ h
set_option maxRecDepth 100000 in
set_option maxHeartbeats 4000000 in
theorem tX4_fillSets {l : Launch} {dC : Nat → ClassId} {dI : Nat → Nat → Nat} {cI cZ : ClassId} {ad : Nat → Nat} (hJ : eInj 21 ad) {σ : eSt} {a1 : Int32} {a2 : Int32} {z : Int64} {r : eSt} (h : fX4_fillSets σ a1 a2 = some r) : Con l yX4_fillSets cX4_fillSets 4 none rmX4_fillSets (dC, dI) (xW cI cZ ad) (xA ad) [(cI, .int), (cZ, .boolean)] (ExX ad) [.ref (ad 0), .int a1, .int a2] σ z none r z :=
  x_con (by decide) (xW_D hJ) (ExX_ok ad) (Nat.le_of_ble_eq_true rfl) (fun p e s m args below meth c C => wX4_fillSets_0 hJ C h)
set_option maxRecDepth 100000 in
set_option maxHeartbeats 4000000 in
theorem wX4_fillSetsNow_0 (hJ : eInj 21 ad) (C : Cx p s m args meth c (dC, dI) (xW cI cZ ad) (xA ad) (ExX ad) [(cI, .int), (cZ, .boolean)] cX4_fillSetsNow 2 RX4 none yX4_fillSetsNow) {σ : eSt} {a1 : Int32} {z : Int64} {r : eSt} (h : fX4_fillSetsNow σ a1 = some r) : WX p l e rmX4_fillSetsNow s m args below meth c (MQ below (cQ (dC, dI) (xW cI cZ ad) (xA ad) none r z) args s 0 0 (xA ad)) (dC, dI) (xW cI cZ ad) (xA ad) 2 σ z [(0, .ref (ad 0)), (1, .int a1)] 0 [] := by
  unfold fX4_fillSetsNow at h
  refine x_aload_n C dX4_fillSetsNow_0 rfl 0 rfl ?_
  refine x_iload_n C dX4_fillSetsNow_1 rfl 1 rfl ?_
  obtain ⟨σ1, hv, h⟩ := e_bind h
  refine x_callV_v C (ci := 4) 0 [.int a1] (tX4_fillSoundSets hJ hv) k_2_104 k_2_106 k_p_12 k_1_1 k_2_107 hyX4_fillSoundSets ⟨rfl, rfl⟩ (by decide) rfl rfl rfl rfl (Nat.le_of_ble_eq_true rfl) dX4_fillSetsNow_2 ?_
  refine x_aload_n C dX4_fillSetsNow_5 rfl 0 rfl ?_
  refine x_aload_n C dX4_fillSetsNow_6 rfl 0 rfl ?_
  refine fg_4_2 C 0 rfl rfl k_1_129 dX4_fillSetsNow_7 ?_
  refine fg_0_3 C 9 rfl rfl k_1_77 dX4_fillSetsNow_10 ?_
  refine x_aload_n C dX4_fillSetsNow_13 rfl 0 rfl ?_
  refine fg_4_2 C 0 rfl rfl k_1_129 dX4_fillSetsNow_14 ?_
  refine fg_0_4 C 9 rfl rfl k_1_79 dX4_fillSetsNow_17 ?_
  obtain ⟨σ2, hv, h⟩ := e_bind h
  refine x_callV_v C (ci := 4) 0 [.int (σ1 9 3), .int (σ1 9 4)] (tX4_fillSets hJ hv) k_2_108 k_2_110 k_p_13 k_1_1 k_2_111 hyX4_fillSets ⟨rfl, rfl⟩ (by decide) rfl rfl rfl rfl (Nat.le_of_ble_eq_true rfl) dX4_fillSetsNow_20 ?_
  exact xr_wv C h dX4_fillSetsNow_23
set_option maxRecDepth 100000 in
set_option maxHeartbeats 4000000 in
theorem tX4_fillSetsNow {l : Launch} {dC : Nat → ClassId} {dI : Nat → Nat → Nat} {cI cZ : ClassId} {ad : Nat → Nat} (hJ : eInj 21 ad) {σ : eSt} {a1 : Int32} {z : Int64} {r : eSt} (h : fX4_fillSetsNow σ a1 = some r) : Con l yX4_fillSetsNow cX4_fillSetsNow 2 none rmX4_fillSetsNow (dC, dI) (xW cI cZ ad) (xA ad) [(cI, .int), (cZ, .boolean)] (ExX ad) [.ref (ad 0), .int a1] σ z none r z :=
  x_con (by decide) (xW_D hJ) (ExX_ok ad) (Nat.le_of_ble_eq_true rfl) (fun p e s m args below meth c C => wX4_fillSetsNow_0 hJ C h)
set_option maxRecDepth 100000 in
set_option maxHeartbeats 4000000 in
theorem wX4_sureCells_52 (hJ : eInj 21 ad) (C : Cx p s m args meth c (dC, dI) (xW cI cZ ad) (xA ad) (ExX ad) [(cI, .int), (cZ, .boolean)] cX4_sureCells 5 RX4 (some .int) yX4_sureCells) {σ : eSt} {a1 : Int32} {a2 : Int32} {a3 : Int32} {a4 : Int32} {z : Int64} {r : Int32} {k4 : Int32 → Int32 → Option (Int32)} (hk4 : ∀ (a2 : Int32) (a3 : Int32), k4 a2 a3 = some r → WX p l e rmX4_sureCells s m args below meth c (MQ below (cQ (dC, dI) (xW cI cZ ad) (xA ad) (some (.int r)) σ z) args s 0 0 (xA ad)) (dC, dI) (xW cI cZ ad) (xA ad) 5 σ z [(0, .ref (ad 0)), (1, .int a1), (2, .int a2), (3, .int a3)] 4 []) {k15 : Int32 → Int32 → Option (Int32)} (hk15 : ∀ (a2 : Int32) (a4 : Int32), k15 a2 a4 = some r → WX p l e rmX4_sureCells s m args below meth c (MQ below (cQ (dC, dI) (xW cI cZ ad) (xA ad) (some (.int r)) σ z) args s 0 0 (xA ad)) (dC, dI) (xW cI cZ ad) (xA ad) 5 σ z [(0, .ref (ad 0)), (1, .int a1), (2, .int a2), (3, .int a3), (4, .int a4)] 15 []) (h : fX4_sureCells_52 k4 k15 σ a1 a2 a3 a4 = some r) : WX p l e rmX4_sureCells s m args below meth c (MQ below (cQ (dC, dI) (xW cI cZ ad) (xA ad) (some (.int r)) σ z) args s 0 0 (xA ad)) (dC, dI) (xW cI cZ ad) (xA ad) 5 σ z [(0, .ref (ad 0)), (1, .int a1), (2, .int a2), (3, .int a3), (4, .int a4)] 52 [] := by
  unfold fX4_sureCells_52 at h
  refine x_iinc_b (j := 4) (w := 1) C (fun v1 => [(4, .int v1), (0, .ref (ad 0)), (1, .int a1), (2, .int a2), (3, .int a3)]) dX4_sureCells_52 ic_1 rfl (by decide) h (fun _ => rfl) ?_
  intro v1 h
  refine x_goto (tgt := 15) C dX4_sureCells_55 (by decide) ?_
  refine x_sub (lv' := [(0, .ref (ad 0)), (1, .int a1), (2, .int a2), (3, .int a3), (4, .int v1)]) [1, 2, 3, 4, 0] rfl ?_
  exact hk15 _ _ h
set_option maxRecDepth 100000 in
set_option maxHeartbeats 4000000 in
theorem wX4_sureCells_15 (hJ : eInj 21 ad) (C : Cx p s m args meth c (dC, dI) (xW cI cZ ad) (xA ad) (ExX ad) [(cI, .int), (cZ, .boolean)] cX4_sureCells 5 RX4 (some .int) yX4_sureCells) {σ : eSt} {a1 : Int32} {a3 : Int32} {z : Int64} {r : Int32} {k4 : Int32 → Int32 → Option (Int32)} (hk4 : ∀ (a2 : Int32) (a3 : Int32), k4 a2 a3 = some r → WX p l e rmX4_sureCells s m args below meth c (MQ below (cQ (dC, dI) (xW cI cZ ad) (xA ad) (some (.int r)) σ z) args s 0 0 (xA ad)) (dC, dI) (xW cI cZ ad) (xA ad) 5 σ z [(0, .ref (ad 0)), (1, .int a1), (2, .int a2), (3, .int a3)] 4 []) : ∀ (n : Nat) (a2 : Int32) (a4 : Int32), lo_2 (bX4_sureCells_15 k4 σ a1 a3) n a2 a4 = some r → WX p l e rmX4_sureCells s m args below meth c (MQ below (cQ (dC, dI) (xW cI cZ ad) (xA ad) (some (.int r)) σ z) args s 0 0 (xA ad)) (dC, dI) (xW cI cZ ad) (xA ad) 5 σ z [(0, .ref (ad 0)), (1, .int a1), (2, .int a2), (3, .int a3), (4, .int a4)] 15 [] := by
  refine lo_2_ind (P := fun a2 a4 => WX p l e rmX4_sureCells s m args below meth c (MQ below (cQ (dC, dI) (xW cI cZ ad) (xA ad) (some (.int r)) σ z) args s 0 0 (xA ad)) (dC, dI) (xW cI cZ ad) (xA ad) 5 σ z [(0, .ref (ad 0)), (1, .int a1), (2, .int a2), (3, .int a3), (4, .int a4)] 15 []) ?_
  intro k15 hk15 a2 a4 h
  unfold bX4_sureCells_15 at h
  refine x_iload C dX4_sureCells_15 4 rfl ?_
  refine x_bipush (v := 10) C dX4_sureCells_17 bi_10 ?_
  refine x_icmp_ge (tgt := 58) C dX4_sureCells_19 (by decide) h ?_ ?_
  · intro h
    refine x_iinc_b (j := 3) (w := 1) C (fun v1 => [(3, .int v1), (0, .ref (ad 0)), (1, .int a1), (2, .int a2), (4, .int a4)]) dX4_sureCells_58 ic_1 rfl (by decide) h (fun _ => rfl) ?_
    intro v1 h
    refine x_goto (tgt := 4) C dX4_sureCells_61 (by decide) ?_
    refine x_sub (lv' := [(0, .ref (ad 0)), (1, .int a1), (2, .int a2), (3, .int v1)]) [1, 2, 3, 0] rfl ?_
    exact hk4 _ _ h
  · intro h
    refine x_aload_n C dX4_sureCells_22 rfl 0 rfl ?_
    refine fg_4_9 C 0 rfl rfl k_1_136 dX4_sureCells_23 ?_
    refine x_iload_n C dX4_sureCells_26 rfl 3 rfl ?_
    refine x_iald C 18 0 rfl rfl dX4_sureCells_27 h ?_
    intro h
    refine x_aload_n C dX4_sureCells_28 rfl 0 rfl ?_
    refine fg_4_9 C 0 rfl rfl k_1_136 dX4_sureCells_29 ?_
    refine x_iload C dX4_sureCells_32 4 rfl ?_
    refine x_iald C 18 0 rfl rfl dX4_sureCells_34 h ?_
    intro h
    refine x_ixor C dX4_sureCells_35 ?_
    refine x_iload_n C dX4_sureCells_36 rfl 1 rfl ?_
    refine x_iand C dX4_sureCells_37 ?_
    refine x_if_ne (tgt := 52) C dX4_sureCells_38 (by decide) h ?_ ?_
    · intro h
      exact wX4_sureCells_52 hJ C hk4 hk15 h
    · intro h
      refine x_iload_n C dX4_sureCells_41 rfl 2 rfl ?_
      refine x_iconst (v := 1) C dX4_sureCells_42 ic_1 ?_
      refine x_iload_n C dX4_sureCells_43 rfl 3 rfl ?_
      refine x_ishl C dX4_sureCells_44 ?_
      refine x_iconst (v := 1) C dX4_sureCells_45 ic_1 ?_
      refine x_iload C dX4_sureCells_46 4 rfl ?_
      refine x_ishl C dX4_sureCells_48 ?_
      refine x_ior C dX4_sureCells_49 ?_
      refine x_ior C dX4_sureCells_50 ?_
      refine x_istore_n_b C (fun v2 => [(2, .int v2), (0, .ref (ad 0)), (1, .int a1), (3, .int a3), (4, .int a4)]) dX4_sureCells_51 rfl (by decide) h (fun _ => rfl) ?_
      intro v2 h
      refine x_sub (lv' := [(0, .ref (ad 0)), (1, .int a1), (2, .int v2), (3, .int a3), (4, .int a4)]) [1, 2, 0, 3, 4] rfl ?_
      exact wX4_sureCells_52 hJ C hk4 hk15 h
set_option maxRecDepth 100000 in
set_option maxHeartbeats 4000000 in
theorem wX4_sureCells_4 (hJ : eInj 21 ad) (C : Cx p s m args meth c (dC, dI) (xW cI cZ ad) (xA ad) (ExX ad) [(cI, .int), (cZ, .boolean)] cX4_sureCells 5 RX4 (some .int) yX4_sureCells) {σ : eSt} {a1 : Int32} {z : Int64} {r : Int32} : ∀ (n : Nat) (a2 : Int32) (a3 : Int32), lo_2 (bX4_sureCells_4 σ a1) n a2 a3 = some r → WX p l e rmX4_sureCells s m args below meth c (MQ below (cQ (dC, dI) (xW cI cZ ad) (xA ad) (some (.int r)) σ z) args s 0 0 (xA ad)) (dC, dI) (xW cI cZ ad) (xA ad) 5 σ z [(0, .ref (ad 0)), (1, .int a1), (2, .int a2), (3, .int a3)] 4 [] := by
  refine lo_2_ind (P := fun a2 a3 => WX p l e rmX4_sureCells s m args below meth c (MQ below (cQ (dC, dI) (xW cI cZ ad) (xA ad) (some (.int r)) σ z) args s 0 0 (xA ad)) (dC, dI) (xW cI cZ ad) (xA ad) 5 σ z [(0, .ref (ad 0)), (1, .int a1), (2, .int a2), (3, .int a3)] 4 []) ?_
  intro k4 hk4 a2 a3 h
  unfold bX4_sureCells_4 at h
  refine x_iload_n C dX4_sureCells_4 rfl 3 rfl ?_
  refine x_bipush (v := 10) C dX4_sureCells_5 bi_10 ?_
  refine x_icmp_ge (tgt := 64) C dX4_sureCells_7 (by decide) h ?_ ?_
  · intro h
    refine x_sipush (v := 1023) C dX4_sureCells_64 si_1023 ?_
    refine x_iload_n C dX4_sureCells_67 rfl 2 rfl ?_
    refine x_iconst (v := (-1)) C dX4_sureCells_68 ic_m1 ?_
    refine x_ixor C dX4_sureCells_69 ?_
    refine x_iand C dX4_sureCells_70 ?_
    exact xr_i C h dX4_sureCells_71
  · intro h
    refine x_iload_n C dX4_sureCells_10 rfl 3 rfl ?_
    refine x_iconst (v := 1) C dX4_sureCells_11 ic_1 ?_
    refine x_iadd C dX4_sureCells_12 ?_
    refine x_istore_b C (fun v1 => [(4, .int v1), (0, .ref (ad 0)), (1, .int a1), (2, .int a2), (3, .int a3)]) dX4_sureCells_13 (by decide) h (fun _ => rfl) ?_
    intro v1 h
    refine x_sub (lv' := [(0, .ref (ad 0)), (1, .int a1), (2, .int a2), (3, .int a3), (4, .int v1)]) [1, 2, 3, 4, 0] rfl ?_
    exact wX4_sureCells_15 hJ C hk4 _ _ _ h
set_option maxRecDepth 100000 in
set_option maxHeartbeats 4000000 in
theorem wX4_sureCells_0 (hJ : eInj 21 ad) (C : Cx p s m args meth c (dC, dI) (xW cI cZ ad) (xA ad) (ExX ad) [(cI, .int), (cZ, .boolean)] cX4_sureCells 5 RX4 (some .int) yX4_sureCells) {σ : eSt} {a1 : Int32} {z : Int64} {r : Int32} (h : fX4_sureCells σ a1 = some r) : WX p l e rmX4_sureCells s m args below meth c (MQ below (cQ (dC, dI) (xW cI cZ ad) (xA ad) (some (.int r)) σ z) args s 0 0 (xA ad)) (dC, dI) (xW cI cZ ad) (xA ad) 5 σ z [(0, .ref (ad 0)), (1, .int a1)] 0 [] := by
  unfold fX4_sureCells at h
  refine x_iconst (v := 0) C dX4_sureCells_0 ic_0 ?_
  refine x_istore_n (lv' := [(2, .int 0), (0, .ref (ad 0)), (1, .int a1)]) C dX4_sureCells_1 rfl (by decide) rfl ?_
  refine x_iconst (v := 0) C dX4_sureCells_2 ic_0 ?_
  refine x_istore_n (lv' := [(3, .int 0), (2, .int 0), (0, .ref (ad 0)), (1, .int a1)]) C dX4_sureCells_3 rfl (by decide) rfl ?_
  refine x_sub (lv' := [(0, .ref (ad 0)), (1, .int a1), (2, .int 0), (3, .int 0)]) [2, 3, 1, 0] rfl ?_
  exact wX4_sureCells_4 hJ C _ _ _ h
set_option maxRecDepth 100000 in
set_option maxHeartbeats 4000000 in
theorem tX4_sureCells {l : Launch} {dC : Nat → ClassId} {dI : Nat → Nat → Nat} {cI cZ : ClassId} {ad : Nat → Nat} (hJ : eInj 21 ad) {σ : eSt} {a1 : Int32} {z : Int64} {r : Int32} (h : fX4_sureCells σ a1 = some r) : Con l yX4_sureCells cX4_sureCells 5 (some .int) rmX4_sureCells (dC, dI) (xW cI cZ ad) (xA ad) [(cI, .int), (cZ, .boolean)] (ExX ad) [.ref (ad 0), .int a1] σ z (some (.int r)) σ z :=
  x_con (by decide) (xW_D hJ) (ExX_ok ad) (Nat.le_of_ble_eq_true rfl) (fun p e s m args below meth c C => wX4_sureCells_0 hJ C h)
set_option maxRecDepth 100000 in
set_option maxHeartbeats 4000000 in
theorem wX4_sure_0 (hJ : eInj 21 ad) (C : Cx p s m args meth c (dC, dI) (xW cI cZ ad) (xA ad) (ExX ad) [(cI, .int), (cZ, .boolean)] cX4_sure 2 RX4 (some .int) yX4_sure) {σ : eSt} {a1 : Int32} {z : Int64} {r : Int32 × eSt} (h : fX4_sure σ a1 = some r) : WX p l e rmX4_sure s m args below meth c (MQ below (cQ (dC, dI) (xW cI cZ ad) (xA ad) (some (.int r.1)) r.2 z) args s 0 0 (xA ad)) (dC, dI) (xW cI cZ ad) (xA ad) 2 σ z [(0, .ref (ad 0)), (1, .int a1)] 0 [] := by
  unfold fX4_sure at h
  refine x_iload_n C dX4_sure_0 rfl 1 rfl ?_
  obtain ⟨v1, hv, h⟩ := e_bind h
  refine x_callS_i C [.int a1] (tX4_isHour hJ hv) k_2_93 k_2_94 k_1_1 k_2_95 hyX4_isHour.2 ⟨rfl, rfl⟩ (by decide) rfl rfl (Nat.le_of_ble_eq_true rfl) dX4_sure_1 ?_
  refine x_if_ne (tgt := 10) C dX4_sure_4 (by decide) h ?_ ?_
  · intro h
    refine x_aload_n C dX4_sure_10 rfl 0 rfl ?_
    refine x_iload_n C dX4_sure_11 rfl 1 rfl ?_
    obtain ⟨σ2, hv, h⟩ := e_bind h
    refine x_callV_v C (ci := 4) 0 [.int a1] (tX4_fillSetsNow hJ hv) k_2_100 k_2_102 k_p_11 k_1_1 k_2_103 hyX4_fillSetsNow ⟨rfl, rfl⟩ (by decide) rfl rfl rfl rfl (Nat.le_of_ble_eq_true rfl) dX4_sure_12 ?_
    refine x_aload_n C dX4_sure_15 rfl 0 rfl ?_
    refine x_sipush (v := 255) C dX4_sure_16 si_255 ?_
    obtain ⟨v3, hv, h⟩ := e_bind h
    refine x_callV_i C (ci := 4) 0 [.int 255] (tX4_sureCells hJ hv) k_2_112 k_2_114 k_p_14 k_1_1 k_2_115 hyX4_sureCells ⟨rfl, rfl⟩ (by decide) rfl rfl rfl rfl (Nat.le_of_ble_eq_true rfl) dX4_sure_19 ?_
    exact xr_wi C h dX4_sure_22
  · intro h
    refine x_bipush (v := (-2)) C dX4_sure_7 bi_m2 ?_
    exact xr_wi C h dX4_sure_9
set_option maxRecDepth 100000 in
set_option maxHeartbeats 4000000 in
theorem tX4_sure {l : Launch} {dC : Nat → ClassId} {dI : Nat → Nat → Nat} {cI cZ : ClassId} {ad : Nat → Nat} (hJ : eInj 21 ad) {σ : eSt} {a1 : Int32} {z : Int64} {r : Int32 × eSt} (h : fX4_sure σ a1 = some r) : Con l yX4_sure cX4_sure 2 (some .int) rmX4_sure (dC, dI) (xW cI cZ ad) (xA ad) [(cI, .int), (cZ, .boolean)] (ExX ad) [.ref (ad 0), .int a1] σ z (some (.int r.1)) r.2 z :=
  x_con (by decide) (xW_D hJ) (ExX_ok ad) (Nat.le_of_ble_eq_true rfl) (fun p e s m args below meth c C => wX4_sure_0 hJ C h)
set_option maxRecDepth 100000 in
set_option maxHeartbeats 4000000 in
theorem wX4_isSet_0 (hJ : eInj 21 ad) (C : Cx p s m args meth c (dC, dI) (xW cI cZ ad) (xA ad) (ExX ad) [(cI, .int), (cZ, .boolean)] cX4_isSet 1 RX4 (some .boolean) yX4_isSet) {σ : eSt} {a0 : Int32} {z : Int64} {r : Int32} (h : fX4_isSet a0 = some r) : WX p l e rmX4_isSet s m args below meth c (MQ below (cQ (dC, dI) (xW cI cZ ad) (xA ad) (some (.int r)) σ z) args s 0 0 (xA ad)) (dC, dI) (xW cI cZ ad) (xA ad) 1 σ z [(0, .int a0)] 0 [] := by
  unfold fX4_isSet at h
  refine x_iload_n C dX4_isSet_0 rfl 0 rfl ?_
  refine x_if_lt (tgt := 15) C dX4_isSet_1 (by decide) h ?_ ?_
  · intro h
    refine x_iconst (v := 0) C dX4_isSet_15 ic_0 ?_
    exact xr_z C h dX4_isSet_16
  · intro h
    refine x_iload_n C dX4_isSet_4 rfl 0 rfl ?_
    refine x_sipush (v := 255) C dX4_isSet_5 si_255 ?_
    refine x_icmp_gt (tgt := 15) C dX4_isSet_8 (by decide) h ?_ ?_
    · intro h
      refine x_iconst (v := 0) C dX4_isSet_15 ic_0 ?_
      exact xr_z C h dX4_isSet_16
    · intro h
      refine x_iconst (v := 1) C dX4_isSet_11 ic_1 ?_
      refine x_goto (tgt := 16) C dX4_isSet_12 (by decide) ?_
      exact xr_z C h dX4_isSet_16
set_option maxRecDepth 100000 in
set_option maxHeartbeats 4000000 in
theorem tX4_isSet {l : Launch} {dC : Nat → ClassId} {dI : Nat → Nat → Nat} {cI cZ : ClassId} {ad : Nat → Nat} (hJ : eInj 21 ad) {a0 : Int32} {σ : eSt} {z : Int64} {r : Int32} (h : fX4_isSet a0 = some r) : Con l yX4_isSet cX4_isSet 1 (some .boolean) rmX4_isSet (dC, dI) (xW cI cZ ad) (xA ad) [(cI, .int), (cZ, .boolean)] (ExX ad) [.int a0] σ z (some (.int r)) σ z :=
  x_con (by decide) (xW_D hJ) (ExX_ok ad) (Nat.le_of_ble_eq_true rfl) (fun p e s m args below meth c C => wX4_isSet_0 hJ C h)
set_option maxRecDepth 100000 in
set_option maxHeartbeats 4000000 in
theorem wX4_where_47 (hJ : eInj 21 ad) (C : Cx p s m args meth c (dC, dI) (xW cI cZ ad) (xA ad) (ExX ad) [(cI, .int), (cZ, .boolean)] cX4_where 5 RX4 (some .int) yX4_where) {σ : eSt} {a1 : Int32} {a2 : Int32} {a3 : Int32} {a4 : Int32} {z : Int64} {r : Int32} {k22 : Int32 → Int32 → Option (Int32)} (hk22 : ∀ (a3 : Int32) (a4 : Int32), k22 a3 a4 = some r → WX p l e rmX4_where s m args below meth c (MQ below (cQ (dC, dI) (xW cI cZ ad) (xA ad) (some (.int r)) σ z) args s 0 0 (xA ad)) (dC, dI) (xW cI cZ ad) (xA ad) 5 σ z [(0, .ref (ad 0)), (1, .int a1), (2, .int a2), (3, .int a3), (4, .int a4)] 22 []) (h : fX4_where_47 k22 σ a1 a2 a3 a4 = some r) : WX p l e rmX4_where s m args below meth c (MQ below (cQ (dC, dI) (xW cI cZ ad) (xA ad) (some (.int r)) σ z) args s 0 0 (xA ad)) (dC, dI) (xW cI cZ ad) (xA ad) 5 σ z [(0, .ref (ad 0)), (1, .int a1), (2, .int a2), (3, .int a3), (4, .int a4)] 47 [] := by
  unfold fX4_where_47 at h
  refine x_iinc_b (j := 4) (w := 1) C (fun v1 => [(4, .int v1), (0, .ref (ad 0)), (1, .int a1), (2, .int a2), (3, .int a3)]) dX4_where_47 ic_1 rfl (by decide) h (fun _ => rfl) ?_
  intro v1 h
  refine x_goto (tgt := 22) C dX4_where_50 (by decide) ?_
  refine x_sub (lv' := [(0, .ref (ad 0)), (1, .int a1), (2, .int a2), (3, .int a3), (4, .int v1)]) [1, 2, 3, 4, 0] rfl ?_
  exact hk22 _ _ h
set_option maxRecDepth 100000 in
set_option maxHeartbeats 4000000 in
theorem wX4_where_22 (hJ : eInj 21 ad) (C : Cx p s m args meth c (dC, dI) (xW cI cZ ad) (xA ad) (ExX ad) [(cI, .int), (cZ, .boolean)] cX4_where 5 RX4 (some .int) yX4_where) {σ : eSt} {a1 : Int32} {a2 : Int32} {z : Int64} {r : Int32} : ∀ (n : Nat) (a3 : Int32) (a4 : Int32), lo_2 (bX4_where_22 σ a1 a2) n a3 a4 = some r → WX p l e rmX4_where s m args below meth c (MQ below (cQ (dC, dI) (xW cI cZ ad) (xA ad) (some (.int r)) σ z) args s 0 0 (xA ad)) (dC, dI) (xW cI cZ ad) (xA ad) 5 σ z [(0, .ref (ad 0)), (1, .int a1), (2, .int a2), (3, .int a3), (4, .int a4)] 22 [] := by
  refine lo_2_ind (P := fun a3 a4 => WX p l e rmX4_where s m args below meth c (MQ below (cQ (dC, dI) (xW cI cZ ad) (xA ad) (some (.int r)) σ z) args s 0 0 (xA ad)) (dC, dI) (xW cI cZ ad) (xA ad) 5 σ z [(0, .ref (ad 0)), (1, .int a1), (2, .int a2), (3, .int a3), (4, .int a4)] 22 []) ?_
  intro k22 hk22 a3 a4 h
  unfold bX4_where_22 at h
  refine x_iload C dX4_where_22 4 rfl ?_
  refine x_bipush (v := 10) C dX4_where_24 bi_10 ?_
  refine x_icmp_ge (tgt := 53) C dX4_where_26 (by decide) h ?_ ?_
  · intro h
    refine x_iload_n C dX4_where_53 rfl 3 rfl ?_
    exact xr_i C h dX4_where_54
  · intro h
    refine x_aload_n C dX4_where_29 rfl 0 rfl ?_
    refine x_iload C dX4_where_30 4 rfl ?_
    refine x_iload_n C dX4_where_32 rfl 2 rfl ?_
    obtain ⟨v1, hv, h⟩ := e_bind h
    refine x_callV_i C (ci := 4) 0 [.int a4, .int a2] (tX4_setNow hJ hv) k_2_37 k_2_39 k_p_7 k_1_1 k_2_40 hyX4_setNow ⟨rfl, rfl⟩ (by decide) rfl rfl rfl rfl (Nat.le_of_ble_eq_true rfl) dX4_where_33 ?_
    refine x_iload_n C dX4_where_36 rfl 1 rfl ?_
    refine x_icmp_ne (tgt := 47) C dX4_where_37 (by decide) h ?_ ?_
    · intro h
      exact wX4_where_47 hJ C hk22 h
    · intro h
      refine x_iload_n C dX4_where_40 rfl 3 rfl ?_
      refine x_iconst (v := 1) C dX4_where_41 ic_1 ?_
      refine x_iload C dX4_where_42 4 rfl ?_
      refine x_ishl C dX4_where_44 ?_
      refine x_ior C dX4_where_45 ?_
      refine x_istore_n_b C (fun v2 => [(3, .int v2), (0, .ref (ad 0)), (1, .int a1), (2, .int a2), (4, .int a4)]) dX4_where_46 rfl (by decide) h (fun _ => rfl) ?_
      intro v2 h
      refine x_sub (lv' := [(0, .ref (ad 0)), (1, .int a1), (2, .int a2), (3, .int v2), (4, .int a4)]) [1, 2, 3, 0, 4] rfl ?_
      exact wX4_where_47 hJ C hk22 h
set_option maxRecDepth 100000 in
set_option maxHeartbeats 4000000 in
theorem wX4_where_0 (hJ : eInj 21 ad) (C : Cx p s m args meth c (dC, dI) (xW cI cZ ad) (xA ad) (ExX ad) [(cI, .int), (cZ, .boolean)] cX4_where 5 RX4 (some .int) yX4_where) {σ : eSt} {a1 : Int32} {a2 : Int32} {z : Int64} {r : Int32} (h : fX4_where σ a1 a2 = some r) : WX p l e rmX4_where s m args below meth c (MQ below (cQ (dC, dI) (xW cI cZ ad) (xA ad) (some (.int r)) σ z) args s 0 0 (xA ad)) (dC, dI) (xW cI cZ ad) (xA ad) 5 σ z [(0, .ref (ad 0)), (1, .int a1), (2, .int a2)] 0 [] := by
  unfold fX4_where at h
  refine x_iload_n C dX4_where_0 rfl 1 rfl ?_
  obtain ⟨v1, hv, h⟩ := e_bind h
  refine x_callS_i C [.int a1] (tX4_isSet hJ hv) k_2_120 k_2_121 k_1_1 k_2_122 hyX4_isSet.2 ⟨rfl, rfl⟩ (by decide) rfl rfl (Nat.le_of_ble_eq_true rfl) dX4_where_1 ?_
  refine x_if_eq (tgt := 14) C dX4_where_4 (by decide) h ?_ ?_
  · intro h
    refine x_bipush (v := (-2)) C dX4_where_14 bi_m2 ?_
    exact xr_i C h dX4_where_16
  · intro h
    refine x_iload_n C dX4_where_7 rfl 2 rfl ?_
    obtain ⟨v2, hv, h⟩ := e_bind h
    refine x_callS_i C [.int a2] (tX4_isHour hJ hv) k_2_93 k_2_94 k_1_1 k_2_95 hyX4_isHour.2 ⟨rfl, rfl⟩ (by decide) rfl rfl (Nat.le_of_ble_eq_true rfl) dX4_where_8 ?_
    refine x_if_ne (tgt := 17) C dX4_where_11 (by decide) h ?_ ?_
    · intro h
      refine x_iconst (v := 0) C dX4_where_17 ic_0 ?_
      refine x_istore_n (lv' := [(3, .int 0), (0, .ref (ad 0)), (1, .int a1), (2, .int a2)]) C dX4_where_18 rfl (by decide) rfl ?_
      refine x_iconst (v := 0) C dX4_where_19 ic_0 ?_
      refine x_istore (lv' := [(4, .int 0), (3, .int 0), (0, .ref (ad 0)), (1, .int a1), (2, .int a2)]) C dX4_where_20 (by decide) rfl ?_
      refine x_sub (lv' := [(0, .ref (ad 0)), (1, .int a1), (2, .int a2), (3, .int 0), (4, .int 0)]) [2, 3, 4, 1, 0] rfl ?_
      exact wX4_where_22 hJ C _ _ _ h
    · intro h
      refine x_bipush (v := (-2)) C dX4_where_14 bi_m2 ?_
      exact xr_i C h dX4_where_16
set_option maxRecDepth 100000 in
set_option maxHeartbeats 4000000 in
theorem tX4_where {l : Launch} {dC : Nat → ClassId} {dI : Nat → Nat → Nat} {cI cZ : ClassId} {ad : Nat → Nat} (hJ : eInj 21 ad) {σ : eSt} {a1 : Int32} {a2 : Int32} {z : Int64} {r : Int32} (h : fX4_where σ a1 a2 = some r) : Con l yX4_where cX4_where 5 (some .int) rmX4_where (dC, dI) (xW cI cZ ad) (xA ad) [(cI, .int), (cZ, .boolean)] (ExX ad) [.ref (ad 0), .int a1, .int a2] σ z (some (.int r)) σ z :=
  x_con (by decide) (xW_D hJ) (ExX_ok ad) (Nat.le_of_ble_eq_true rfl) (fun p e s m args below meth c C => wX4_where_0 hJ C h)
set_option maxRecDepth 100000 in
set_option maxHeartbeats 4000000 in
theorem wX4_when_47 (hJ : eInj 21 ad) (C : Cx p s m args meth c (dC, dI) (xW cI cZ ad) (xA ad) (ExX ad) [(cI, .int), (cZ, .boolean)] cX4_when 5 RX4 (some .int) yX4_when) {σ : eSt} {a1 : Int32} {a2 : Int32} {a3 : Int32} {a4 : Int32} {z : Int64} {r : Int32} {k22 : Int32 → Int32 → Option (Int32)} (hk22 : ∀ (a3 : Int32) (a4 : Int32), k22 a3 a4 = some r → WX p l e rmX4_when s m args below meth c (MQ below (cQ (dC, dI) (xW cI cZ ad) (xA ad) (some (.int r)) σ z) args s 0 0 (xA ad)) (dC, dI) (xW cI cZ ad) (xA ad) 5 σ z [(0, .ref (ad 0)), (1, .int a1), (2, .int a2), (3, .int a3), (4, .int a4)] 22 []) (h : fX4_when_47 k22 σ a1 a2 a3 a4 = some r) : WX p l e rmX4_when s m args below meth c (MQ below (cQ (dC, dI) (xW cI cZ ad) (xA ad) (some (.int r)) σ z) args s 0 0 (xA ad)) (dC, dI) (xW cI cZ ad) (xA ad) 5 σ z [(0, .ref (ad 0)), (1, .int a1), (2, .int a2), (3, .int a3), (4, .int a4)] 47 [] := by
  unfold fX4_when_47 at h
  refine x_iinc_b (j := 4) (w := 1) C (fun v1 => [(4, .int v1), (0, .ref (ad 0)), (1, .int a1), (2, .int a2), (3, .int a3)]) dX4_when_47 ic_1 rfl (by decide) h (fun _ => rfl) ?_
  intro v1 h
  refine x_goto (tgt := 22) C dX4_when_50 (by decide) ?_
  refine x_sub (lv' := [(0, .ref (ad 0)), (1, .int a1), (2, .int a2), (3, .int a3), (4, .int v1)]) [1, 2, 3, 4, 0] rfl ?_
  exact hk22 _ _ h
set_option maxRecDepth 100000 in
set_option maxHeartbeats 4000000 in
theorem wX4_when_22 (hJ : eInj 21 ad) (C : Cx p s m args meth c (dC, dI) (xW cI cZ ad) (xA ad) (ExX ad) [(cI, .int), (cZ, .boolean)] cX4_when 5 RX4 (some .int) yX4_when) {σ : eSt} {a1 : Int32} {a2 : Int32} {z : Int64} {r : Int32} : ∀ (n : Nat) (a3 : Int32) (a4 : Int32), lo_2 (bX4_when_22 σ a1 a2) n a3 a4 = some r → WX p l e rmX4_when s m args below meth c (MQ below (cQ (dC, dI) (xW cI cZ ad) (xA ad) (some (.int r)) σ z) args s 0 0 (xA ad)) (dC, dI) (xW cI cZ ad) (xA ad) 5 σ z [(0, .ref (ad 0)), (1, .int a1), (2, .int a2), (3, .int a3), (4, .int a4)] 22 [] := by
  refine lo_2_ind (P := fun a3 a4 => WX p l e rmX4_when s m args below meth c (MQ below (cQ (dC, dI) (xW cI cZ ad) (xA ad) (some (.int r)) σ z) args s 0 0 (xA ad)) (dC, dI) (xW cI cZ ad) (xA ad) 5 σ z [(0, .ref (ad 0)), (1, .int a1), (2, .int a2), (3, .int a3), (4, .int a4)] 22 []) ?_
  intro k22 hk22 a3 a4 h
  unfold bX4_when_22 at h
  refine x_iload C dX4_when_22 4 rfl ?_
  refine x_bipush (v := 10) C dX4_when_24 bi_10 ?_
  refine x_icmp_ge (tgt := 53) C dX4_when_26 (by decide) h ?_ ?_
  · intro h
    refine x_iload_n C dX4_when_53 rfl 3 rfl ?_
    exact xr_i C h dX4_when_54
  · intro h
    refine x_aload_n C dX4_when_29 rfl 0 rfl ?_
    refine x_iload_n C dX4_when_30 rfl 2 rfl ?_
    refine x_iload C dX4_when_31 4 rfl ?_
    obtain ⟨v1, hv, h⟩ := e_bind h
    refine x_callV_i C (ci := 4) 0 [.int a2, .int a4] (tX4_setNow hJ hv) k_2_37 k_2_39 k_p_7 k_1_1 k_2_40 hyX4_setNow ⟨rfl, rfl⟩ (by decide) rfl rfl rfl rfl (Nat.le_of_ble_eq_true rfl) dX4_when_33 ?_
    refine x_iload_n C dX4_when_36 rfl 1 rfl ?_
    refine x_icmp_ne (tgt := 47) C dX4_when_37 (by decide) h ?_ ?_
    · intro h
      exact wX4_when_47 hJ C hk22 h
    · intro h
      refine x_iload_n C dX4_when_40 rfl 3 rfl ?_
      refine x_iconst (v := 1) C dX4_when_41 ic_1 ?_
      refine x_iload C dX4_when_42 4 rfl ?_
      refine x_ishl C dX4_when_44 ?_
      refine x_ior C dX4_when_45 ?_
      refine x_istore_n_b C (fun v2 => [(3, .int v2), (0, .ref (ad 0)), (1, .int a1), (2, .int a2), (4, .int a4)]) dX4_when_46 rfl (by decide) h (fun _ => rfl) ?_
      intro v2 h
      refine x_sub (lv' := [(0, .ref (ad 0)), (1, .int a1), (2, .int a2), (3, .int v2), (4, .int a4)]) [1, 2, 3, 0, 4] rfl ?_
      exact wX4_when_47 hJ C hk22 h
set_option maxRecDepth 100000 in
set_option maxHeartbeats 4000000 in
theorem wX4_when_0 (hJ : eInj 21 ad) (C : Cx p s m args meth c (dC, dI) (xW cI cZ ad) (xA ad) (ExX ad) [(cI, .int), (cZ, .boolean)] cX4_when 5 RX4 (some .int) yX4_when) {σ : eSt} {a1 : Int32} {a2 : Int32} {z : Int64} {r : Int32} (h : fX4_when σ a1 a2 = some r) : WX p l e rmX4_when s m args below meth c (MQ below (cQ (dC, dI) (xW cI cZ ad) (xA ad) (some (.int r)) σ z) args s 0 0 (xA ad)) (dC, dI) (xW cI cZ ad) (xA ad) 5 σ z [(0, .ref (ad 0)), (1, .int a1), (2, .int a2)] 0 [] := by
  unfold fX4_when at h
  refine x_iload_n C dX4_when_0 rfl 1 rfl ?_
  obtain ⟨v1, hv, h⟩ := e_bind h
  refine x_callS_i C [.int a1] (tX4_isSet hJ hv) k_2_120 k_2_121 k_1_1 k_2_122 hyX4_isSet.2 ⟨rfl, rfl⟩ (by decide) rfl rfl (Nat.le_of_ble_eq_true rfl) dX4_when_1 ?_
  refine x_if_eq (tgt := 14) C dX4_when_4 (by decide) h ?_ ?_
  · intro h
    refine x_bipush (v := (-2)) C dX4_when_14 bi_m2 ?_
    exact xr_i C h dX4_when_16
  · intro h
    refine x_iload_n C dX4_when_7 rfl 2 rfl ?_
    obtain ⟨v2, hv, h⟩ := e_bind h
    refine x_callS_i C [.int a2] (tX4_isCell hJ hv) k_2_26 k_2_27 k_1_1 k_2_28 hyX4_isCell.2 ⟨rfl, rfl⟩ (by decide) rfl rfl (Nat.le_of_ble_eq_true rfl) dX4_when_8 ?_
    refine x_if_ne (tgt := 17) C dX4_when_11 (by decide) h ?_ ?_
    · intro h
      refine x_iconst (v := 0) C dX4_when_17 ic_0 ?_
      refine x_istore_n (lv' := [(3, .int 0), (0, .ref (ad 0)), (1, .int a1), (2, .int a2)]) C dX4_when_18 rfl (by decide) rfl ?_
      refine x_iconst (v := 0) C dX4_when_19 ic_0 ?_
      refine x_istore (lv' := [(4, .int 0), (3, .int 0), (0, .ref (ad 0)), (1, .int a1), (2, .int a2)]) C dX4_when_20 (by decide) rfl ?_
      refine x_sub (lv' := [(0, .ref (ad 0)), (1, .int a1), (2, .int a2), (3, .int 0), (4, .int 0)]) [2, 3, 4, 1, 0] rfl ?_
      exact wX4_when_22 hJ C _ _ _ h
    · intro h
      refine x_bipush (v := (-2)) C dX4_when_14 bi_m2 ?_
      exact xr_i C h dX4_when_16
set_option maxRecDepth 100000 in
set_option maxHeartbeats 4000000 in
theorem tX4_when {l : Launch} {dC : Nat → ClassId} {dI : Nat → Nat → Nat} {cI cZ : ClassId} {ad : Nat → Nat} (hJ : eInj 21 ad) {σ : eSt} {a1 : Int32} {a2 : Int32} {z : Int64} {r : Int32} (h : fX4_when σ a1 a2 = some r) : Con l yX4_when cX4_when 5 (some .int) rmX4_when (dC, dI) (xW cI cZ ad) (xA ad) [(cI, .int), (cZ, .boolean)] (ExX ad) [.ref (ad 0), .int a1, .int a2] σ z (some (.int r)) σ z :=
  x_con (by decide) (xW_D hJ) (ExX_ok ad) (Nat.le_of_ble_eq_true rfl) (fun p e s m args below meth c C => wX4_when_0 hJ C h)
set_option maxRecDepth 100000 in
set_option maxHeartbeats 4000000 in
theorem wJ6_bitCount_0f7a4_0 (hJ : eInj 21 ad) (C : Cx p s m args meth c (dC, dI) (xW cI cZ ad) (xA ad) (ExX ad) [(cI, .int), (cZ, .boolean)] cJ6_bitCount_0f7a4 1 RJ6 (some .int) yJ6_bitCount_0f7a4) {σ : eSt} {a0 : Int32} {z : Int64} {r : Int32} (h : fJ6_bitCount_0f7a4 a0 = some r) : WX p l e rmJ6_bitCount_0f7a4 s m args below meth c (MQ below (cQ (dC, dI) (xW cI cZ ad) (xA ad) (some (.int r)) σ z) args s 0 0 (xA ad)) (dC, dI) (xW cI cZ ad) (xA ad) 1 σ z [(0, .int a0)] 0 [] := by
  unfold fJ6_bitCount_0f7a4 at h
  refine x_iload_n C dJ6_bitCount_0f7a4_0 rfl 0 rfl ?_
  refine x_iload_n C dJ6_bitCount_0f7a4_1 rfl 0 rfl ?_
  refine x_iconst (v := 1) C dJ6_bitCount_0f7a4_2 ic_1 ?_
  refine x_iushr C dJ6_bitCount_0f7a4_3 ?_
  refine x_ldcw (v := 1431655765) C dJ6_bitCount_0f7a4_4 k_2_138 ?_
  refine x_iand C dJ6_bitCount_0f7a4_7 ?_
  refine x_isub C dJ6_bitCount_0f7a4_8 ?_
  refine x_istore_n_b C (fun v1 => [(0, .int v1)]) dJ6_bitCount_0f7a4_9 rfl (by decide) h (fun _ => rfl) ?_
  intro v1 h
  refine x_iload_n C dJ6_bitCount_0f7a4_10 rfl 0 rfl ?_
  refine x_ldcw (v := 858993459) C dJ6_bitCount_0f7a4_11 k_2_139 ?_
  refine x_iand C dJ6_bitCount_0f7a4_14 ?_
  refine x_iload_n C dJ6_bitCount_0f7a4_15 rfl 0 rfl ?_
  refine x_iconst (v := 2) C dJ6_bitCount_0f7a4_16 ic_2 ?_
  refine x_iushr C dJ6_bitCount_0f7a4_17 ?_
  refine x_ldcw (v := 858993459) C dJ6_bitCount_0f7a4_18 k_2_139 ?_
  refine x_iand C dJ6_bitCount_0f7a4_21 ?_
  refine x_iadd C dJ6_bitCount_0f7a4_22 ?_
  refine x_istore_n_b C (fun v2 => [(0, .int v2)]) dJ6_bitCount_0f7a4_23 rfl (by decide) h (fun _ => rfl) ?_
  intro v2 h
  refine x_iload_n C dJ6_bitCount_0f7a4_24 rfl 0 rfl ?_
  refine x_iload_n C dJ6_bitCount_0f7a4_25 rfl 0 rfl ?_
  refine x_iconst (v := 4) C dJ6_bitCount_0f7a4_26 ic_4 ?_
  refine x_iushr C dJ6_bitCount_0f7a4_27 ?_
  refine x_iadd C dJ6_bitCount_0f7a4_28 ?_
  refine x_ldcw (v := 252645135) C dJ6_bitCount_0f7a4_29 k_2_140 ?_
  refine x_iand C dJ6_bitCount_0f7a4_32 ?_
  refine x_istore_n_b C (fun v3 => [(0, .int v3)]) dJ6_bitCount_0f7a4_33 rfl (by decide) h (fun _ => rfl) ?_
  intro v3 h
  refine x_iload_n C dJ6_bitCount_0f7a4_34 rfl 0 rfl ?_
  refine x_iload_n C dJ6_bitCount_0f7a4_35 rfl 0 rfl ?_
  refine x_bipush (v := 8) C dJ6_bitCount_0f7a4_36 bi_8 ?_
  refine x_iushr C dJ6_bitCount_0f7a4_38 ?_
  refine x_iadd C dJ6_bitCount_0f7a4_39 ?_
  refine x_istore_n_b C (fun v4 => [(0, .int v4)]) dJ6_bitCount_0f7a4_40 rfl (by decide) h (fun _ => rfl) ?_
  intro v4 h
  refine x_iload_n C dJ6_bitCount_0f7a4_41 rfl 0 rfl ?_
  refine x_iload_n C dJ6_bitCount_0f7a4_42 rfl 0 rfl ?_
  refine x_bipush (v := 16) C dJ6_bitCount_0f7a4_43 bi_16 ?_
  refine x_iushr C dJ6_bitCount_0f7a4_45 ?_
  refine x_iadd C dJ6_bitCount_0f7a4_46 ?_
  refine x_istore_n_b C (fun v5 => [(0, .int v5)]) dJ6_bitCount_0f7a4_47 rfl (by decide) h (fun _ => rfl) ?_
  intro v5 h
  refine x_iload_n C dJ6_bitCount_0f7a4_48 rfl 0 rfl ?_
  refine x_bipush (v := 63) C dJ6_bitCount_0f7a4_49 bi_63 ?_
  refine x_iand C dJ6_bitCount_0f7a4_51 ?_
  exact xr_i C h dJ6_bitCount_0f7a4_52
set_option maxRecDepth 100000 in
set_option maxHeartbeats 4000000 in
theorem tJ6_bitCount_0f7a4 {l : Launch} {dC : Nat → ClassId} {dI : Nat → Nat → Nat} {cI cZ : ClassId} {ad : Nat → Nat} (hJ : eInj 21 ad) {a0 : Int32} {σ : eSt} {z : Int64} {r : Int32} (h : fJ6_bitCount_0f7a4 a0 = some r) : Con l yJ6_bitCount_0f7a4 cJ6_bitCount_0f7a4 1 (some .int) rmJ6_bitCount_0f7a4 (dC, dI) (xW cI cZ ad) (xA ad) [(cI, .int), (cZ, .boolean)] (ExX ad) [.int a0] σ z (some (.int r)) σ z :=
  x_con (by decide) (xW_D hJ) (ExX_ok ad) (Nat.le_of_ble_eq_true rfl) (fun p e s m args below meth c C => wJ6_bitCount_0f7a4_0 hJ C h)
set_option maxRecDepth 100000 in
set_option maxHeartbeats 4000000 in
theorem wX4_sureCount_0 (hJ : eInj 21 ad) (C : Cx p s m args meth c (dC, dI) (xW cI cZ ad) (xA ad) (ExX ad) [(cI, .int), (cZ, .boolean)] cX4_sureCount 2 RX4 (some .int) yX4_sureCount) {σ : eSt} {a1 : Int32} {z : Int64} {r : Int32} (h : fX4_sureCount σ a1 = some r) : WX p l e rmX4_sureCount s m args below meth c (MQ below (cQ (dC, dI) (xW cI cZ ad) (xA ad) (some (.int r)) σ z) args s 0 0 (xA ad)) (dC, dI) (xW cI cZ ad) (xA ad) 2 σ z [(0, .ref (ad 0)), (1, .int a1)] 0 [] := by
  unfold fX4_sureCount at h
  refine x_aload_n C dX4_sureCount_0 rfl 0 rfl ?_
  refine x_iload_n C dX4_sureCount_1 rfl 1 rfl ?_
  refine x_sipush (v := 192) C dX4_sureCount_2 si_192 ?_
  refine x_ior C dX4_sureCount_5 ?_
  obtain ⟨v1, hv, h⟩ := e_bind h
  refine x_callV_i C (ci := 4) 0 [.int (a1 ||| 192)] (tX4_sureCells hJ hv) k_2_112 k_2_114 k_p_14 k_1_1 k_2_115 hyX4_sureCells ⟨rfl, rfl⟩ (by decide) rfl rfl rfl rfl (Nat.le_of_ble_eq_true rfl) dX4_sureCount_6 ?_
  obtain ⟨v2, hv, h⟩ := e_bind h
  refine x_callS_i C [.int v1] (tJ6_bitCount_0f7a4 hJ hv) k_2_135 k_2_136 k_1_8 k_2_137 hyJ6_bitCount_0f7a4.2 ⟨rfl, rfl⟩ (by decide) rfl rfl (Nat.le_of_ble_eq_true rfl) dX4_sureCount_9 ?_
  exact xr_i C h dX4_sureCount_12
set_option maxRecDepth 100000 in
set_option maxHeartbeats 4000000 in
theorem tX4_sureCount {l : Launch} {dC : Nat → ClassId} {dI : Nat → Nat → Nat} {cI cZ : ClassId} {ad : Nat → Nat} (hJ : eInj 21 ad) {σ : eSt} {a1 : Int32} {z : Int64} {r : Int32} (h : fX4_sureCount σ a1 = some r) : Con l yX4_sureCount cX4_sureCount 2 (some .int) rmX4_sureCount (dC, dI) (xW cI cZ ad) (xA ad) [(cI, .int), (cZ, .boolean)] (ExX ad) [.ref (ad 0), .int a1] σ z (some (.int r)) σ z :=
  x_con (by decide) (xW_D hJ) (ExX_ok ad) (Nat.le_of_ble_eq_true rfl) (fun p e s m args below meth c C => wX4_sureCount_0 hJ C h)
set_option maxRecDepth 100000 in
set_option maxHeartbeats 4000000 in
theorem wX4_spared_81 (hJ : eInj 21 ad) (C : Cx p s m args meth c (dC, dI) (xW cI cZ ad) (xA ad) (ExX ad) [(cI, .int), (cZ, .boolean)] cX4_spared 8 RX4 (some .int) yX4_spared) {σ : eSt} {a2 : Int32} {a3 : Int32} {a4 : Int32} {a5 : Int32} {z : Int64} {r : Int32 × eSt} {k30 : Int32 → Int32 → Int32 → Option (Int32 × eSt)} (hk30 : ∀ (a3 : Int32) (a4 : Int32) (a5 : Int32), k30 a3 a4 a5 = some r → WX p l e rmX4_spared s m args below meth c (MQ below (cQ (dC, dI) (xW cI cZ ad) (xA ad) (some (.int r.1)) r.2 z) args s 0 0 (xA ad)) (dC, dI) (xW cI cZ ad) (xA ad) 8 σ z [(0, .ref (ad 0)), (2, .int a2), (3, .int a3), (4, .int a4), (5, .int a5)] 30 []) (h : fX4_spared_81 k30 σ a2 a3 a4 a5 = some r) : WX p l e rmX4_spared s m args below meth c (MQ below (cQ (dC, dI) (xW cI cZ ad) (xA ad) (some (.int r.1)) r.2 z) args s 0 0 (xA ad)) (dC, dI) (xW cI cZ ad) (xA ad) 8 σ z [(0, .ref (ad 0)), (2, .int a2), (3, .int a3), (4, .int a4), (5, .int a5)] 81 [] := by
  unfold fX4_spared_81 at h
  refine x_iinc_b (j := 4) (w := 1) C (fun v1 => [(5, .int v1), (0, .ref (ad 0)), (2, .int a2), (3, .int a3), (4, .int a4)]) dX4_spared_81 ic_1 rfl (by decide) h (fun _ => rfl) ?_
  intro v1 h
  refine x_goto (tgt := 30) C dX4_spared_84 (by decide) ?_
  refine x_sub (lv' := [(0, .ref (ad 0)), (2, .int a2), (3, .int a3), (4, .int a4), (5, .int v1)]) [1, 2, 3, 4, 0] rfl ?_
  exact hk30 _ _ _ h
set_option maxRecDepth 100000 in
set_option maxHeartbeats 4000000 in
theorem wX4_spared_30 (hJ : eInj 21 ad) (C : Cx p s m args meth c (dC, dI) (xW cI cZ ad) (xA ad) (ExX ad) [(cI, .int), (cZ, .boolean)] cX4_spared 8 RX4 (some .int) yX4_spared) {σ : eSt} {a2 : Int32} {z : Int64} {r : Int32 × eSt} : ∀ (n : Nat) (a3 : Int32) (a4 : Int32) (a5 : Int32), lo_3 (bX4_spared_30 σ a2) n a3 a4 a5 = some r → WX p l e rmX4_spared s m args below meth c (MQ below (cQ (dC, dI) (xW cI cZ ad) (xA ad) (some (.int r.1)) r.2 z) args s 0 0 (xA ad)) (dC, dI) (xW cI cZ ad) (xA ad) 8 σ z [(0, .ref (ad 0)), (2, .int a2), (3, .int a3), (4, .int a4), (5, .int a5)] 30 [] := by
  refine lo_3_ind (P := fun a3 a4 a5 => WX p l e rmX4_spared s m args below meth c (MQ below (cQ (dC, dI) (xW cI cZ ad) (xA ad) (some (.int r.1)) r.2 z) args s 0 0 (xA ad)) (dC, dI) (xW cI cZ ad) (xA ad) 8 σ z [(0, .ref (ad 0)), (2, .int a2), (3, .int a3), (4, .int a4), (5, .int a5)] 30 []) ?_
  intro k30 hk30 a3 a4 a5 h
  unfold bX4_spared_30 at h
  refine x_iload C dX4_spared_30 4 rfl ?_
  refine x_aload_n C dX4_spared_32 rfl 0 rfl ?_
  refine fg_4_1 C 0 rfl rfl k_1_128 dX4_spared_33 ?_
  refine fg_2_5 C 3 rfl rfl k_1_50 dX4_spared_36 ?_
  refine x_icmp_ge (tgt := 87) C dX4_spared_39 (by decide) h ?_ ?_
  · intro h
    refine x_iload_n C dX4_spared_87 rfl 2 rfl ?_
    exact xr_wi C h dX4_spared_88
  · intro h
    refine x_iconst (v := 1) C dX4_spared_42 ic_1 ?_
    refine x_iload C dX4_spared_43 4 rfl ?_
    refine x_ishl C dX4_spared_45 ?_
    refine x_istore_b C (fun v1 => [(6, .int v1), (0, .ref (ad 0)), (2, .int a2), (3, .int a3), (4, .int a4), (5, .int a5)]) dX4_spared_46 (by decide) h (fun _ => rfl) ?_
    intro v1 h
    refine x_iload_n C dX4_spared_48 rfl 2 rfl ?_
    refine x_iload C dX4_spared_49 0 rfl ?_
    refine x_iand C dX4_spared_51 ?_
    refine x_if_eq (tgt := 81) C dX4_spared_52 (by decide) h ?_ ?_
    · intro h
      refine x_sub (lv' := [(0, .ref (ad 0)), (2, .int a2), (3, .int a3), (4, .int a4), (5, .int a5)]) [1, 2, 3, 4, 5] rfl ?_
      exact wX4_spared_81 hJ C hk30 h
    · intro h
      refine x_aload_n C dX4_spared_55 rfl 1 rfl ?_
      refine x_iload_n C dX4_spared_56 rfl 2 rfl ?_
      refine x_iload C dX4_spared_57 0 rfl ?_
      refine x_iconst (v := (-1)) C dX4_spared_59 ic_m1 ?_
      refine x_ixor C dX4_spared_60 ?_
      refine x_iand C dX4_spared_61 ?_
      obtain ⟨v2, hv, h⟩ := e_bind h
      refine x_callV_i C (ci := 4) 0 [.int (a2 &&& (v1 ^^^ (-1)))] (tX4_sureCount hJ hv) k_2_131 k_2_133 k_p_15 k_1_1 k_2_134 hyX4_sureCount ⟨rfl, rfl⟩ (by decide) rfl rfl rfl rfl (Nat.le_of_ble_eq_true rfl) dX4_spared_62 ?_
      refine x_istore (lv' := [(7, .int v2), (6, .int v1), (0, .ref (ad 0)), (2, .int a2), (3, .int a3), (4, .int a4), (5, .int a5)]) C dX4_spared_65 (by decide) rfl ?_
      refine x_iload C dX4_spared_67 0 rfl ?_
      refine x_iload C dX4_spared_69 5 rfl ?_
      refine x_icmp_ge (tgt := 81) C dX4_spared_71 (by decide) h ?_ ?_
      · intro h
        refine x_sub (lv' := [(0, .ref (ad 0)), (2, .int a2), (3, .int a3), (4, .int a4), (5, .int a5)]) [2, 3, 4, 5, 6] rfl ?_
        exact wX4_spared_81 hJ C hk30 h
      · intro h
        refine x_iload C dX4_spared_74 0 rfl ?_
        refine x_istore (lv' := [(4, .int v2), (7, .int v2), (6, .int v1), (0, .ref (ad 0)), (2, .int a2), (3, .int a3), (5, .int a5)]) C dX4_spared_76 (by decide) rfl ?_
        refine x_iload C dX4_spared_78 6 rfl ?_
        refine x_istore_n (lv' := [(3, .int a5), (4, .int v2), (7, .int v2), (6, .int v1), (0, .ref (ad 0)), (2, .int a2), (5, .int a5)]) C dX4_spared_80 rfl (by decide) rfl ?_
        refine x_sub (lv' := [(0, .ref (ad 0)), (2, .int a2), (3, .int a5), (4, .int v2), (5, .int a5)]) [4, 5, 0, 1, 6] rfl ?_
        exact wX4_spared_81 hJ C hk30 h
set_option maxRecDepth 100000 in
set_option maxHeartbeats 4000000 in
theorem wX4_spared_0 (hJ : eInj 21 ad) (C : Cx p s m args meth c (dC, dI) (xW cI cZ ad) (xA ad) (ExX ad) [(cI, .int), (cZ, .boolean)] cX4_spared 8 RX4 (some .int) yX4_spared) {σ : eSt} {a1 : Int32} {z : Int64} {r : Int32 × eSt} (h : fX4_spared σ a1 = some r) : WX p l e rmX4_spared s m args below meth c (MQ below (cQ (dC, dI) (xW cI cZ ad) (xA ad) (some (.int r.1)) r.2 z) args s 0 0 (xA ad)) (dC, dI) (xW cI cZ ad) (xA ad) 8 σ z [(0, .ref (ad 0)), (1, .int a1)] 0 [] := by
  unfold fX4_spared at h
  refine x_iload_n C dX4_spared_0 rfl 1 rfl ?_
  obtain ⟨v1, hv, h⟩ := e_bind h
  refine x_callS_i C [.int a1] (tX4_isHour hJ hv) k_2_93 k_2_94 k_1_1 k_2_95 hyX4_isHour.2 ⟨rfl, rfl⟩ (by decide) rfl rfl (Nat.le_of_ble_eq_true rfl) dX4_spared_1 ?_
  refine x_if_ne (tgt := 10) C dX4_spared_4 (by decide) h ?_ ?_
  · intro h
    refine x_aload_n C dX4_spared_10 rfl 0 rfl ?_
    refine x_iload_n C dX4_spared_11 rfl 1 rfl ?_
    obtain ⟨σ2, hv, h⟩ := e_bind h
    refine x_callV_v C (ci := 4) 0 [.int a1] (tX4_fillSetsNow hJ hv) k_2_100 k_2_102 k_p_11 k_1_1 k_2_103 hyX4_fillSetsNow ⟨rfl, rfl⟩ (by decide) rfl rfl rfl rfl (Nat.le_of_ble_eq_true rfl) dX4_spared_12 ?_
    refine x_aload_n C dX4_spared_15 rfl 0 rfl ?_
    obtain ⟨v3, hv, h⟩ := e_bind h
    refine x_callV_i C (ci := 4) 0 [] (tX4_liveSounds hJ hv) k_2_45 k_2_47 k_p_9 k_1_1 k_2_48 hyX4_liveSounds ⟨rfl, rfl⟩ (by decide) rfl rfl rfl rfl (Nat.le_of_ble_eq_true rfl) dX4_spared_16 ?_
    refine x_istore_n (lv' := [(2, .int v3), (0, .ref (ad 0)), (1, .int a1)]) C dX4_spared_19 rfl (by decide) rfl ?_
    refine x_bipush (v := (-9)) C dX4_spared_20 bi_m9 ?_
    refine x_istore_n (lv' := [(3, .int (-9)), (2, .int v3), (0, .ref (ad 0)), (1, .int a1)]) C dX4_spared_22 rfl (by decide) rfl ?_
    refine x_bipush (v := 11) C dX4_spared_23 bi_11 ?_
    refine x_istore (lv' := [(4, .int 11), (3, .int (-9)), (2, .int v3), (0, .ref (ad 0)), (1, .int a1)]) C dX4_spared_25 (by decide) rfl ?_
    refine x_iconst (v := 0) C dX4_spared_27 ic_0 ?_
    refine x_istore (lv' := [(5, .int 0), (4, .int 11), (3, .int (-9)), (2, .int v3), (0, .ref (ad 0)), (1, .int a1)]) C dX4_spared_28 (by decide) rfl ?_
    refine x_sub (lv' := [(0, .ref (ad 0)), (2, .int v3), (3, .int (-9)), (4, .int 11), (5, .int 0)]) [4, 3, 2, 1, 0] rfl ?_
    exact wX4_spared_30 hJ C _ _ _ _ h
  · intro h
    refine x_bipush (v := (-2)) C dX4_spared_7 bi_m2 ?_
    exact xr_wi C h dX4_spared_9
set_option maxRecDepth 100000 in
set_option maxHeartbeats 4000000 in
theorem tX4_spared {l : Launch} {dC : Nat → ClassId} {dI : Nat → Nat → Nat} {cI cZ : ClassId} {ad : Nat → Nat} (hJ : eInj 21 ad) {σ : eSt} {a1 : Int32} {z : Int64} {r : Int32 × eSt} (h : fX4_spared σ a1 = some r) : Con l yX4_spared cX4_spared 8 (some .int) rmX4_spared (dC, dI) (xW cI cZ ad) (xA ad) [(cI, .int), (cZ, .boolean)] (ExX ad) [.ref (ad 0), .int a1] σ z (some (.int r.1)) r.2 z :=
  x_con (by decide) (xW_D hJ) (ExX_ok ad) (Nat.le_of_ble_eq_true rfl) (fun p e s m args below meth c C => wX4_spared_0 hJ C h)
set_option maxRecDepth 100000 in
set_option maxHeartbeats 4000000 in
theorem wX4_greatestDivisor_7 (hJ : eInj 21 ad) (C : Cx p s m args meth c (dC, dI) (xW cI cZ ad) (xA ad) (ExX ad) [(cI, .int), (cZ, .boolean)] cX4_greatestDivisor 6 RX4 (some .int) yX4_greatestDivisor) {σ : eSt} {z : Int64} {r : Int32} : ∀ (n : Nat) (a2 : Int32) (a3 : Int32) (a4 : Int32), lo_3 (bX4_greatestDivisor_7) n a2 a3 a4 = some r → WX p l e rmX4_greatestDivisor s m args below meth c (MQ below (cQ (dC, dI) (xW cI cZ ad) (xA ad) (some (.int r)) σ z) args s 0 0 (xA ad)) (dC, dI) (xW cI cZ ad) (xA ad) 6 σ z [(2, .int a2), (3, .int a3), (4, .int a4)] 7 [] := by
  refine lo_3_ind (P := fun a2 a3 a4 => WX p l e rmX4_greatestDivisor s m args below meth c (MQ below (cQ (dC, dI) (xW cI cZ ad) (xA ad) (some (.int r)) σ z) args s 0 0 (xA ad)) (dC, dI) (xW cI cZ ad) (xA ad) 6 σ z [(2, .int a2), (3, .int a3), (4, .int a4)] 7 []) ?_
  intro k7 hk7 a2 a3 a4 h
  unfold bX4_greatestDivisor_7 at h
  refine x_iload C dX4_greatestDivisor_7 2 rfl ?_
  refine x_bipush (v := 100) C dX4_greatestDivisor_9 bi_100 ?_
  refine x_icmp_ge (tgt := 34) C dX4_greatestDivisor_11 (by decide) h ?_ ?_
  · intro h
    refine x_iload_n C dX4_greatestDivisor_34 rfl 0 rfl ?_
    exact xr_i C h dX4_greatestDivisor_35
  · intro h
    refine x_iload_n C dX4_greatestDivisor_14 rfl 1 rfl ?_
    refine x_if_eq (tgt := 34) C dX4_greatestDivisor_15 (by decide) h ?_ ?_
    · intro h
      refine x_iload_n C dX4_greatestDivisor_34 rfl 0 rfl ?_
      exact xr_i C h dX4_greatestDivisor_35
    · intro h
      refine x_iload_n C dX4_greatestDivisor_18 rfl 0 rfl ?_
      refine x_iload_n C dX4_greatestDivisor_19 rfl 1 rfl ?_
      refine x_irem C dX4_greatestDivisor_20 h ?_
      intro h
      refine x_istore_b C (fun v1 => [(5, .int v1), (2, .int a2), (3, .int a3), (4, .int a4)]) dX4_greatestDivisor_21 (by decide) h (fun _ => rfl) ?_
      intro v1 h
      refine x_iload_n C dX4_greatestDivisor_23 rfl 2 rfl ?_
      refine x_istore_n (lv' := [(2, .int a3), (5, .int v1), (3, .int a3), (4, .int a4)]) C dX4_greatestDivisor_24 rfl (by decide) rfl ?_
      refine x_iload C dX4_greatestDivisor_25 1 rfl ?_
      refine x_istore_n (lv' := [(3, .int v1), (2, .int a3), (5, .int v1), (4, .int a4)]) C dX4_greatestDivisor_27 rfl (by decide) rfl ?_
      refine x_iinc_b (j := 3) (w := 1) C (fun v2 => [(4, .int v2), (3, .int v1), (2, .int a3), (5, .int v1)]) dX4_greatestDivisor_28 ic_1 rfl (by decide) h (fun _ => rfl) ?_
      intro v2 h
      refine x_goto (tgt := 7) C dX4_greatestDivisor_31 (by decide) ?_
      refine x_sub (lv' := [(2, .int a3), (3, .int v1), (4, .int v2)]) [2, 1, 0] rfl ?_
      exact hk7 _ _ _ h
set_option maxRecDepth 100000 in
set_option maxHeartbeats 4000000 in
theorem wX4_greatestDivisor_0 (hJ : eInj 21 ad) (C : Cx p s m args meth c (dC, dI) (xW cI cZ ad) (xA ad) (ExX ad) [(cI, .int), (cZ, .boolean)] cX4_greatestDivisor 6 RX4 (some .int) yX4_greatestDivisor) {σ : eSt} {a0 : Int32} {a1 : Int32} {z : Int64} {r : Int32} (h : fX4_greatestDivisor a0 a1 = some r) : WX p l e rmX4_greatestDivisor s m args below meth c (MQ below (cQ (dC, dI) (xW cI cZ ad) (xA ad) (some (.int r)) σ z) args s 0 0 (xA ad)) (dC, dI) (xW cI cZ ad) (xA ad) 6 σ z [(0, .int a0), (1, .int a1)] 0 [] := by
  unfold fX4_greatestDivisor at h
  refine x_iload_n C dX4_greatestDivisor_0 rfl 0 rfl ?_
  refine x_istore_n (lv' := [(2, .int a0), (0, .int a0), (1, .int a1)]) C dX4_greatestDivisor_1 rfl (by decide) rfl ?_
  refine x_iload_n C dX4_greatestDivisor_2 rfl 2 rfl ?_
  refine x_istore_n (lv' := [(3, .int a1), (2, .int a0), (0, .int a0), (1, .int a1)]) C dX4_greatestDivisor_3 rfl (by decide) rfl ?_
  refine x_iconst (v := 0) C dX4_greatestDivisor_4 ic_0 ?_
  refine x_istore (lv' := [(4, .int 0), (3, .int a1), (2, .int a0), (0, .int a0), (1, .int a1)]) C dX4_greatestDivisor_5 (by decide) rfl ?_
  refine x_sub (lv' := [(2, .int a0), (3, .int a1), (4, .int 0)]) [2, 1, 0] rfl ?_
  exact wX4_greatestDivisor_7 hJ C _ _ _ _ h
set_option maxRecDepth 100000 in
set_option maxHeartbeats 4000000 in
theorem tX4_greatestDivisor {l : Launch} {dC : Nat → ClassId} {dI : Nat → Nat → Nat} {cI cZ : ClassId} {ad : Nat → Nat} (hJ : eInj 21 ad) {a0 : Int32} {a1 : Int32} {σ : eSt} {z : Int64} {r : Int32} (h : fX4_greatestDivisor a0 a1 = some r) : Con l yX4_greatestDivisor cX4_greatestDivisor 6 (some .int) rmX4_greatestDivisor (dC, dI) (xW cI cZ ad) (xA ad) [(cI, .int), (cZ, .boolean)] (ExX ad) [.int a0, .int a1] σ z (some (.int r)) σ z :=
  x_con (by decide) (xW_D hJ) (ExX_ok ad) (Nat.le_of_ble_eq_true rfl) (fun p e s m args below meth c C => wX4_greatestDivisor_0 hJ C h)
set_option maxRecDepth 100000 in
set_option maxHeartbeats 4000000 in
theorem wX4_toldPart_0 (hJ : eInj 21 ad) (C : Cx p s m args meth c (dC, dI) (xW cI cZ ad) (xA ad) (ExX ad) [(cI, .int), (cZ, .boolean)] cX4_toldPart 4 RX4 (some .int) yX4_toldPart) {σ : eSt} {a0 : Int32} {a1 : Int32} {a2 : Int32} {z : Int64} {r : Int32} (h : fX4_toldPart a0 a1 a2 = some r) : WX p l e rmX4_toldPart s m args below meth c (MQ below (cQ (dC, dI) (xW cI cZ ad) (xA ad) (some (.int r)) σ z) args s 0 0 (xA ad)) (dC, dI) (xW cI cZ ad) (xA ad) 4 σ z [(0, .int a0), (1, .int a1), (2, .int a2)] 0 [] := by
  unfold fX4_toldPart at h
  refine x_iconst (v := 1) C dX4_toldPart_0 ic_1 ?_
  refine x_iload_n C dX4_toldPart_1 rfl 0 rfl ?_
  refine x_mabs C k_2_19 k_2_20 k_1_7 k_2_21 (Nat.le_of_ble_eq_true rfl) (Nat.le_of_ble_eq_true rfl) dX4_toldPart_2 ?_
  refine x_iload_n C dX4_toldPart_5 rfl 1 rfl ?_
  obtain ⟨v1, hv, h⟩ := e_bind h
  refine x_callS_i C [.int (e_abs a0), .int a1] (tX4_greatestDivisor hJ hv) k_2_148 k_2_149 k_1_1 k_2_150 hyX4_greatestDivisor.2 ⟨rfl, rfl⟩ (by decide) rfl rfl (Nat.le_of_ble_eq_true rfl) dX4_toldPart_6 ?_
  refine x_mmax C k_2_151 k_1_213 k_1_7 k_1_214 (Nat.le_of_ble_eq_true rfl) (Nat.le_of_ble_eq_true rfl) dX4_toldPart_9 ?_
  refine x_istore_n_b C (fun v2 => [(3, .int v2), (0, .int a0), (1, .int a1), (2, .int a2)]) dX4_toldPart_12 rfl (by decide) h (fun _ => rfl) ?_
  intro v2 h
  refine x_iload_n C dX4_toldPart_13 rfl 3 rfl ?_
  refine x_if_eq (tgt := 23) C dX4_toldPart_14 (by decide) h ?_ ?_
  · intro h
    refine x_iload_n C dX4_toldPart_23 rfl 2 rfl ?_
    refine x_iload_n C dX4_toldPart_24 rfl 0 rfl ?_
    refine x_idiv C dX4_toldPart_25 h ?_
    intro h
    exact xr_i C h dX4_toldPart_26
  · intro h
    refine x_iload_n C dX4_toldPart_17 rfl 1 rfl ?_
    refine x_iload_n C dX4_toldPart_18 rfl 0 rfl ?_
    refine x_idiv C dX4_toldPart_19 h ?_
    intro h
    refine x_goto (tgt := 26) C dX4_toldPart_20 (by decide) ?_
    exact xr_i C h dX4_toldPart_26
set_option maxRecDepth 100000 in
set_option maxHeartbeats 4000000 in
theorem tX4_toldPart {l : Launch} {dC : Nat → ClassId} {dI : Nat → Nat → Nat} {cI cZ : ClassId} {ad : Nat → Nat} (hJ : eInj 21 ad) {a0 : Int32} {a1 : Int32} {a2 : Int32} {σ : eSt} {z : Int64} {r : Int32} (h : fX4_toldPart a0 a1 a2 = some r) : Con l yX4_toldPart cX4_toldPart 4 (some .int) rmX4_toldPart (dC, dI) (xW cI cZ ad) (xA ad) [(cI, .int), (cZ, .boolean)] (ExX ad) [.int a0, .int a1, .int a2] σ z (some (.int r)) σ z :=
  x_con (by decide) (xW_D hJ) (ExX_ok ad) (Nat.le_of_ble_eq_true rfl) (fun p e s m args below meth c C => wX4_toldPart_0 hJ C h)
set_option maxRecDepth 100000 in
set_option maxHeartbeats 4000000 in
theorem wX4_factorial_4 (hJ : eInj 21 ad) (C : Cx p s m args meth c (dC, dI) (xW cI cZ ad) (xA ad) (ExX ad) [(cI, .int), (cZ, .boolean)] cX4_factorial 3 RX4 (some .int) yX4_factorial) {σ : eSt} {a0 : Int32} {z : Int64} {r : Int32} : ∀ (n : Nat) (a1 : Int32) (a2 : Int32), lo_2 (bX4_factorial_4 a0) n a1 a2 = some r → WX p l e rmX4_factorial s m args below meth c (MQ below (cQ (dC, dI) (xW cI cZ ad) (xA ad) (some (.int r)) σ z) args s 0 0 (xA ad)) (dC, dI) (xW cI cZ ad) (xA ad) 3 σ z [(0, .int a0), (1, .int a1), (2, .int a2)] 4 [] := by
  refine lo_2_ind (P := fun a1 a2 => WX p l e rmX4_factorial s m args below meth c (MQ below (cQ (dC, dI) (xW cI cZ ad) (xA ad) (some (.int r)) σ z) args s 0 0 (xA ad)) (dC, dI) (xW cI cZ ad) (xA ad) 3 σ z [(0, .int a0), (1, .int a1), (2, .int a2)] 4 []) ?_
  intro k4 hk4 a1 a2 h
  unfold bX4_factorial_4 at h
  refine x_iload_n C dX4_factorial_4 rfl 2 rfl ?_
  refine x_iload_n C dX4_factorial_5 rfl 0 rfl ?_
  refine x_icmp_gt (tgt := 19) C dX4_factorial_6 (by decide) h ?_ ?_
  · intro h
    refine x_iload_n C dX4_factorial_19 rfl 1 rfl ?_
    exact xr_i C h dX4_factorial_20
  · intro h
    refine x_iload_n C dX4_factorial_9 rfl 1 rfl ?_
    refine x_iload_n C dX4_factorial_10 rfl 2 rfl ?_
    refine x_imul C dX4_factorial_11 ?_
    refine x_istore_n_b C (fun v1 => [(1, .int v1), (0, .int a0), (2, .int a2)]) dX4_factorial_12 rfl (by decide) h (fun _ => rfl) ?_
    intro v1 h
    refine x_iinc_b (j := 2) (w := 1) C (fun v2 => [(2, .int v2), (1, .int v1), (0, .int a0)]) dX4_factorial_13 ic_1 rfl (by decide) h (fun _ => rfl) ?_
    intro v2 h
    refine x_goto (tgt := 4) C dX4_factorial_16 (by decide) ?_
    refine x_sub (lv' := [(0, .int a0), (1, .int v1), (2, .int v2)]) [2, 1, 0] rfl ?_
    exact hk4 _ _ h
set_option maxRecDepth 100000 in
set_option maxHeartbeats 4000000 in
theorem wX4_factorial_0 (hJ : eInj 21 ad) (C : Cx p s m args meth c (dC, dI) (xW cI cZ ad) (xA ad) (ExX ad) [(cI, .int), (cZ, .boolean)] cX4_factorial 3 RX4 (some .int) yX4_factorial) {σ : eSt} {a0 : Int32} {z : Int64} {r : Int32} (h : fX4_factorial a0 = some r) : WX p l e rmX4_factorial s m args below meth c (MQ below (cQ (dC, dI) (xW cI cZ ad) (xA ad) (some (.int r)) σ z) args s 0 0 (xA ad)) (dC, dI) (xW cI cZ ad) (xA ad) 3 σ z [(0, .int a0)] 0 [] := by
  unfold fX4_factorial at h
  refine x_iconst (v := 1) C dX4_factorial_0 ic_1 ?_
  refine x_istore_n (lv' := [(1, .int 1), (0, .int a0)]) C dX4_factorial_1 rfl (by decide) rfl ?_
  refine x_iconst (v := 2) C dX4_factorial_2 ic_2 ?_
  refine x_istore_n (lv' := [(2, .int 2), (1, .int 1), (0, .int a0)]) C dX4_factorial_3 rfl (by decide) rfl ?_
  refine x_sub (lv' := [(0, .int a0), (1, .int 1), (2, .int 2)]) [2, 1, 0] rfl ?_
  exact wX4_factorial_4 hJ C _ _ _ h
set_option maxRecDepth 100000 in
set_option maxHeartbeats 4000000 in
theorem tX4_factorial {l : Launch} {dC : Nat → ClassId} {dI : Nat → Nat → Nat} {cI cZ : ClassId} {ad : Nat → Nat} (hJ : eInj 21 ad) {a0 : Int32} {σ : eSt} {z : Int64} {r : Int32} (h : fX4_factorial a0 = some r) : Con l yX4_factorial cX4_factorial 3 (some .int) rmX4_factorial (dC, dI) (xW cI cZ ad) (xA ad) [(cI, .int), (cZ, .boolean)] (ExX ad) [.int a0] σ z (some (.int r)) σ z :=
  x_con (by decide) (xW_D hJ) (ExX_ok ad) (Nat.le_of_ble_eq_true rfl) (fun p e s m args below meth c C => wX4_factorial_0 hJ C h)
set_option maxRecDepth 100000 in
set_option maxHeartbeats 4000000 in
theorem wX4_worth_141 (hJ : eInj 21 ad) (C : Cx p s m args meth c (dC, dI) (xW cI cZ ad) (xA ad) (ExX ad) [(cI, .int), (cZ, .boolean)] cX4_worth 11 RX4 (some .int) yX4_worth) {σ : eSt} {a3 : Int32} {a4 : Int32} {a5 : Int32} {a6 : Int32} {a7 : Int32} {a8 : Int32} {z : Int64} {r : Int32 × eSt} {k77 : Int32 → Int32 → Option (Int32 × eSt)} (hk77 : ∀ (a7 : Int32) (a8 : Int32), k77 a7 a8 = some r → WX p l e rmX4_worth s m args below meth c (MQ below (cQ (dC, dI) (xW cI cZ ad) (xA ad) (some (.int r.1)) r.2 z) args s 0 0 (xA ad)) (dC, dI) (xW cI cZ ad) (xA ad) 11 σ z [(0, .ref (ad 0)), (3, .int a3), (4, .int a4), (5, .int a5), (6, .int a6), (7, .int a7), (8, .int a8)] 77 []) (h : fX4_worth_141 k77 σ a3 a4 a5 a6 a7 a8 = some r) : WX p l e rmX4_worth s m args below meth c (MQ below (cQ (dC, dI) (xW cI cZ ad) (xA ad) (some (.int r.1)) r.2 z) args s 0 0 (xA ad)) (dC, dI) (xW cI cZ ad) (xA ad) 11 σ z [(0, .ref (ad 0)), (3, .int a3), (4, .int a4), (5, .int a5), (6, .int a6), (7, .int a7), (8, .int a8)] 141 [] := by
  unfold fX4_worth_141 at h
  refine x_iinc_b (j := 6) (w := 1) C (fun v1 => [(8, .int v1), (0, .ref (ad 0)), (3, .int a3), (4, .int a4), (5, .int a5), (6, .int a6), (7, .int a7)]) dX4_worth_141 ic_1 rfl (by decide) h (fun _ => rfl) ?_
  intro v1 h
  refine x_goto (tgt := 77) C dX4_worth_144 (by decide) ?_
  refine x_sub (lv' := [(0, .ref (ad 0)), (3, .int a3), (4, .int a4), (5, .int a5), (6, .int a6), (7, .int a7), (8, .int v1)]) [1, 2, 3, 4, 5, 6, 0] rfl ?_
  exact hk77 _ _ h
set_option maxRecDepth 100000 in
set_option maxHeartbeats 4000000 in
theorem wX4_worth_77 (hJ : eInj 21 ad) (C : Cx p s m args meth c (dC, dI) (xW cI cZ ad) (xA ad) (ExX ad) [(cI, .int), (cZ, .boolean)] cX4_worth 11 RX4 (some .int) yX4_worth) {σ : eSt} {a3 : Int32} {a4 : Int32} {a5 : Int32} {a6 : Int32} {z : Int64} {r : Int32 × eSt} : ∀ (n : Nat) (a7 : Int32) (a8 : Int32), lo_2 (bX4_worth_77 σ a3 a4 a5 a6) n a7 a8 = some r → WX p l e rmX4_worth s m args below meth c (MQ below (cQ (dC, dI) (xW cI cZ ad) (xA ad) (some (.int r.1)) r.2 z) args s 0 0 (xA ad)) (dC, dI) (xW cI cZ ad) (xA ad) 11 σ z [(0, .ref (ad 0)), (3, .int a3), (4, .int a4), (5, .int a5), (6, .int a6), (7, .int a7), (8, .int a8)] 77 [] := by
  refine lo_2_ind (P := fun a7 a8 => WX p l e rmX4_worth s m args below meth c (MQ below (cQ (dC, dI) (xW cI cZ ad) (xA ad) (some (.int r.1)) r.2 z) args s 0 0 (xA ad)) (dC, dI) (xW cI cZ ad) (xA ad) 11 σ z [(0, .ref (ad 0)), (3, .int a3), (4, .int a4), (5, .int a5), (6, .int a6), (7, .int a7), (8, .int a8)] 77 []) ?_
  intro k77 hk77 a7 a8 h
  unfold bX4_worth_77 at h
  refine x_iload C dX4_worth_77 6 rfl ?_
  refine x_bipush (v := 64) C dX4_worth_79 bi_64 ?_
  refine x_icmp_ge (tgt := 147) C dX4_worth_81 (by decide) h ?_ ?_
  · intro h
    refine x_iload C dX4_worth_147 5 rfl ?_
    refine x_iload C dX4_worth_149 4 rfl ?_
    refine x_iconst (v := 1) C dX4_worth_151 ic_1 ?_
    refine x_iadd C dX4_worth_152 ?_
    obtain ⟨v1, hv, h⟩ := e_bind h
    refine x_callS_i C [.int (a6 + 1)] (tX4_factorial hJ hv) k_2_152 k_2_153 k_1_1 k_2_154 hyX4_factorial.2 ⟨rfl, rfl⟩ (by decide) rfl rfl (Nat.le_of_ble_eq_true rfl) dX4_worth_153 ?_
    refine x_iload_n C dX4_worth_156 rfl 1 rfl ?_
    obtain ⟨v2, hv, h⟩ := e_bind h
    refine x_callS_i C [.int a7, .int v1, .int a3] (tX4_toldPart hJ hv) k_2_145 k_2_146 k_1_1 k_2_147 hyX4_toldPart.2 ⟨rfl, rfl⟩ (by decide) rfl rfl (Nat.le_of_ble_eq_true rfl) dX4_worth_157 ?_
    exact xr_wi C h dX4_worth_160
  · intro h
    refine x_iload C dX4_worth_84 6 rfl ?_
    refine x_iload C dX4_worth_86 3 rfl ?_
    refine x_iconst (v := (-1)) C dX4_worth_88 ic_m1 ?_
    refine x_ixor C dX4_worth_89 ?_
    refine x_iand C dX4_worth_90 ?_
    refine x_if_ne (tgt := 141) C dX4_worth_91 (by decide) h ?_ ?_
    · intro h
      exact wX4_worth_141 hJ C hk77 h
    · intro h
      refine x_iload C dX4_worth_94 6 rfl ?_
      obtain ⟨v3, hv, h⟩ := e_bind h
      refine x_callS_i C [.int a8] (tJ6_bitCount_0f7a4 hJ hv) k_2_135 k_2_136 k_1_8 k_2_137 hyJ6_bitCount_0f7a4.2 ⟨rfl, rfl⟩ (by decide) rfl rfl (Nat.le_of_ble_eq_true rfl) dX4_worth_96 ?_
      refine x_istore (lv' := [(9, .int v3), (0, .ref (ad 0)), (3, .int a3), (4, .int a4), (5, .int a5), (6, .int a6), (7, .int a7), (8, .int a8)]) C dX4_worth_99 (by decide) rfl ?_
      refine x_iload C dX4_worth_101 0 rfl ?_
      obtain ⟨v4, hv, h⟩ := e_bind h
      refine x_callS_i C [.int v3] (tX4_factorial hJ hv) k_2_152 k_2_153 k_1_1 k_2_154 hyX4_factorial.2 ⟨rfl, rfl⟩ (by decide) rfl rfl (Nat.le_of_ble_eq_true rfl) dX4_worth_103 ?_
      refine x_iload C dX4_worth_106 5 rfl ?_
      refine x_iload C dX4_worth_108 0 rfl ?_
      refine x_isub C dX4_worth_110 ?_
      obtain ⟨v5, hv, h⟩ := e_bind h
      refine x_callS_i C [.int (a6 - v3)] (tX4_factorial hJ hv) k_2_152 k_2_153 k_1_1 k_2_154 hyX4_factorial.2 ⟨rfl, rfl⟩ (by decide) rfl rfl (Nat.le_of_ble_eq_true rfl) dX4_worth_111 ?_
      refine x_imul C dX4_worth_114 ?_
      refine x_istore_b C (fun v6 => [(10, .int v6), (9, .int v3), (0, .ref (ad 0)), (3, .int a3), (4, .int a4), (5, .int a5), (6, .int a6), (7, .int a7), (8, .int a8)]) dX4_worth_115 (by decide) h (fun _ => rfl) ?_
      intro v6 h
      refine x_iload C dX4_worth_117 7 rfl ?_
      refine x_iload C dX4_worth_119 0 rfl ?_
      refine x_aload_n C dX4_worth_121 rfl 2 rfl ?_
      refine x_iload C dX4_worth_122 8 rfl ?_
      refine x_iload C dX4_worth_124 4 rfl ?_
      refine x_ior C dX4_worth_126 ?_
      obtain ⟨v7, hv, h⟩ := e_bind h
      refine x_callV_i C (ci := 4) 0 [.int (a8 ||| a4)] (tX4_sureCount hJ hv) k_2_131 k_2_133 k_p_15 k_1_1 k_2_134 hyX4_sureCount ⟨rfl, rfl⟩ (by decide) rfl rfl rfl rfl (Nat.le_of_ble_eq_true rfl) dX4_worth_127 ?_
      refine x_aload_n C dX4_worth_130 rfl 2 rfl ?_
      refine x_iload C dX4_worth_131 8 rfl ?_
      obtain ⟨v8, hv, h⟩ := e_bind h
      refine x_callV_i C (ci := 4) 0 [.int a8] (tX4_sureCount hJ hv) k_2_131 k_2_133 k_p_15 k_1_1 k_2_134 hyX4_sureCount ⟨rfl, rfl⟩ (by decide) rfl rfl rfl rfl (Nat.le_of_ble_eq_true rfl) dX4_worth_133 ?_
      refine x_isub C dX4_worth_136 ?_
      refine x_imul C dX4_worth_137 ?_
      refine x_iadd C dX4_worth_138 ?_
      refine x_istore_b C (fun v9 => [(7, .int v9), (10, .int v6), (9, .int v3), (0, .ref (ad 0)), (3, .int a3), (4, .int a4), (5, .int a5), (6, .int a6), (8, .int a8)]) dX4_worth_139 (by decide) h (fun _ => rfl) ?_
      intro v9 h
      refine x_sub (lv' := [(0, .ref (ad 0)), (3, .int a3), (4, .int a4), (5, .int a5), (6, .int a6), (7, .int v9), (8, .int a8)]) [3, 4, 5, 6, 7, 0, 8] rfl ?_
      exact wX4_worth_141 hJ C hk77 h
set_option maxRecDepth 100000 in
set_option maxHeartbeats 4000000 in
theorem wX4_worth_0 (hJ : eInj 21 ad) (C : Cx p s m args meth c (dC, dI) (xW cI cZ ad) (xA ad) (ExX ad) [(cI, .int), (cZ, .boolean)] cX4_worth 11 RX4 (some .int) yX4_worth) {σ : eSt} {a1 : Int32} {a2 : Int32} {a3 : Int32} {z : Int64} {r : Int32 × eSt} (h : fX4_worth σ a1 a2 a3 = some r) : WX p l e rmX4_worth s m args below meth c (MQ below (cQ (dC, dI) (xW cI cZ ad) (xA ad) (some (.int r.1)) r.2 z) args s 0 0 (xA ad)) (dC, dI) (xW cI cZ ad) (xA ad) 11 σ z [(0, .ref (ad 0)), (1, .int a1), (2, .int a2), (3, .int a3)] 0 [] := by
  unfold fX4_worth at h
  refine x_aload_n C dX4_worth_0 rfl 0 rfl ?_
  refine fg_4_1 C 0 rfl rfl k_1_128 dX4_worth_1 ?_
  refine x_iload_n C dX4_worth_4 rfl 1 rfl ?_
  obtain ⟨v1, hv, h⟩ := e_bind h
  refine x_callV_i C (ci := 2) 3 [.int a1] (tX2_has hJ hv) k_1_239 k_2_0 k_2_1 k_1_3 k_2_2 hyX2_has ⟨rfl, rfl⟩ (by decide) rfl rfl rfl rfl (Nat.le_of_ble_eq_true rfl) dX4_worth_5 ?_
  refine x_if_ne (tgt := 13) C dX4_worth_8 (by decide) h ?_ ?_
  · intro h
    refine x_iload_n C dX4_worth_13 rfl 2 rfl ?_
    obtain ⟨v2, hv, h⟩ := e_bind h
    refine x_callS_i C [.int a2] (tX4_isHour hJ hv) k_2_93 k_2_94 k_1_1 k_2_95 hyX4_isHour.2 ⟨rfl, rfl⟩ (by decide) rfl rfl (Nat.le_of_ble_eq_true rfl) dX4_worth_14 ?_
    refine x_if_ne (tgt := 23) C dX4_worth_17 (by decide) h ?_ ?_
    · intro h
      refine x_iconst (v := 1) C dX4_worth_23 ic_1 ?_
      refine x_iload_n C dX4_worth_24 rfl 1 rfl ?_
      refine x_ishl C dX4_worth_25 ?_
      refine x_istore_b C (fun v3 => [(4, .int v3), (0, .ref (ad 0)), (1, .int a1), (2, .int a2), (3, .int a3)]) dX4_worth_26 (by decide) h (fun _ => rfl) ?_
      intro v3 h
      refine x_aload_n C dX4_worth_28 rfl 1 rfl ?_
      refine fg_4_2 C 0 rfl rfl k_1_129 dX4_worth_29 ?_
      refine fg_0_2 C 9 rfl rfl k_1_75 dX4_worth_32 ?_
      refine x_iload C dX4_worth_35 0 rfl ?_
      refine x_iand C dX4_worth_37 ?_
      refine x_if_eq (tgt := 48) C dX4_worth_38 (by decide) h ?_ ?_
      · intro h
        refine x_aload_n C dX4_worth_48 rfl 1 rfl ?_
        refine x_iload_n C dX4_worth_49 rfl 3 rfl ?_
        obtain ⟨σ4, hv, h⟩ := e_bind h
        refine x_callV_v C (ci := 4) 0 [.int a2] (tX4_fillSetsNow hJ hv) k_2_100 k_2_102 k_p_11 k_1_1 k_2_103 hyX4_fillSetsNow ⟨rfl, rfl⟩ (by decide) rfl rfl rfl rfl (Nat.le_of_ble_eq_true rfl) dX4_worth_50 ?_
        refine x_aload_n C dX4_worth_53 rfl 1 rfl ?_
        obtain ⟨v5, hv, h⟩ := e_bind h
        refine x_callV_i C (ci := 4) 0 [] (tX4_liveSounds hJ hv) k_2_45 k_2_47 k_p_9 k_1_1 k_2_48 hyX4_liveSounds ⟨rfl, rfl⟩ (by decide) rfl rfl rfl rfl (Nat.le_of_ble_eq_true rfl) dX4_worth_54 ?_
        refine x_iload C dX4_worth_57 0 rfl ?_
        refine x_iconst (v := (-1)) C dX4_worth_59 ic_m1 ?_
        refine x_ixor C dX4_worth_60 ?_
        refine x_iand C dX4_worth_61 ?_
        refine x_istore_b C (fun v6 => [(5, .int v6), (4, .int v3), (0, .ref (ad 0)), (1, .int a1), (2, .int a2), (3, .int a3)]) dX4_worth_62 (by decide) h (fun _ => rfl) ?_
        intro v6 h
        refine x_iload C dX4_worth_64 0 rfl ?_
        obtain ⟨v7, hv, h⟩ := e_bind h
        refine x_callS_i C [.int v6] (tJ6_bitCount_0f7a4 hJ hv) k_2_135 k_2_136 k_1_8 k_2_137 hyJ6_bitCount_0f7a4.2 ⟨rfl, rfl⟩ (by decide) rfl rfl (Nat.le_of_ble_eq_true rfl) dX4_worth_66 ?_
        refine x_istore (lv' := [(6, .int v7), (5, .int v6), (4, .int v3), (0, .ref (ad 0)), (1, .int a1), (2, .int a2), (3, .int a3)]) C dX4_worth_69 (by decide) rfl ?_
        refine x_iconst (v := 0) C dX4_worth_71 ic_0 ?_
        refine x_istore (lv' := [(7, .int 0), (6, .int v7), (5, .int v6), (4, .int v3), (0, .ref (ad 0)), (1, .int a1), (2, .int a2), (3, .int a3)]) C dX4_worth_72 (by decide) rfl ?_
        refine x_iconst (v := 0) C dX4_worth_74 ic_0 ?_
        refine x_istore (lv' := [(8, .int 0), (7, .int 0), (6, .int v7), (5, .int v6), (4, .int v3), (0, .ref (ad 0)), (1, .int a1), (2, .int a2), (3, .int a3)]) C dX4_worth_75 (by decide) rfl ?_
        refine x_sub (lv' := [(0, .ref (ad 0)), (3, .int a3), (4, .int v3), (5, .int v6), (6, .int v7), (7, .int 0), (8, .int 0)]) [5, 8, 4, 3, 2, 1, 0] rfl ?_
        exact wX4_worth_77 hJ C _ _ _ h
      · intro h
        refine x_iconst (v := 0) C dX4_worth_41 ic_0 ?_
        refine x_iconst (v := 1) C dX4_worth_42 ic_1 ?_
        refine x_iload_n C dX4_worth_43 rfl 4 rfl ?_
        obtain ⟨v8, hv, h⟩ := e_bind h
        refine x_callS_i C [.int 0, .int 1, .int a3] (tX4_toldPart hJ hv) k_2_145 k_2_146 k_1_1 k_2_147 hyX4_toldPart.2 ⟨rfl, rfl⟩ (by decide) rfl rfl (Nat.le_of_ble_eq_true rfl) dX4_worth_44 ?_
        exact xr_wi C h dX4_worth_47
    · intro h
      refine x_bipush (v := (-2)) C dX4_worth_20 bi_m2 ?_
      exact xr_wi C h dX4_worth_22
  · intro h
    refine x_iconst (v := (-1)) C dX4_worth_11 ic_m1 ?_
    exact xr_wi C h dX4_worth_12
set_option maxRecDepth 100000 in
set_option maxHeartbeats 4000000 in
theorem tX4_worth {l : Launch} {dC : Nat → ClassId} {dI : Nat → Nat → Nat} {cI cZ : ClassId} {ad : Nat → Nat} (hJ : eInj 21 ad) {σ : eSt} {a1 : Int32} {a2 : Int32} {a3 : Int32} {z : Int64} {r : Int32 × eSt} (h : fX4_worth σ a1 a2 a3 = some r) : Con l yX4_worth cX4_worth 11 (some .int) rmX4_worth (dC, dI) (xW cI cZ ad) (xA ad) [(cI, .int), (cZ, .boolean)] (ExX ad) [.ref (ad 0), .int a1, .int a2, .int a3] σ z (some (.int r.1)) r.2 z :=
  x_con (by decide) (xW_D hJ) (ExX_ok ad) (Nat.le_of_ble_eq_true rfl) (fun p e s m args below meth c C => wX4_worth_0 hJ C h)
set_option maxRecDepth 100000 in
set_option maxHeartbeats 4000000 in
theorem wX4_isFirstOrSecond_0 (hJ : eInj 21 ad) (C : Cx p s m args meth c (dC, dI) (xW cI cZ ad) (xA ad) (ExX ad) [(cI, .int), (cZ, .boolean)] cX4_isFirstOrSecond 1 RX4 (some .boolean) yX4_isFirstOrSecond) {σ : eSt} {a0 : Int32} {z : Int64} {r : Int32} (h : fX4_isFirstOrSecond a0 = some r) : WX p l e rmX4_isFirstOrSecond s m args below meth c (MQ below (cQ (dC, dI) (xW cI cZ ad) (xA ad) (some (.int r)) σ z) args s 0 0 (xA ad)) (dC, dI) (xW cI cZ ad) (xA ad) 1 σ z [(0, .int a0)] 0 [] := by
  unfold fX4_isFirstOrSecond at h
  refine x_iload_n C dX4_isFirstOrSecond_0 rfl 0 rfl ?_
  refine x_if_eq (tgt := 9) C dX4_isFirstOrSecond_1 (by decide) h ?_ ?_
  · intro h
    refine x_iconst (v := 1) C dX4_isFirstOrSecond_9 ic_1 ?_
    refine x_goto (tgt := 14) C dX4_isFirstOrSecond_10 (by decide) ?_
    exact xr_z C h dX4_isFirstOrSecond_14
  · intro h
    refine x_iload_n C dX4_isFirstOrSecond_4 rfl 0 rfl ?_
    refine x_iconst (v := 1) C dX4_isFirstOrSecond_5 ic_1 ?_
    refine x_icmp_ne (tgt := 13) C dX4_isFirstOrSecond_6 (by decide) h ?_ ?_
    · intro h
      refine x_iconst (v := 0) C dX4_isFirstOrSecond_13 ic_0 ?_
      exact xr_z C h dX4_isFirstOrSecond_14
    · intro h
      refine x_iconst (v := 1) C dX4_isFirstOrSecond_9 ic_1 ?_
      refine x_goto (tgt := 14) C dX4_isFirstOrSecond_10 (by decide) ?_
      exact xr_z C h dX4_isFirstOrSecond_14
set_option maxRecDepth 100000 in
set_option maxHeartbeats 4000000 in
theorem tX4_isFirstOrSecond {l : Launch} {dC : Nat → ClassId} {dI : Nat → Nat → Nat} {cI cZ : ClassId} {ad : Nat → Nat} (hJ : eInj 21 ad) {a0 : Int32} {σ : eSt} {z : Int64} {r : Int32} (h : fX4_isFirstOrSecond a0 = some r) : Con l yX4_isFirstOrSecond cX4_isFirstOrSecond 1 (some .boolean) rmX4_isFirstOrSecond (dC, dI) (xW cI cZ ad) (xA ad) [(cI, .int), (cZ, .boolean)] (ExX ad) [.int a0] σ z (some (.int r)) σ z :=
  x_con (by decide) (xW_D hJ) (ExX_ok ad) (Nat.le_of_ble_eq_true rfl) (fun p e s m args below meth c C => wX4_isFirstOrSecond_0 hJ C h)
set_option maxRecDepth 100000 in
set_option maxHeartbeats 4000000 in
theorem wX4_sureCountWith_0 (hJ : eInj 21 ad) (C : Cx p s m args meth c (dC, dI) (xW cI cZ ad) (xA ad) (ExX ad) [(cI, .int), (cZ, .boolean)] cX4_sureCountWith 3 RX4 (some .int) yX4_sureCountWith) {σ : eSt} {a1 : Int32} {a2 : Int32} {z : Int64} {r : Int32 × eSt} (h : fX4_sureCountWith σ a1 a2 = some r) : WX p l e rmX4_sureCountWith s m args below meth c (MQ below (cQ (dC, dI) (xW cI cZ ad) (xA ad) (some (.int r.1)) r.2 z) args s 0 0 (xA ad)) (dC, dI) (xW cI cZ ad) (xA ad) 3 σ z [(0, .ref (ad 0)), (1, .int a1), (2, .int a2)] 0 [] := by
  unfold fX4_sureCountWith at h
  refine x_aload_n C dX4_sureCountWith_0 rfl 0 rfl ?_
  refine x_iload_n C dX4_sureCountWith_1 rfl 1 rfl ?_
  refine x_iload_n C dX4_sureCountWith_2 rfl 2 rfl ?_
  obtain ⟨σ1, hv, h⟩ := e_bind h
  refine x_callV_v C (ci := 4) 0 [.int a1, .int a2] (tX4_fillSets hJ hv) k_2_108 k_2_110 k_p_13 k_1_1 k_2_111 hyX4_fillSets ⟨rfl, rfl⟩ (by decide) rfl rfl rfl rfl (Nat.le_of_ble_eq_true rfl) dX4_sureCountWith_3 ?_
  refine x_aload_n C dX4_sureCountWith_6 rfl 0 rfl ?_
  refine x_sipush (v := 255) C dX4_sureCountWith_7 si_255 ?_
  obtain ⟨v2, hv, h⟩ := e_bind h
  refine x_callV_i C (ci := 4) 0 [.int 255] (tX4_sureCount hJ hv) k_2_131 k_2_133 k_p_15 k_1_1 k_2_134 hyX4_sureCount ⟨rfl, rfl⟩ (by decide) rfl rfl rfl rfl (Nat.le_of_ble_eq_true rfl) dX4_sureCountWith_10 ?_
  exact xr_wi C h dX4_sureCountWith_13
set_option maxRecDepth 100000 in
set_option maxHeartbeats 4000000 in
theorem tX4_sureCountWith {l : Launch} {dC : Nat → ClassId} {dI : Nat → Nat → Nat} {cI cZ : ClassId} {ad : Nat → Nat} (hJ : eInj 21 ad) {σ : eSt} {a1 : Int32} {a2 : Int32} {z : Int64} {r : Int32 × eSt} (h : fX4_sureCountWith σ a1 a2 = some r) : Con l yX4_sureCountWith cX4_sureCountWith 3 (some .int) rmX4_sureCountWith (dC, dI) (xW cI cZ ad) (xA ad) [(cI, .int), (cZ, .boolean)] (ExX ad) [.ref (ad 0), .int a1, .int a2] σ z (some (.int r.1)) r.2 z :=
  x_con (by decide) (xW_D hJ) (ExX_ok ad) (Nat.le_of_ble_eq_true rfl) (fun p e s m args below meth c C => wX4_sureCountWith_0 hJ C h)
set_option maxRecDepth 100000 in
set_option maxHeartbeats 4000000 in
theorem wX4_fewestHammers_56 (hJ : eInj 21 ad) (C : Cx p s m args meth c (dC, dI) (xW cI cZ ad) (xA ad) (ExX ad) [(cI, .int), (cZ, .boolean)] cX4_fewestHammers 4 RX4 (some .int) yX4_fewestHammers) {a1 : Int32} {a2 : Int32} {z : Int64} {r : Int32 × eSt} {k46 : Int32 → eSt → Option (Int32 × eSt)} (hk46 : ∀ (a2 : Int32) (σ : eSt), k46 a2 σ = some r → WX p l e rmX4_fewestHammers s m args below meth c (MQ below (cQ (dC, dI) (xW cI cZ ad) (xA ad) (some (.int r.1)) r.2 z) args s 0 0 (xA ad)) (dC, dI) (xW cI cZ ad) (xA ad) 4 σ z [(0, .ref (ad 0)), (1, .int a1), (2, .int a2)] 46 []) : ∀ (n : Nat) (a3 : Int32) (σ : eSt), lo_2 (bX4_fewestHammers_56 k46 a1 a2) n a3 σ = some r → WX p l e rmX4_fewestHammers s m args below meth c (MQ below (cQ (dC, dI) (xW cI cZ ad) (xA ad) (some (.int r.1)) r.2 z) args s 0 0 (xA ad)) (dC, dI) (xW cI cZ ad) (xA ad) 4 σ z [(0, .ref (ad 0)), (1, .int a1), (2, .int a2), (3, .int a3)] 56 [] := by
  refine lo_2_ind (P := fun a3 σ => WX p l e rmX4_fewestHammers s m args below meth c (MQ below (cQ (dC, dI) (xW cI cZ ad) (xA ad) (some (.int r.1)) r.2 z) args s 0 0 (xA ad)) (dC, dI) (xW cI cZ ad) (xA ad) 4 σ z [(0, .ref (ad 0)), (1, .int a1), (2, .int a2), (3, .int a3)] 56 []) ?_
  intro k56 hk56 a3 σ h
  unfold bX4_fewestHammers_56 at h
  refine x_iload_n C dX4_fewestHammers_56 rfl 3 rfl ?_
  refine x_bipush (v := 10) C dX4_fewestHammers_57 bi_10 ?_
  refine x_icmp_ge (tgt := 89) C dX4_fewestHammers_59 (by decide) h ?_ ?_
  · intro h
    refine x_iinc_b (j := 2) (w := 1) C (fun v1 => [(2, .int v1), (0, .ref (ad 0)), (1, .int a1), (3, .int a3)]) dX4_fewestHammers_89 ic_1 rfl (by decide) h (fun _ => rfl) ?_
    intro v1 h
    refine x_goto (tgt := 46) C dX4_fewestHammers_92 (by decide) ?_
    refine x_sub (lv' := [(0, .ref (ad 0)), (1, .int a1), (2, .int v1)]) [1, 2, 0] rfl ?_
    exact hk46 _ _ h
  · intro h
    refine x_aload_n C dX4_fewestHammers_62 rfl 0 rfl ?_
    refine x_iload_n C dX4_fewestHammers_63 rfl 2 rfl ?_
    refine x_iload_n C dX4_fewestHammers_64 rfl 3 rfl ?_
    obtain ⟨w2, hv, h⟩ := e_bind h
    refine x_callV_i C (ci := 4) 0 [.int a2, .int a3] (tX4_sureCountWith hJ hv) k_2_166 k_2_168 k_p_17 k_1_1 k_2_169 hyX4_sureCountWith ⟨rfl, rfl⟩ (by decide) rfl rfl rfl rfl (Nat.le_of_ble_eq_true rfl) dX4_fewestHammers_65 ?_
    refine x_iload_n C dX4_fewestHammers_68 rfl 1 rfl ?_
    refine x_icmp_lt (tgt := 83) C dX4_fewestHammers_69 (by decide) h ?_ ?_
    · intro h
      refine x_iinc_b (j := 3) (w := 1) C (fun v3 => [(3, .int v3), (0, .ref (ad 0)), (1, .int a1), (2, .int a2)]) dX4_fewestHammers_83 ic_1 rfl (by decide) h (fun _ => rfl) ?_
      intro v3 h
      refine x_goto (tgt := 56) C dX4_fewestHammers_86 (by decide) ?_
      refine x_sub (lv' := [(0, .ref (ad 0)), (1, .int a1), (2, .int a2), (3, .int v3)]) [1, 2, 3, 0] rfl ?_
      exact hk56 _ _ h
    · intro h
      refine x_sipush (v := 200) C dX4_fewestHammers_72 si_200 ?_
      refine x_bipush (v := 10) C dX4_fewestHammers_75 bi_10 ?_
      refine x_iload_n C dX4_fewestHammers_77 rfl 2 rfl ?_
      refine x_imul C dX4_fewestHammers_78 ?_
      refine x_iadd C dX4_fewestHammers_79 ?_
      refine x_iload_n C dX4_fewestHammers_80 rfl 3 rfl ?_
      refine x_iadd C dX4_fewestHammers_81 ?_
      exact xr_wi C h dX4_fewestHammers_82
set_option maxRecDepth 100000 in
set_option maxHeartbeats 4000000 in
theorem wX4_fewestHammers_46 (hJ : eInj 21 ad) (C : Cx p s m args meth c (dC, dI) (xW cI cZ ad) (xA ad) (ExX ad) [(cI, .int), (cZ, .boolean)] cX4_fewestHammers 4 RX4 (some .int) yX4_fewestHammers) {a1 : Int32} {z : Int64} {r : Int32 × eSt} : ∀ (n : Nat) (a2 : Int32) (σ : eSt), lo_2 (bX4_fewestHammers_46 a1) n a2 σ = some r → WX p l e rmX4_fewestHammers s m args below meth c (MQ below (cQ (dC, dI) (xW cI cZ ad) (xA ad) (some (.int r.1)) r.2 z) args s 0 0 (xA ad)) (dC, dI) (xW cI cZ ad) (xA ad) 4 σ z [(0, .ref (ad 0)), (1, .int a1), (2, .int a2)] 46 [] := by
  refine lo_2_ind (P := fun a2 σ => WX p l e rmX4_fewestHammers s m args below meth c (MQ below (cQ (dC, dI) (xW cI cZ ad) (xA ad) (some (.int r.1)) r.2 z) args s 0 0 (xA ad)) (dC, dI) (xW cI cZ ad) (xA ad) 4 σ z [(0, .ref (ad 0)), (1, .int a1), (2, .int a2)] 46 []) ?_
  intro k46 hk46 a2 σ h
  unfold bX4_fewestHammers_46 at h
  refine x_iload_n C dX4_fewestHammers_46 rfl 2 rfl ?_
  refine x_bipush (v := 10) C dX4_fewestHammers_47 bi_10 ?_
  refine x_icmp_ge (tgt := 95) C dX4_fewestHammers_49 (by decide) h ?_ ?_
  · intro h
    refine x_bipush (v := (-9)) C dX4_fewestHammers_95 bi_m9 ?_
    exact xr_wi C h dX4_fewestHammers_97
  · intro h
    refine x_iload_n C dX4_fewestHammers_52 rfl 2 rfl ?_
    refine x_iconst (v := 1) C dX4_fewestHammers_53 ic_1 ?_
    refine x_iadd C dX4_fewestHammers_54 ?_
    refine x_istore_n_b C (fun v1 => [(3, .int v1), (0, .ref (ad 0)), (1, .int a1), (2, .int a2)]) dX4_fewestHammers_55 rfl (by decide) h (fun _ => rfl) ?_
    intro v1 h
    refine x_sub (lv' := [(0, .ref (ad 0)), (1, .int a1), (2, .int a2), (3, .int v1)]) [1, 2, 3, 0] rfl ?_
    exact wX4_fewestHammers_56 hJ C hk46 _ _ _ h
set_option maxRecDepth 100000 in
set_option maxHeartbeats 4000000 in
theorem wX4_fewestHammers_16 (hJ : eInj 21 ad) (C : Cx p s m args meth c (dC, dI) (xW cI cZ ad) (xA ad) (ExX ad) [(cI, .int), (cZ, .boolean)] cX4_fewestHammers 4 RX4 (some .int) yX4_fewestHammers) {a1 : Int32} {z : Int64} {r : Int32 × eSt} : ∀ (n : Nat) (a2 : Int32) (σ : eSt), lo_2 (bX4_fewestHammers_16 a1) n a2 σ = some r → WX p l e rmX4_fewestHammers s m args below meth c (MQ below (cQ (dC, dI) (xW cI cZ ad) (xA ad) (some (.int r.1)) r.2 z) args s 0 0 (xA ad)) (dC, dI) (xW cI cZ ad) (xA ad) 4 σ z [(0, .ref (ad 0)), (1, .int a1), (2, .int a2)] 16 [] := by
  refine lo_2_ind (P := fun a2 σ => WX p l e rmX4_fewestHammers s m args below meth c (MQ below (cQ (dC, dI) (xW cI cZ ad) (xA ad) (some (.int r.1)) r.2 z) args s 0 0 (xA ad)) (dC, dI) (xW cI cZ ad) (xA ad) 4 σ z [(0, .ref (ad 0)), (1, .int a1), (2, .int a2)] 16 []) ?_
  intro k16 hk16 a2 σ h
  unfold bX4_fewestHammers_16 at h
  refine x_iload_n C dX4_fewestHammers_16 rfl 2 rfl ?_
  refine x_bipush (v := 10) C dX4_fewestHammers_17 bi_10 ?_
  refine x_icmp_ge (tgt := 44) C dX4_fewestHammers_19 (by decide) h ?_ ?_
  · intro h
    refine x_iconst (v := 0) C dX4_fewestHammers_44 ic_0 ?_
    refine x_istore_n (lv' := [(2, .int 0), (0, .ref (ad 0)), (1, .int a1)]) C dX4_fewestHammers_45 rfl (by decide) rfl ?_
    refine x_sub (lv' := [(0, .ref (ad 0)), (1, .int a1), (2, .int 0)]) [1, 2, 0] rfl ?_
    exact wX4_fewestHammers_46 hJ C _ _ _ h
  · intro h
    refine x_aload_n C dX4_fewestHammers_22 rfl 0 rfl ?_
    refine x_iload_n C dX4_fewestHammers_23 rfl 2 rfl ?_
    refine x_bipush (v := 10) C dX4_fewestHammers_24 bi_10 ?_
    obtain ⟨w1, hv, h⟩ := e_bind h
    refine x_callV_i C (ci := 4) 0 [.int a2, .int 10] (tX4_sureCountWith hJ hv) k_2_166 k_2_168 k_p_17 k_1_1 k_2_169 hyX4_sureCountWith ⟨rfl, rfl⟩ (by decide) rfl rfl rfl rfl (Nat.le_of_ble_eq_true rfl) dX4_fewestHammers_26 ?_
    refine x_iload_n C dX4_fewestHammers_29 rfl 1 rfl ?_
    refine x_icmp_lt (tgt := 38) C dX4_fewestHammers_30 (by decide) h ?_ ?_
    · intro h
      refine x_iinc_b (j := 2) (w := 1) C (fun v2 => [(2, .int v2), (0, .ref (ad 0)), (1, .int a1)]) dX4_fewestHammers_38 ic_1 rfl (by decide) h (fun _ => rfl) ?_
      intro v2 h
      refine x_goto (tgt := 16) C dX4_fewestHammers_41 (by decide) ?_
      refine x_sub (lv' := [(0, .ref (ad 0)), (1, .int a1), (2, .int v2)]) [1, 2, 0] rfl ?_
      exact hk16 _ _ h
    · intro h
      refine x_bipush (v := 100) C dX4_fewestHammers_33 bi_100 ?_
      refine x_iload_n C dX4_fewestHammers_35 rfl 2 rfl ?_
      refine x_iadd C dX4_fewestHammers_36 ?_
      exact xr_wi C h dX4_fewestHammers_37
set_option maxRecDepth 100000 in
set_option maxHeartbeats 4000000 in
theorem wX4_fewestHammers_0 (hJ : eInj 21 ad) (C : Cx p s m args meth c (dC, dI) (xW cI cZ ad) (xA ad) (ExX ad) [(cI, .int), (cZ, .boolean)] cX4_fewestHammers 4 RX4 (some .int) yX4_fewestHammers) {σ : eSt} {a1 : Int32} {z : Int64} {r : Int32 × eSt} (h : fX4_fewestHammers σ a1 = some r) : WX p l e rmX4_fewestHammers s m args below meth c (MQ below (cQ (dC, dI) (xW cI cZ ad) (xA ad) (some (.int r.1)) r.2 z) args s 0 0 (xA ad)) (dC, dI) (xW cI cZ ad) (xA ad) 4 σ z [(0, .ref (ad 0)), (1, .int a1)] 0 [] := by
  unfold fX4_fewestHammers at h
  refine x_aload_n C dX4_fewestHammers_0 rfl 0 rfl ?_
  refine x_bipush (v := 10) C dX4_fewestHammers_1 bi_10 ?_
  refine x_bipush (v := 10) C dX4_fewestHammers_3 bi_10 ?_
  obtain ⟨w1, hv, h⟩ := e_bind h
  refine x_callV_i C (ci := 4) 0 [.int 10, .int 10] (tX4_sureCountWith hJ hv) k_2_166 k_2_168 k_p_17 k_1_1 k_2_169 hyX4_sureCountWith ⟨rfl, rfl⟩ (by decide) rfl rfl rfl rfl (Nat.le_of_ble_eq_true rfl) dX4_fewestHammers_5 ?_
  refine x_iload_n C dX4_fewestHammers_8 rfl 1 rfl ?_
  refine x_icmp_lt (tgt := 14) C dX4_fewestHammers_9 (by decide) h ?_ ?_
  · intro h
    refine x_iconst (v := 0) C dX4_fewestHammers_14 ic_0 ?_
    refine x_istore_n (lv' := [(2, .int 0), (0, .ref (ad 0)), (1, .int a1)]) C dX4_fewestHammers_15 rfl (by decide) rfl ?_
    refine x_sub (lv' := [(0, .ref (ad 0)), (1, .int a1), (2, .int 0)]) [1, 2, 0] rfl ?_
    exact wX4_fewestHammers_16 hJ C _ _ _ h
  · intro h
    refine x_iconst (v := 0) C dX4_fewestHammers_12 ic_0 ?_
    exact xr_wi C h dX4_fewestHammers_13
set_option maxRecDepth 100000 in
set_option maxHeartbeats 4000000 in
theorem tX4_fewestHammers {l : Launch} {dC : Nat → ClassId} {dI : Nat → Nat → Nat} {cI cZ : ClassId} {ad : Nat → Nat} (hJ : eInj 21 ad) {σ : eSt} {a1 : Int32} {z : Int64} {r : Int32 × eSt} (h : fX4_fewestHammers σ a1 = some r) : Con l yX4_fewestHammers cX4_fewestHammers 4 (some .int) rmX4_fewestHammers (dC, dI) (xW cI cZ ad) (xA ad) [(cI, .int), (cZ, .boolean)] (ExX ad) [.ref (ad 0), .int a1] σ z (some (.int r.1)) r.2 z :=
  x_con (by decide) (xW_D hJ) (ExX_ok ad) (Nat.le_of_ble_eq_true rfl) (fun p e s m args below meth c C => wX4_fewestHammers_0 hJ C h)
set_option maxRecDepth 100000 in
set_option maxHeartbeats 4000000 in
theorem wX4_hammers_0 (hJ : eInj 21 ad) (C : Cx p s m args meth c (dC, dI) (xW cI cZ ad) (xA ad) (ExX ad) [(cI, .int), (cZ, .boolean)] cX4_hammers 5 RX4 (some .int) yX4_hammers) {σ : eSt} {a1 : Int32} {a2 : Int32} {a3 : Int32} {z : Int64} {r : Int32 × eSt} (h : fX4_hammers σ a1 a2 a3 = some r) : WX p l e rmX4_hammers s m args below meth c (MQ below (cQ (dC, dI) (xW cI cZ ad) (xA ad) (some (.int r.1)) r.2 z) args s 0 0 (xA ad)) (dC, dI) (xW cI cZ ad) (xA ad) 5 σ z [(0, .ref (ad 0)), (1, .int a1), (2, .int a2), (3, .int a3)] 0 [] := by
  unfold fX4_hammers at h
  refine x_iload_n C dX4_hammers_0 rfl 1 rfl ?_
  obtain ⟨v1, hv, h⟩ := e_bind h
  refine x_callS_i C [.int a1] (tX4_isHour hJ hv) k_2_93 k_2_94 k_1_1 k_2_95 hyX4_isHour.2 ⟨rfl, rfl⟩ (by decide) rfl rfl (Nat.le_of_ble_eq_true rfl) dX4_hammers_1 ?_
  refine x_if_eq (tgt := 25) C dX4_hammers_4 (by decide) h ?_ ?_
  · intro h
    refine x_bipush (v := (-2)) C dX4_hammers_25 bi_m2 ?_
    exact xr_wi C h dX4_hammers_27
  · intro h
    refine x_iload_n C dX4_hammers_7 rfl 2 rfl ?_
    refine x_iconst (v := 1) C dX4_hammers_8 ic_1 ?_
    refine x_icmp_lt (tgt := 25) C dX4_hammers_9 (by decide) h ?_ ?_
    · intro h
      refine x_bipush (v := (-2)) C dX4_hammers_25 bi_m2 ?_
      exact xr_wi C h dX4_hammers_27
    · intro h
      refine x_iload_n C dX4_hammers_12 rfl 2 rfl ?_
      refine x_bipush (v := 10) C dX4_hammers_13 bi_10 ?_
      refine x_icmp_gt (tgt := 25) C dX4_hammers_15 (by decide) h ?_ ?_
      · intro h
        refine x_bipush (v := (-2)) C dX4_hammers_25 bi_m2 ?_
        exact xr_wi C h dX4_hammers_27
      · intro h
        refine x_iload_n C dX4_hammers_18 rfl 3 rfl ?_
        obtain ⟨v2, hv, h⟩ := e_bind h
        refine x_callS_i C [.int a3] (tX4_isFirstOrSecond hJ hv) k_2_159 k_2_160 k_1_1 k_2_161 hyX4_isFirstOrSecond.2 ⟨rfl, rfl⟩ (by decide) rfl rfl (Nat.le_of_ble_eq_true rfl) dX4_hammers_19 ?_
        refine x_if_ne (tgt := 28) C dX4_hammers_22 (by decide) h ?_ ?_
        · intro h
          refine x_aload_n C dX4_hammers_28 rfl 0 rfl ?_
          refine x_iload_n C dX4_hammers_29 rfl 1 rfl ?_
          obtain ⟨σ3, hv, h⟩ := e_bind h
          refine x_callV_v C (ci := 4) 0 [.int a1] (tX4_fillSoundSets hJ hv) k_2_104 k_2_106 k_p_12 k_1_1 k_2_107 hyX4_fillSoundSets ⟨rfl, rfl⟩ (by decide) rfl rfl rfl rfl (Nat.le_of_ble_eq_true rfl) dX4_hammers_30 ?_
          refine x_aload_n C dX4_hammers_33 rfl 0 rfl ?_
          refine x_iload_n C dX4_hammers_34 rfl 2 rfl ?_
          obtain ⟨w4, hv, h⟩ := e_bind h
          refine x_callV_i C (ci := 4) 0 [.int a2] (tX4_fewestHammers hJ hv) k_2_162 k_2_164 k_p_16 k_1_1 k_2_165 hyX4_fewestHammers ⟨rfl, rfl⟩ (by decide) rfl rfl rfl rfl (Nat.le_of_ble_eq_true rfl) dX4_hammers_35 ?_
          refine x_istore (lv' := [(4, .int w4.1), (0, .ref (ad 0)), (1, .int a1), (2, .int a2), (3, .int a3)]) C dX4_hammers_38 (by decide) rfl ?_
          refine x_iload C dX4_hammers_40 0 rfl ?_
          refine x_bipush (v := (-9)) C dX4_hammers_42 bi_m9 ?_
          refine x_icmp_ne (tgt := 50) C dX4_hammers_44 (by decide) h ?_ ?_
          · intro h
            refine x_iload_n C dX4_hammers_50 rfl 4 rfl ?_
            refine x_if_ne (tgt := 62) C dX4_hammers_51 (by decide) h ?_ ?_
            · intro h
              refine x_iload C dX4_hammers_62 0 rfl ?_
              refine x_bipush (v := 100) C dX4_hammers_64 bi_100 ?_
              refine x_irem_c C dX4_hammers_66 (by decide) ?_
              exact xr_wi C h dX4_hammers_67
            · intro h
              refine x_iload C dX4_hammers_54 0 rfl ?_
              refine x_bipush (v := 100) C dX4_hammers_56 bi_100 ?_
              refine x_idiv_c C dX4_hammers_58 (by decide) ?_
              refine x_goto (tgt := 67) C dX4_hammers_59 (by decide) ?_
              exact xr_wi C h dX4_hammers_67
          · intro h
            refine x_bipush (v := (-9)) C dX4_hammers_47 bi_m9 ?_
            exact xr_wi C h dX4_hammers_49
        · intro h
          refine x_bipush (v := (-2)) C dX4_hammers_25 bi_m2 ?_
          exact xr_wi C h dX4_hammers_27
set_option maxRecDepth 100000 in
set_option maxHeartbeats 4000000 in
theorem tX4_hammers {l : Launch} {dC : Nat → ClassId} {dI : Nat → Nat → Nat} {cI cZ : ClassId} {ad : Nat → Nat} (hJ : eInj 21 ad) {σ : eSt} {a1 : Int32} {a2 : Int32} {a3 : Int32} {z : Int64} {r : Int32 × eSt} (h : fX4_hammers σ a1 a2 a3 = some r) : Con l yX4_hammers cX4_hammers 5 (some .int) rmX4_hammers (dC, dI) (xW cI cZ ad) (xA ad) [(cI, .int), (cZ, .boolean)] (ExX ad) [.ref (ad 0), .int a1, .int a2, .int a3] σ z (some (.int r.1)) r.2 z :=
  x_con (by decide) (xW_D hJ) (ExX_ok ad) (Nat.le_of_ble_eq_true rfl) (fun p e s m args below meth c C => wX4_hammers_0 hJ C h)
end WK

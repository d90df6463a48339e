section WK
variable {p : Program} {l : Launch} {e : Env} {s : State} {m : MethodId} {args : Array Value} {below : List Frame} {meth : Method} {c : Code} {dC : Nat → ClassId} {dI : Nat → Nat → Nat} {cI cZ : ClassId} {ad : Nat → Nat}
set_option maxRecDepth 100000 in
set_option maxHeartbeats 4000000 in
theorem wX5_hour_0 (hJ : eInj 16 ad) (C : Cx p s m args meth c (dC, dI) (yW cI cZ ad) (yA ad) ExY [(cI, .int), (cZ, .boolean)] cX5_hour 1 RX5 (some .int) yX5_hour) {σ : eSt} {z : Int64} {r : Int32 × eSt} (h : fX5_hour σ = some r) : WX p l e rmX5_hour s m args below meth c (MQ below (cQ (dC, dI) (yW cI cZ ad) (yA ad) (some (.int r.1)) r.2 z) args s 0 0 (yA ad)) (dC, dI) (yW cI cZ ad) (yA ad) 1 σ z [(0, .ref (ad 0))] 0 [] := by
  unfold fX5_hour at h
  refine x_aload_n C dX5_hour_0 rfl 0 rfl ?_
  refine x_iconst (v := 0) C dX5_hour_1 ic_0 ?_
  refine fp_5_0 C 0 rfl (Nat.le_of_ble_eq_true rfl) k_3_9 h rfl dX5_hour_2 ?_
  intro σ1 h
  refine x_aload_n C dX5_hour_5 rfl 0 rfl ?_
  obtain ⟨σ2, hv, h⟩ := e_bind h
  refine x_callV_v C (ci := 5) 0 [] (tX5_note hJ hv) k_3_177 k_3_179 k_p_28 k_1_6 k_3_180 hyX5_note ⟨rfl, rfl⟩ (by decide) rfl rfl rfl rfl (Nat.le_of_ble_eq_true rfl) dX5_hour_6 ?_
  refine x_aload_n C dX5_hour_9 rfl 0 rfl ?_
  refine fg_5_11 C 0 rfl rfl k_3_20 dX5_hour_10 ?_
  refine x_iconst (v := 1) C dX5_hour_13 ic_1 ?_
  refine x_aload_n C dX5_hour_14 rfl 0 rfl ?_
  refine fg_5_11 C 0 rfl rfl k_3_20 dX5_hour_15 ?_
  refine x_iconst (v := 1) C dX5_hour_18 ic_1 ?_
  refine x_iald_c C 4 0 1 rfl rfl dX5_hour_19 (by decide) (by decide) ?_
  refine x_iconst (v := 1) C dX5_hour_20 ic_1 ?_
  refine x_iadd C dX5_hour_21 ?_
  refine x_bipush (v := 10) C dX5_hour_22 bi_10 ?_
  refine x_irem_c C dX5_hour_24 (by decide) ?_
  refine x_iast_c C 4 0 1 rfl rfl dX5_hour_25 (by decide) (by decide) h rfl ?_
  intro σ3 h
  refine x_aload_n C dX5_hour_26 rfl 0 rfl ?_
  refine fg_5_11 C 0 rfl rfl k_3_20 dX5_hour_27 ?_
  refine x_iconst (v := 1) C dX5_hour_30 ic_1 ?_
  refine x_iald_c C 4 0 1 rfl rfl dX5_hour_31 (by decide) (by decide) ?_
  exact xr_wi C h dX5_hour_32
set_option maxRecDepth 100000 in
set_option maxHeartbeats 4000000 in
theorem tX5_hour {l : Launch} {dC : Nat → ClassId} {dI : Nat → Nat → Nat} {cI cZ : ClassId} {ad : Nat → Nat} (hJ : eInj 16 ad) {σ : eSt} {z : Int64} {r : Int32 × eSt} (h : fX5_hour σ = some r) : Con l yX5_hour cX5_hour 1 (some .int) rmX5_hour (dC, dI) (yW cI cZ ad) (yA ad) [(cI, .int), (cZ, .boolean)] ExY [.ref (ad 0)] σ z (some (.int r.1)) r.2 z :=
  x_con (by decide) (yW_D hJ) (ExY_ok ad) (Nat.le_of_ble_eq_true rfl) (fun p e s m args below meth c C => wX5_hour_0 hJ C h)
set_option maxRecDepth 100000 in
set_option maxHeartbeats 4000000 in
theorem wX5_undo_27 (hJ : eInj 16 ad) (C : Cx p s m args meth c (dC, dI) (yW cI cZ ad) (yA ad) ExY [(cI, .int), (cZ, .boolean)] cX5_undo 2 RX5 (some .int) yX5_undo) {z : Int64} {r : Int32 × eSt} : ∀ (n : Nat) (a1 : Int32) (σ : eSt), lo_2 (bX5_undo_27) n a1 σ = some r → WX p l e rmX5_undo s m args below meth c (MQ below (cQ (dC, dI) (yW cI cZ ad) (yA ad) (some (.int r.1)) r.2 z) args s 0 0 (yA ad)) (dC, dI) (yW cI cZ ad) (yA ad) 2 σ z [(0, .ref (ad 0)), (1, .int a1)] 27 [] := by
  refine lo_2_ind (P := fun a1 σ => WX p l e rmX5_undo s m args below meth c (MQ below (cQ (dC, dI) (yW cI cZ ad) (yA ad) (some (.int r.1)) r.2 z) args s 0 0 (yA ad)) (dC, dI) (yW cI cZ ad) (yA ad) 2 σ z [(0, .ref (ad 0)), (1, .int a1)] 27 []) ?_
  intro k27 hk27 a1 σ h
  unfold bX5_undo_27 at h
  refine x_iload_n C dX5_undo_27 rfl 1 rfl ?_
  refine x_bipush (v := 8) C dX5_undo_28 bi_8 ?_
  refine x_icmp_ge (tgt := 59) C dX5_undo_30 (by decide) h ?_ ?_
  · intro h
    refine x_aload_n C dX5_undo_59 rfl 0 rfl ?_
    refine fg_5_14 C 0 rfl rfl k_3_23 dX5_undo_60 ?_
    exact xr_wi C h dX5_undo_63
  · intro h
    refine x_aload_n C dX5_undo_33 rfl 0 rfl ?_
    refine fg_5_11 C 0 rfl rfl k_3_20 dX5_undo_34 ?_
    refine x_iload_n C dX5_undo_37 rfl 1 rfl ?_
    refine x_aload_n C dX5_undo_38 rfl 0 rfl ?_
    refine fg_5_13 C 0 rfl rfl k_3_22 dX5_undo_39 ?_
    refine x_bipush (v := 8) C dX5_undo_42 bi_8 ?_
    refine x_aload_n C dX5_undo_44 rfl 0 rfl ?_
    refine fg_5_14 C 0 rfl rfl k_3_23 dX5_undo_45 ?_
    refine x_imul C dX5_undo_48 ?_
    refine x_iload_n C dX5_undo_49 rfl 1 rfl ?_
    refine x_iadd C dX5_undo_50 ?_
    refine x_iald C 6 0 rfl rfl dX5_undo_51 h ?_
    intro h
    refine x_iast C 4 0 rfl rfl dX5_undo_52 h rfl ?_
    intro σ1 h
    refine x_iinc_b (j := 1) (w := 1) C (fun v2 => [(1, .int v2), (0, .ref (ad 0))]) dX5_undo_53 ic_1 rfl (by decide) h (fun _ => rfl) ?_
    intro v2 h
    refine x_goto (tgt := 27) C dX5_undo_56 (by decide) ?_
    refine x_sub (lv' := [(0, .ref (ad 0)), (1, .int v2)]) [1, 0] rfl ?_
    exact hk27 _ _ h
set_option maxRecDepth 100000 in
set_option maxHeartbeats 4000000 in
theorem wX5_undo_0 (hJ : eInj 16 ad) (C : Cx p s m args meth c (dC, dI) (yW cI cZ ad) (yA ad) ExY [(cI, .int), (cZ, .boolean)] cX5_undo 2 RX5 (some .int) yX5_undo) {σ : eSt} {z : Int64} {r : Int32 × eSt} (h : fX5_undo σ = some r) : WX p l e rmX5_undo s m args below meth c (MQ below (cQ (dC, dI) (yW cI cZ ad) (yA ad) (some (.int r.1)) r.2 z) args s 0 0 (yA ad)) (dC, dI) (yW cI cZ ad) (yA ad) 2 σ z [(0, .ref (ad 0))] 0 [] := by
  unfold fX5_undo at h
  refine x_aload_n C dX5_undo_0 rfl 0 rfl ?_
  refine x_iconst (v := 0) C dX5_undo_1 ic_0 ?_
  refine fp_5_0 C 0 rfl (Nat.le_of_ble_eq_true rfl) k_3_9 h rfl dX5_undo_2 ?_
  intro σ1 h
  refine x_aload_n C dX5_undo_5 rfl 0 rfl ?_
  refine fg_5_14 C 0 rfl rfl k_3_23 dX5_undo_6 ?_
  refine x_if_ne (tgt := 15) C dX5_undo_9 (by decide) h ?_ ?_
  · intro h
    refine x_aload_n C dX5_undo_15 rfl 0 rfl ?_
    refine x_dup C dX5_undo_16 rfl ?_
    refine fg_5_14 C 0 rfl rfl k_3_23 dX5_undo_17 ?_
    refine x_iconst (v := 1) C dX5_undo_20 ic_1 ?_
    refine x_isub C dX5_undo_21 ?_
    refine fp_5_14 C 0 rfl (Nat.le_of_ble_eq_true rfl) k_3_23 h rfl dX5_undo_22 ?_
    intro σ2 h
    refine x_iconst (v := 0) C dX5_undo_25 ic_0 ?_
    refine x_istore_n (lv' := [(1, .int 0), (0, .ref (ad 0))]) C dX5_undo_26 rfl (by decide) rfl ?_
    refine x_sub (lv' := [(0, .ref (ad 0)), (1, .int 0)]) [1, 0] rfl ?_
    exact wX5_undo_27 hJ C _ _ _ h
  · intro h
    refine x_bipush (v := (-3)) C dX5_undo_12 bi_m3 ?_
    exact xr_wi C h dX5_undo_14
set_option maxRecDepth 100000 in
set_option maxHeartbeats 4000000 in
theorem tX5_undo {l : Launch} {dC : Nat → ClassId} {dI : Nat → Nat → Nat} {cI cZ : ClassId} {ad : Nat → Nat} (hJ : eInj 16 ad) {σ : eSt} {z : Int64} {r : Int32 × eSt} (h : fX5_undo σ = some r) : Con l yX5_undo cX5_undo 2 (some .int) rmX5_undo (dC, dI) (yW cI cZ ad) (yA ad) [(cI, .int), (cZ, .boolean)] ExY [.ref (ad 0)] σ z (some (.int r.1)) r.2 z :=
  x_con (by decide) (yW_D hJ) (ExY_ok ad) (Nat.le_of_ble_eq_true rfl) (fun p e s m args below meth c C => wX5_undo_0 hJ C h)
set_option maxRecDepth 100000 in
set_option maxHeartbeats 4000000 in
theorem wX5_heard_0 (hJ : eInj 16 ad) (C : Cx p s m args meth c (dC, dI) (yW cI cZ ad) (yA ad) ExY [(cI, .int), (cZ, .boolean)] cX5_heard 3 RX5 (some .int) yX5_heard) {σ : eSt} {a1 : Int32} {a2 : Int32} {z : Int64} {r : Int32 × eSt} (h : fX5_heard σ a1 a2 = some r) : WX p l e rmX5_heard s m args below meth c (MQ below (cQ (dC, dI) (yW cI cZ ad) (yA ad) (some (.int r.1)) r.2 z) args s 0 0 (yA ad)) (dC, dI) (yW cI cZ ad) (yA ad) 3 σ z [(0, .ref (ad 0)), (1, .int a1), (2, .int a2)] 0 [] := by
  unfold fX5_heard at h
  refine x_aload_n C dX5_heard_0 rfl 0 rfl ?_
  refine x_iconst (v := 0) C dX5_heard_1 ic_0 ?_
  refine fp_5_0 C 0 rfl (Nat.le_of_ble_eq_true rfl) k_3_9 h rfl dX5_heard_2 ?_
  intro σ1 h
  refine x_iload_n C dX5_heard_5 rfl 1 rfl ?_
  obtain ⟨v2, hv, h⟩ := e_bind h
  refine x_callS_i C [.int a1] (tX5_noCell hJ hv) k_3_173 k_3_174 k_1_6 k_3_175 hyX5_noCell.2 ⟨rfl, rfl⟩ (by decide) rfl rfl (Nat.le_of_ble_eq_true rfl) dX5_heard_6 ?_
  refine x_if_ne (tgt := 19) C dX5_heard_9 (by decide) h ?_ ?_
  · intro h
    refine x_bipush (v := (-2)) C dX5_heard_19 bi_m2 ?_
    refine x_goto (tgt := 34) C dX5_heard_21 (by decide) ?_
    exact xr_wi C h dX5_heard_34
  · intro h
    refine x_iload_n C dX5_heard_12 rfl 2 rfl ?_
    obtain ⟨v3, hv, h⟩ := e_bind h
    refine x_callS_i C [.int a2] (tX5_noHour hJ hv) k_3_209 k_3_210 k_1_6 k_3_211 hyX5_noHour.2 ⟨rfl, rfl⟩ (by decide) rfl rfl (Nat.le_of_ble_eq_true rfl) dX5_heard_13 ?_
    refine x_if_eq (tgt := 24) C dX5_heard_16 (by decide) h ?_ ?_
    · intro h
      refine x_aload_n C dX5_heard_24 rfl 0 rfl ?_
      refine x_aload_n C dX5_heard_25 rfl 0 rfl ?_
      refine fg_5_11 C 0 rfl rfl k_3_20 dX5_heard_26 ?_
      refine x_iload_n C dX5_heard_29 rfl 1 rfl ?_
      refine x_iload_n C dX5_heard_30 rfl 2 rfl ?_
      obtain ⟨v4, hv, h⟩ := e_bind h
      refine x_callV_i C (ci := 5) 0 [.ref (ad 4), .int a1, .int a2] (tX5_heardAt hJ (Or.inl rfl) hv) k_3_181 k_3_183 k_p_29 k_1_6 k_3_184 hyX5_heardAt ⟨rfl, rfl⟩ (by decide) rfl rfl rfl rfl (Nat.le_of_ble_eq_true rfl) dX5_heard_31 ?_
      exact xr_wi C h dX5_heard_34
    · intro h
      refine x_bipush (v := (-2)) C dX5_heard_19 bi_m2 ?_
      refine x_goto (tgt := 34) C dX5_heard_21 (by decide) ?_
      exact xr_wi C h dX5_heard_34
set_option maxRecDepth 100000 in
set_option maxHeartbeats 4000000 in
theorem tX5_heard {l : Launch} {dC : Nat → ClassId} {dI : Nat → Nat → Nat} {cI cZ : ClassId} {ad : Nat → Nat} (hJ : eInj 16 ad) {σ : eSt} {a1 : Int32} {a2 : Int32} {z : Int64} {r : Int32 × eSt} (h : fX5_heard σ a1 a2 = some r) : Con l yX5_heard cX5_heard 3 (some .int) rmX5_heard (dC, dI) (yW cI cZ ad) (yA ad) [(cI, .int), (cZ, .boolean)] ExY [.ref (ad 0), .int a1, .int a2] σ z (some (.int r.1)) r.2 z :=
  x_con (by decide) (yW_D hJ) (ExY_ok ad) (Nat.le_of_ble_eq_true rfl) (fun p e s m args below meth c C => wX5_heard_0 hJ C h)
set_option maxRecDepth 100000 in
set_option maxHeartbeats 4000000 in
theorem wX5_sure_0 (hJ : eInj 16 ad) (C : Cx p s m args meth c (dC, dI) (yW cI cZ ad) (yA ad) ExY [(cI, .int), (cZ, .boolean)] cX5_sure 2 RX5 (some .int) yX5_sure) {σ : eSt} {a1 : Int32} {z : Int64} {r : Int32 × eSt} (h : fX5_sure σ a1 = some r) : WX p l e rmX5_sure s m args below meth c (MQ below (cQ (dC, dI) (yW cI cZ ad) (yA ad) (some (.int r.1)) r.2 z) args s 0 0 (yA ad)) (dC, dI) (yW cI cZ ad) (yA ad) 2 σ z [(0, .ref (ad 0)), (1, .int a1)] 0 [] := by
  unfold fX5_sure at h
  refine x_aload_n C dX5_sure_0 rfl 0 rfl ?_
  refine x_iconst (v := 0) C dX5_sure_1 ic_0 ?_
  refine fp_5_0 C 0 rfl (Nat.le_of_ble_eq_true rfl) k_3_9 h rfl dX5_sure_2 ?_
  intro σ1 h
  refine x_iload_n C dX5_sure_5 rfl 1 rfl ?_
  obtain ⟨v2, hv, h⟩ := e_bind h
  refine x_callS_i C [.int a1] (tX5_noHour hJ hv) k_3_209 k_3_210 k_1_6 k_3_211 hyX5_noHour.2 ⟨rfl, rfl⟩ (by decide) rfl rfl (Nat.le_of_ble_eq_true rfl) dX5_sure_6 ?_
  refine x_if_eq (tgt := 17) C dX5_sure_9 (by decide) h ?_ ?_
  · intro h
    refine x_aload_n C dX5_sure_17 rfl 0 rfl ?_
    refine x_aload_n C dX5_sure_18 rfl 0 rfl ?_
    refine fg_5_11 C 0 rfl rfl k_3_20 dX5_sure_19 ?_
    refine x_iload_n C dX5_sure_22 rfl 1 rfl ?_
    obtain ⟨w3, hv, h⟩ := e_bind h
    refine x_callV_i C (ci := 5) 0 [.ref (ad 4), .int a1] (tX5_sureAt hJ (Or.inl rfl) hv) k_3_216 k_3_218 k_p_30 k_1_6 k_3_219 hyX5_sureAt ⟨rfl, rfl⟩ (by decide) rfl rfl rfl rfl (Nat.le_of_ble_eq_true rfl) dX5_sure_23 ?_
    exact xr_wi C h dX5_sure_26
  · intro h
    refine x_bipush (v := (-2)) C dX5_sure_12 bi_m2 ?_
    refine x_goto (tgt := 26) C dX5_sure_14 (by decide) ?_
    exact xr_wi C h dX5_sure_26
set_option maxRecDepth 100000 in
set_option maxHeartbeats 4000000 in
theorem tX5_sure {l : Launch} {dC : Nat → ClassId} {dI : Nat → Nat → Nat} {cI cZ : ClassId} {ad : Nat → Nat} (hJ : eInj 16 ad) {σ : eSt} {a1 : Int32} {z : Int64} {r : Int32 × eSt} (h : fX5_sure σ a1 = some r) : Con l yX5_sure cX5_sure 2 (some .int) rmX5_sure (dC, dI) (yW cI cZ ad) (yA ad) [(cI, .int), (cZ, .boolean)] ExY [.ref (ad 0), .int a1] σ z (some (.int r.1)) r.2 z :=
  x_con (by decide) (yW_D hJ) (ExY_ok ad) (Nat.le_of_ble_eq_true rfl) (fun p e s m args below meth c C => wX5_sure_0 hJ C h)
set_option maxRecDepth 100000 in
set_option maxHeartbeats 4000000 in
theorem wX5_where_63 (hJ : eInj 16 ad) (C : Cx p s m args meth c (dC, dI) (yW cI cZ ad) (yA ad) ExY [(cI, .int), (cZ, .boolean)] cX5_where 5 RX5 (some .int) yX5_where) {σ : eSt} {a1 : Int32} {a2 : Int32} {a4 : Int32} {s0 : Int32} {s1 : Int32} {z : Int64} {r : Int32 × eSt} {k32 : Int32 → Int32 → Option (Int32 × eSt)} (hk32 : ∀ (a3 : Int32) (a4 : Int32), k32 a3 a4 = some r → WX p l e rmX5_where s m args below meth c (MQ below (cQ (dC, dI) (yW cI cZ ad) (yA ad) (some (.int r.1)) r.2 z) args s 0 0 (yA ad)) (dC, dI) (yW cI cZ ad) (yA ad) 5 σ z [(0, .ref (ad 0)), (1, .int a1), (2, .int a2), (3, .int a3), (4, .int a4)] 32 []) (h : fX5_where_63 k32 σ a1 a2 a4 s0 s1 = some r) : WX p l e rmX5_where s m args below meth c (MQ below (cQ (dC, dI) (yW cI cZ ad) (yA ad) (some (.int r.1)) r.2 z) args s 0 0 (yA ad)) (dC, dI) (yW cI cZ ad) (yA ad) 5 σ z [(0, .ref (ad 0)), (1, .int a1), (2, .int a2), (4, .int a4)] 63 [.int s0, .int s1] := by
  unfold fX5_where_63 at h
  refine x_ior C dX5_where_63 ?_
  refine x_istore_n_b C (fun v1 => [(3, .int v1), (0, .ref (ad 0)), (1, .int a1), (2, .int a2), (4, .int a4)]) dX5_where_64 rfl (by decide) h (fun _ => rfl) ?_
  intro v1 h
  refine x_iinc_b (j := 4) (w := 1) C (fun v2 => [(4, .int v2), (3, .int v1), (0, .ref (ad 0)), (1, .int a1), (2, .int a2)]) dX5_where_65 ic_1 rfl (by decide) h (fun _ => rfl) ?_
  intro v2 h
  refine x_goto (tgt := 32) C dX5_where_68 (by decide) ?_
  refine x_sub (lv' := [(0, .ref (ad 0)), (1, .int a1), (2, .int a2), (3, .int v1), (4, .int v2)]) [2, 3, 4, 1, 0] rfl ?_
  exact hk32 _ _ h
set_option maxRecDepth 100000 in
set_option maxHeartbeats 4000000 in
theorem wX5_where_32 (hJ : eInj 16 ad) (C : Cx p s m args meth c (dC, dI) (yW cI cZ ad) (yA ad) ExY [(cI, .int), (cZ, .boolean)] cX5_where 5 RX5 (some .int) yX5_where) {σ : eSt} {a1 : Int32} {a2 : Int32} {z : Int64} {r : Int32 × eSt} : ∀ (n : Nat) (a3 : Int32) (a4 : Int32), lo_2 (bX5_where_32 σ a1 a2) n a3 a4 = some r → WX p l e rmX5_where s m args below meth c (MQ below (cQ (dC, dI) (yW cI cZ ad) (yA ad) (some (.int r.1)) r.2 z) args s 0 0 (yA ad)) (dC, dI) (yW cI cZ ad) (yA ad) 5 σ z [(0, .ref (ad 0)), (1, .int a1), (2, .int a2), (3, .int a3), (4, .int a4)] 32 [] := by
  refine lo_2_ind (P := fun a3 a4 => WX p l e rmX5_where s m args below meth c (MQ below (cQ (dC, dI) (yW cI cZ ad) (yA ad) (some (.int r.1)) r.2 z) args s 0 0 (yA ad)) (dC, dI) (yW cI cZ ad) (yA ad) 5 σ z [(0, .ref (ad 0)), (1, .int a1), (2, .int a2), (3, .int a3), (4, .int a4)] 32 []) ?_
  intro k32 hk32 a3 a4 h
  unfold bX5_where_32 at h
  refine x_iload C dX5_where_32 4 rfl ?_
  refine x_bipush (v := 10) C dX5_where_34 bi_10 ?_
  refine x_icmp_ge (tgt := 71) C dX5_where_36 (by decide) h ?_ ?_
  · intro h
    refine x_iload_n C dX5_where_71 rfl 3 rfl ?_
    exact xr_wi C h dX5_where_72
  · intro h
    refine x_iload_n C dX5_where_39 rfl 3 rfl ?_
    refine x_aload_n C dX5_where_40 rfl 0 rfl ?_
    refine x_aload_n C dX5_where_41 rfl 0 rfl ?_
    refine fg_5_11 C 0 rfl rfl k_3_20 dX5_where_42 ?_
    refine x_iload C dX5_where_45 4 rfl ?_
    refine x_iload_n C dX5_where_47 rfl 2 rfl ?_
    obtain ⟨v1, hv, h⟩ := e_bind h
    refine x_callV_i C (ci := 5) 0 [.ref (ad 4), .int a4, .int a2] (tX5_heardAt hJ (Or.inl rfl) hv) k_3_181 k_3_183 k_p_29 k_1_6 k_3_184 hyX5_heardAt ⟨rfl, rfl⟩ (by decide) rfl rfl rfl rfl (Nat.le_of_ble_eq_true rfl) dX5_where_48 ?_
    refine x_iload_n C dX5_where_51 rfl 1 rfl ?_
    refine x_icmp_ne (tgt := 62) C dX5_where_52 (by decide) h ?_ ?_
    · intro h
      refine x_iconst (v := 0) C dX5_where_62 ic_0 ?_
      refine x_sub (lv' := [(0, .ref (ad 0)), (1, .int a1), (2, .int a2), (4, .int a4)]) [0, 1, 2, 4] rfl ?_
      exact wX5_where_63 hJ C hk32 h
    · intro h
      refine x_iconst (v := 1) C dX5_where_55 ic_1 ?_
      refine x_iload C dX5_where_56 4 rfl ?_
      refine x_ishl C dX5_where_58 ?_
      refine x_goto (tgt := 63) C dX5_where_59 (by decide) ?_
      refine x_sub (lv' := [(0, .ref (ad 0)), (1, .int a1), (2, .int a2), (4, .int a4)]) [0, 1, 2, 4] rfl ?_
      exact wX5_where_63 hJ C hk32 h
set_option maxRecDepth 100000 in
set_option maxHeartbeats 4000000 in
theorem wX5_where_0 (hJ : eInj 16 ad) (C : Cx p s m args meth c (dC, dI) (yW cI cZ ad) (yA ad) ExY [(cI, .int), (cZ, .boolean)] cX5_where 5 RX5 (some .int) yX5_where) {σ : eSt} {a1 : Int32} {a2 : Int32} {z : Int64} {r : Int32 × eSt} (h : fX5_where σ a1 a2 = some r) : WX p l e rmX5_where s m args below meth c (MQ below (cQ (dC, dI) (yW cI cZ ad) (yA ad) (some (.int r.1)) r.2 z) args s 0 0 (yA ad)) (dC, dI) (yW cI cZ ad) (yA ad) 5 σ z [(0, .ref (ad 0)), (1, .int a1), (2, .int a2)] 0 [] := by
  unfold fX5_where at h
  refine x_aload_n C dX5_where_0 rfl 0 rfl ?_
  refine x_iconst (v := 0) C dX5_where_1 ic_0 ?_
  refine fp_5_0 C 0 rfl (Nat.le_of_ble_eq_true rfl) k_3_9 h rfl dX5_where_2 ?_
  intro σ1 h
  refine x_iload_n C dX5_where_5 rfl 1 rfl ?_
  refine x_i2l C dX5_where_6 ?_
  refine x_lconst (v := 0) C dX5_where_7 rfl ?_
  refine x_ldc2 (v := 255) C dX5_where_8 k_3_110 ?_
  obtain ⟨v2, hv, h⟩ := e_bind h
  refine x_callS_i C [.long (a1.toInt64), .long 0, .long 255] (tX5_in hJ hv) k_3_111 k_3_112 k_1_6 k_3_113 hyX5_in.2 ⟨rfl, rfl⟩ (by decide) rfl rfl (Nat.le_of_ble_eq_true rfl) dX5_where_11 ?_
  refine x_if_eq (tgt := 24) C dX5_where_14 (by decide) h ?_ ?_
  · intro h
    refine x_bipush (v := (-2)) C dX5_where_24 bi_m2 ?_
    exact xr_wi C h dX5_where_26
  · intro h
    refine x_iload_n C dX5_where_17 rfl 2 rfl ?_
    obtain ⟨v3, hv, h⟩ := e_bind h
    refine x_callS_i C [.int a2] (tX5_noHour hJ hv) k_3_209 k_3_210 k_1_6 k_3_211 hyX5_noHour.2 ⟨rfl, rfl⟩ (by decide) rfl rfl (Nat.le_of_ble_eq_true rfl) dX5_where_18 ?_
    refine x_if_eq (tgt := 27) C dX5_where_21 (by decide) h ?_ ?_
    · intro h
      refine x_iconst (v := 0) C dX5_where_27 ic_0 ?_
      refine x_istore_n (lv' := [(3, .int 0), (0, .ref (ad 0)), (1, .int a1), (2, .int a2)]) C dX5_where_28 rfl (by decide) rfl ?_
      refine x_iconst (v := 0) C dX5_where_29 ic_0 ?_
      refine x_istore (lv' := [(4, .int 0), (3, .int 0), (0, .ref (ad 0)), (1, .int a1), (2, .int a2)]) C dX5_where_30 (by decide) rfl ?_
      refine x_sub (lv' := [(0, .ref (ad 0)), (1, .int a1), (2, .int a2), (3, .int 0), (4, .int 0)]) [2, 3, 4, 1, 0] rfl ?_
      exact wX5_where_32 hJ C _ _ _ h
    · intro h
      refine x_bipush (v := (-2)) C dX5_where_24 bi_m2 ?_
      exact xr_wi C h dX5_where_26
set_option maxRecDepth 100000 in
set_option maxHeartbeats 4000000 in
theorem tX5_where {l : Launch} {dC : Nat → ClassId} {dI : Nat → Nat → Nat} {cI cZ : ClassId} {ad : Nat → Nat} (hJ : eInj 16 ad) {σ : eSt} {a1 : Int32} {a2 : Int32} {z : Int64} {r : Int32 × eSt} (h : fX5_where σ a1 a2 = some r) : Con l yX5_where cX5_where 5 (some .int) rmX5_where (dC, dI) (yW cI cZ ad) (yA ad) [(cI, .int), (cZ, .boolean)] ExY [.ref (ad 0), .int a1, .int a2] σ z (some (.int r.1)) r.2 z :=
  x_con (by decide) (yW_D hJ) (ExY_ok ad) (Nat.le_of_ble_eq_true rfl) (fun p e s m args below meth c C => wX5_where_0 hJ C h)
set_option maxRecDepth 100000 in
set_option maxHeartbeats 4000000 in
theorem wX5_when_63 (hJ : eInj 16 ad) (C : Cx p s m args meth c (dC, dI) (yW cI cZ ad) (yA ad) ExY [(cI, .int), (cZ, .boolean)] cX5_when 5 RX5 (some .int) yX5_when) {σ : eSt} {a1 : Int32} {a2 : Int32} {a4 : Int32} {s0 : Int32} {s1 : Int32} {z : Int64} {r : Int32 × eSt} {k32 : Int32 → Int32 → Option (Int32 × eSt)} (hk32 : ∀ (a3 : Int32) (a4 : Int32), k32 a3 a4 = some r → WX p l e rmX5_when s m args below meth c (MQ below (cQ (dC, dI) (yW cI cZ ad) (yA ad) (some (.int r.1)) r.2 z) args s 0 0 (yA ad)) (dC, dI) (yW cI cZ ad) (yA ad) 5 σ z [(0, .ref (ad 0)), (1, .int a1), (2, .int a2), (3, .int a3), (4, .int a4)] 32 []) (h : fX5_when_63 k32 σ a1 a2 a4 s0 s1 = some r) : WX p l e rmX5_when s m args below meth c (MQ below (cQ (dC, dI) (yW cI cZ ad) (yA ad) (some (.int r.1)) r.2 z) args s 0 0 (yA ad)) (dC, dI) (yW cI cZ ad) (yA ad) 5 σ z [(0, .ref (ad 0)), (1, .int a1), (2, .int a2), (4, .int a4)] 63 [.int s0, .int s1] := by
  unfold fX5_when_63 at h
  refine x_ior C dX5_when_63 ?_
  refine x_istore_n_b C (fun v1 => [(3, .int v1), (0, .ref (ad 0)), (1, .int a1), (2, .int a2), (4, .int a4)]) dX5_when_64 rfl (by decide) h (fun _ => rfl) ?_
  intro v1 h
  refine x_iinc_b (j := 4) (w := 1) C (fun v2 => [(4, .int v2), (3, .int v1), (0, .ref (ad 0)), (1, .int a1), (2, .int a2)]) dX5_when_65 ic_1 rfl (by decide) h (fun _ => rfl) ?_
  intro v2 h
  refine x_goto (tgt := 32) C dX5_when_68 (by decide) ?_
  refine x_sub (lv' := [(0, .ref (ad 0)), (1, .int a1), (2, .int a2), (3, .int v1), (4, .int v2)]) [2, 3, 4, 1, 0] rfl ?_
  exact hk32 _ _ h
set_option maxRecDepth 100000 in
set_option maxHeartbeats 4000000 in
theorem wX5_when_32 (hJ : eInj 16 ad) (C : Cx p s m args meth c (dC, dI) (yW cI cZ ad) (yA ad) ExY [(cI, .int), (cZ, .boolean)] cX5_when 5 RX5 (some .int) yX5_when) {σ : eSt} {a1 : Int32} {a2 : Int32} {z : Int64} {r : Int32 × eSt} : ∀ (n : Nat) (a3 : Int32) (a4 : Int32), lo_2 (bX5_when_32 σ a1 a2) n a3 a4 = some r → WX p l e rmX5_when s m args below meth c (MQ below (cQ (dC, dI) (yW cI cZ ad) (yA ad) (some (.int r.1)) r.2 z) args s 0 0 (yA ad)) (dC, dI) (yW cI cZ ad) (yA ad) 5 σ z [(0, .ref (ad 0)), (1, .int a1), (2, .int a2), (3, .int a3), (4, .int a4)] 32 [] := by
  refine lo_2_ind (P := fun a3 a4 => WX p l e rmX5_when s m args below meth c (MQ below (cQ (dC, dI) (yW cI cZ ad) (yA ad) (some (.int r.1)) r.2 z) args s 0 0 (yA ad)) (dC, dI) (yW cI cZ ad) (yA ad) 5 σ z [(0, .ref (ad 0)), (1, .int a1), (2, .int a2), (3, .int a3), (4, .int a4)] 32 []) ?_
  intro k32 hk32 a3 a4 h
  unfold bX5_when_32 at h
  refine x_iload C dX5_when_32 4 rfl ?_
  refine x_bipush (v := 10) C dX5_when_34 bi_10 ?_
  refine x_icmp_ge (tgt := 71) C dX5_when_36 (by decide) h ?_ ?_
  · intro h
    refine x_iload_n C dX5_when_71 rfl 3 rfl ?_
    exact xr_wi C h dX5_when_72
  · intro h
    refine x_iload_n C dX5_when_39 rfl 3 rfl ?_
    refine x_aload_n C dX5_when_40 rfl 0 rfl ?_
    refine x_aload_n C dX5_when_41 rfl 0 rfl ?_
    refine fg_5_11 C 0 rfl rfl k_3_20 dX5_when_42 ?_
    refine x_iload_n C dX5_when_45 rfl 2 rfl ?_
    refine x_iload C dX5_when_46 4 rfl ?_
    obtain ⟨v1, hv, h⟩ := e_bind h
    refine x_callV_i C (ci := 5) 0 [.ref (ad 4), .int a2, .int a4] (tX5_heardAt hJ (Or.inl rfl) hv) k_3_181 k_3_183 k_p_29 k_1_6 k_3_184 hyX5_heardAt ⟨rfl, rfl⟩ (by decide) rfl rfl rfl rfl (Nat.le_of_ble_eq_true rfl) dX5_when_48 ?_
    refine x_iload_n C dX5_when_51 rfl 1 rfl ?_
    refine x_icmp_ne (tgt := 62) C dX5_when_52 (by decide) h ?_ ?_
    · intro h
      refine x_iconst (v := 0) C dX5_when_62 ic_0 ?_
      refine x_sub (lv' := [(0, .ref (ad 0)), (1, .int a1), (2, .int a2), (4, .int a4)]) [0, 1, 2, 4] rfl ?_
      exact wX5_when_63 hJ C hk32 h
    · intro h
      refine x_iconst (v := 1) C dX5_when_55 ic_1 ?_
      refine x_iload C dX5_when_56 4 rfl ?_
      refine x_ishl C dX5_when_58 ?_
      refine x_goto (tgt := 63) C dX5_when_59 (by decide) ?_
      refine x_sub (lv' := [(0, .ref (ad 0)), (1, .int a1), (2, .int a2), (4, .int a4)]) [0, 1, 2, 4] rfl ?_
      exact wX5_when_63 hJ C hk32 h
set_option maxRecDepth 100000 in
set_option maxHeartbeats 4000000 in
theorem wX5_when_0 (hJ : eInj 16 ad) (C : Cx p s m args meth c (dC, dI) (yW cI cZ ad) (yA ad) ExY [(cI, .int), (cZ, .boolean)] cX5_when 5 RX5 (some .int) yX5_when) {σ : eSt} {a1 : Int32} {a2 : Int32} {z : Int64} {r : Int32 × eSt} (h : fX5_when σ a1 a2 = some r) : WX p l e rmX5_when s m args below meth c (MQ below (cQ (dC, dI) (yW cI cZ ad) (yA ad) (some (.int r.1)) r.2 z) args s 0 0 (yA ad)) (dC, dI) (yW cI cZ ad) (yA ad) 5 σ z [(0, .ref (ad 0)), (1, .int a1), (2, .int a2)] 0 [] := by
  unfold fX5_when at h
  refine x_aload_n C dX5_when_0 rfl 0 rfl ?_
  refine x_iconst (v := 0) C dX5_when_1 ic_0 ?_
  refine fp_5_0 C 0 rfl (Nat.le_of_ble_eq_true rfl) k_3_9 h rfl dX5_when_2 ?_
  intro σ1 h
  refine x_iload_n C dX5_when_5 rfl 1 rfl ?_
  refine x_i2l C dX5_when_6 ?_
  refine x_lconst (v := 0) C dX5_when_7 rfl ?_
  refine x_ldc2 (v := 255) C dX5_when_8 k_3_110 ?_
  obtain ⟨v2, hv, h⟩ := e_bind h
  refine x_callS_i C [.long (a1.toInt64), .long 0, .long 255] (tX5_in hJ hv) k_3_111 k_3_112 k_1_6 k_3_113 hyX5_in.2 ⟨rfl, rfl⟩ (by decide) rfl rfl (Nat.le_of_ble_eq_true rfl) dX5_when_11 ?_
  refine x_if_eq (tgt := 24) C dX5_when_14 (by decide) h ?_ ?_
  · intro h
    refine x_bipush (v := (-2)) C dX5_when_24 bi_m2 ?_
    exact xr_wi C h dX5_when_26
  · intro h
    refine x_iload_n C dX5_when_17 rfl 2 rfl ?_
    obtain ⟨v3, hv, h⟩ := e_bind h
    refine x_callS_i C [.int a2] (tX5_noCell hJ hv) k_3_173 k_3_174 k_1_6 k_3_175 hyX5_noCell.2 ⟨rfl, rfl⟩ (by decide) rfl rfl (Nat.le_of_ble_eq_true rfl) dX5_when_18 ?_
    refine x_if_eq (tgt := 27) C dX5_when_21 (by decide) h ?_ ?_
    · intro h
      refine x_iconst (v := 0) C dX5_when_27 ic_0 ?_
      refine x_istore_n (lv' := [(3, .int 0), (0, .ref (ad 0)), (1, .int a1), (2, .int a2)]) C dX5_when_28 rfl (by decide) rfl ?_
      refine x_iconst (v := 0) C dX5_when_29 ic_0 ?_
      refine x_istore (lv' := [(4, .int 0), (3, .int 0), (0, .ref (ad 0)), (1, .int a1), (2, .int a2)]) C dX5_when_30 (by decide) rfl ?_
      refine x_sub (lv' := [(0, .ref (ad 0)), (1, .int a1), (2, .int a2), (3, .int 0), (4, .int 0)]) [2, 3, 4, 1, 0] rfl ?_
      exact wX5_when_32 hJ C _ _ _ h
    · intro h
      refine x_bipush (v := (-2)) C dX5_when_24 bi_m2 ?_
      exact xr_wi C h dX5_when_26
set_option maxRecDepth 100000 in
set_option maxHeartbeats 4000000 in
theorem tX5_when {l : Launch} {dC : Nat → ClassId} {dI : Nat → Nat → Nat} {cI cZ : ClassId} {ad : Nat → Nat} (hJ : eInj 16 ad) {σ : eSt} {a1 : Int32} {a2 : Int32} {z : Int64} {r : Int32 × eSt} (h : fX5_when σ a1 a2 = some r) : Con l yX5_when cX5_when 5 (some .int) rmX5_when (dC, dI) (yW cI cZ ad) (yA ad) [(cI, .int), (cZ, .boolean)] ExY [.ref (ad 0), .int a1, .int a2] σ z (some (.int r.1)) r.2 z :=
  x_con (by decide) (yW_D hJ) (ExY_ok ad) (Nat.le_of_ble_eq_true rfl) (fun p e s m args below meth c C => wX5_when_0 hJ C h)
set_option maxRecDepth 100000 in
set_option maxHeartbeats 4000000 in
theorem wX5_spared_105 (hJ : eInj 16 ad) (C : Cx p s m args meth c (dC, dI) (yW cI cZ ad) (yA ad) ExY [(cI, .int), (cZ, .boolean)] cX5_spared 6 RX5 (some .int) yX5_spared) {σ : eSt} {a1 : Int32} {a2 : Int32} {a3 : Int32} {a4 : Int32} {z : Int64} {r : Int32 × eSt} {k25 : Int32 → Int32 → Int32 → eSt → Option (Int32 × eSt)} (hk25 : ∀ (a2 : Int32) (a3 : Int32) (a4 : Int32) (σ : eSt), k25 a2 a3 a4 σ = some r → WX p l e rmX5_spared s m args below meth c (MQ below (cQ (dC, dI) (yW cI cZ ad) (yA ad) (some (.int r.1)) r.2 z) args s 0 0 (yA ad)) (dC, dI) (yW cI cZ ad) (yA ad) 6 σ z [(0, .ref (ad 0)), (1, .int a1), (2, .int a2), (3, .int a3), (4, .int a4)] 25 []) (h : fX5_spared_105 k25 σ a1 a2 a3 a4 = some r) : WX p l e rmX5_spared s m args below meth c (MQ below (cQ (dC, dI) (yW cI cZ ad) (yA ad) (some (.int r.1)) r.2 z) args s 0 0 (yA ad)) (dC, dI) (yW cI cZ ad) (yA ad) 6 σ z [(0, .ref (ad 0)), (1, .int a1), (2, .int a2), (3, .int a3), (4, .int a4)] 105 [] := by
  unfold fX5_spared_105 at h
  refine x_iinc_b (j := 4) (w := 1) C (fun v1 => [(4, .int v1), (0, .ref (ad 0)), (1, .int a1), (2, .int a2), (3, .int a3)]) dX5_spared_105 ic_1 rfl (by decide) h (fun _ => rfl) ?_
  intro v1 h
  refine x_goto (tgt := 25) C dX5_spared_108 (by decide) ?_
  refine x_sub (lv' := [(0, .ref (ad 0)), (1, .int a1), (2, .int a2), (3, .int a3), (4, .int v1)]) [1, 2, 3, 4, 0] rfl ?_
  exact hk25 _ _ _ _ h
set_option maxRecDepth 100000 in
set_option maxHeartbeats 4000000 in
theorem wX5_spared_104 (hJ : eInj 16 ad) (C : Cx p s m args meth c (dC, dI) (yW cI cZ ad) (yA ad) ExY [(cI, .int), (cZ, .boolean)] cX5_spared 6 RX5 (some .int) yX5_spared) {σ : eSt} {a1 : Int32} {a2 : Int32} {a4 : Int32} {s0 : Int32} {z : Int64} {r : Int32 × eSt} {k25 : Int32 → Int32 → Int32 → eSt → Option (Int32 × eSt)} (hk25 : ∀ (a2 : Int32) (a3 : Int32) (a4 : Int32) (σ : eSt), k25 a2 a3 a4 σ = some r → WX p l e rmX5_spared s m args below meth c (MQ below (cQ (dC, dI) (yW cI cZ ad) (yA ad) (some (.int r.1)) r.2 z) args s 0 0 (yA ad)) (dC, dI) (yW cI cZ ad) (yA ad) 6 σ z [(0, .ref (ad 0)), (1, .int a1), (2, .int a2), (3, .int a3), (4, .int a4)] 25 []) (h : fX5_spared_104 k25 σ a1 a2 a4 s0 = some r) : WX p l e rmX5_spared s m args below meth c (MQ below (cQ (dC, dI) (yW cI cZ ad) (yA ad) (some (.int r.1)) r.2 z) args s 0 0 (yA ad)) (dC, dI) (yW cI cZ ad) (yA ad) 6 σ z [(0, .ref (ad 0)), (1, .int a1), (2, .int a2), (4, .int a4)] 104 [.int s0] := by
  unfold fX5_spared_104 at h
  refine x_istore_n (lv' := [(3, .int s0), (0, .ref (ad 0)), (1, .int a1), (2, .int a2), (4, .int a4)]) C dX5_spared_104 rfl (by decide) rfl ?_
  refine x_sub (lv' := [(0, .ref (ad 0)), (1, .int a1), (2, .int a2), (3, .int s0), (4, .int a4)]) [1, 2, 3, 0, 4] rfl ?_
  exact wX5_spared_105 hJ C hk25 h
set_option maxRecDepth 100000 in
set_option maxHeartbeats 4000000 in
theorem wX5_spared_91 (hJ : eInj 16 ad) (C : Cx p s m args meth c (dC, dI) (yW cI cZ ad) (yA ad) ExY [(cI, .int), (cZ, .boolean)] cX5_spared 6 RX5 (some .int) yX5_spared) {σ : eSt} {a1 : Int32} {a3 : Int32} {a4 : Int32} {a5 : Int32} {s0 : Int32} {z : Int64} {r : Int32 × eSt} {k25 : Int32 → Int32 → Int32 → eSt → Option (Int32 × eSt)} (hk25 : ∀ (a2 : Int32) (a3 : Int32) (a4 : Int32) (σ : eSt), k25 a2 a3 a4 σ = some r → WX p l e rmX5_spared s m args below meth c (MQ below (cQ (dC, dI) (yW cI cZ ad) (yA ad) (some (.int r.1)) r.2 z) args s 0 0 (yA ad)) (dC, dI) (yW cI cZ ad) (yA ad) 6 σ z [(0, .ref (ad 0)), (1, .int a1), (2, .int a2), (3, .int a3), (4, .int a4)] 25 []) (h : fX5_spared_91 k25 σ a1 a3 a4 a5 s0 = some r) : WX p l e rmX5_spared s m args below meth c (MQ below (cQ (dC, dI) (yW cI cZ ad) (yA ad) (some (.int r.1)) r.2 z) args s 0 0 (yA ad)) (dC, dI) (yW cI cZ ad) (yA ad) 6 σ z [(0, .ref (ad 0)), (1, .int a1), (3, .int a3), (4, .int a4), (5, .int a5)] 91 [.int s0] := by
  unfold fX5_spared_91 at h
  refine x_istore_n (lv' := [(2, .int s0), (0, .ref (ad 0)), (1, .int a1), (3, .int a3), (4, .int a4), (5, .int a5)]) C dX5_spared_91 rfl (by decide) rfl ?_
  refine x_iload C dX5_spared_92 5 rfl ?_
  refine x_iload_n C dX5_spared_94 rfl 3 rfl ?_
  refine x_icmp_ge (tgt := 103) C dX5_spared_95 (by decide) h ?_ ?_
  · intro h
    refine x_iload_n C dX5_spared_103 rfl 3 rfl ?_
    refine x_sub (lv' := [(0, .ref (ad 0)), (1, .int a1), (2, .int s0), (4, .int a4)]) [1, 2, 0, 4] rfl ?_
    exact wX5_spared_104 hJ C hk25 h
  · intro h
    refine x_iload C dX5_spared_98 5 rfl ?_
    refine x_goto (tgt := 104) C dX5_spared_100 (by decide) ?_
    refine x_sub (lv' := [(0, .ref (ad 0)), (1, .int a1), (2, .int s0), (4, .int a4)]) [1, 2, 0, 4] rfl ?_
    exact wX5_spared_104 hJ C hk25 h
set_option maxRecDepth 100000 in
set_option maxHeartbeats 4000000 in
theorem wX5_spared_25 (hJ : eInj 16 ad) (C : Cx p s m args meth c (dC, dI) (yW cI cZ ad) (yA ad) ExY [(cI, .int), (cZ, .boolean)] cX5_spared 6 RX5 (some .int) yX5_spared) {a1 : Int32} {z : Int64} {r : Int32 × eSt} : ∀ (n : Nat) (a2 : Int32) (a3 : Int32) (a4 : Int32) (σ : eSt), lo_4 (bX5_spared_25 a1) n a2 a3 a4 σ = some r → WX p l e rmX5_spared s m args below meth c (MQ below (cQ (dC, dI) (yW cI cZ ad) (yA ad) (some (.int r.1)) r.2 z) args s 0 0 (yA ad)) (dC, dI) (yW cI cZ ad) (yA ad) 6 σ z [(0, .ref (ad 0)), (1, .int a1), (2, .int a2), (3, .int a3), (4, .int a4)] 25 [] := by
  refine lo_4_ind (P := fun a2 a3 a4 σ => WX p l e rmX5_spared s m args below meth c (MQ below (cQ (dC, dI) (yW cI cZ ad) (yA ad) (some (.int r.1)) r.2 z) args s 0 0 (yA ad)) (dC, dI) (yW cI cZ ad) (yA ad) 6 σ z [(0, .ref (ad 0)), (1, .int a1), (2, .int a2), (3, .int a3), (4, .int a4)] 25 []) ?_
  intro k25 hk25 a2 a3 a4 σ h
  unfold bX5_spared_25 at h
  refine x_iload C dX5_spared_25 4 rfl ?_
  refine x_aload_n C dX5_spared_27 rfl 0 rfl ?_
  refine fg_5_4 C 0 rfl rfl k_3_13 dX5_spared_28 ?_
  refine x_icmp_ge (tgt := 111) C dX5_spared_31 (by decide) h ?_ ?_
  · intro h
    refine x_iload_n C dX5_spared_111 rfl 2 rfl ?_
    exact xr_wi C h dX5_spared_112
  · intro h
    refine x_aload_n C dX5_spared_34 rfl 0 rfl ?_
    refine fg_5_11 C 0 rfl rfl k_3_20 dX5_spared_35 ?_
    refine x_iconst (v := 2) C dX5_spared_38 ic_2 ?_
    refine x_iald_c C 4 0 2 rfl rfl dX5_spared_39 (by decide) (by decide) ?_
    refine x_iload C dX5_spared_40 4 rfl ?_
    obtain ⟨v1, hv, h⟩ := e_bind h
    refine x_callS_i C [.int (σ 4 2), .int a4] (tX5_has hJ hv) k_3_159 k_3_160 k_1_6 k_3_161 hyX5_has.2 ⟨rfl, rfl⟩ (by decide) rfl rfl (Nat.le_of_ble_eq_true rfl) dX5_spared_42 ?_
    refine x_if_ne (tgt := 105) C dX5_spared_45 (by decide) h ?_ ?_
    · intro h
      exact wX5_spared_105 hJ C hk25 h
    · intro h
      refine x_aload_n C dX5_spared_48 rfl 0 rfl ?_
      obtain ⟨σ2, hv, h⟩ := e_bind h
      refine x_callV_v C (ci := 5) 0 [] (tX5_begin hJ hv) k_3_232 k_3_234 k_p_31 k_1_6 k_3_235 hyX5_begin ⟨rfl, rfl⟩ (by decide) rfl rfl rfl rfl (Nat.le_of_ble_eq_true rfl) dX5_spared_49 ?_
      refine x_aload_n C dX5_spared_52 rfl 0 rfl ?_
      refine fg_5_12 C 0 rfl rfl k_3_21 dX5_spared_53 ?_
      refine x_iconst (v := 2) C dX5_spared_56 ic_2 ?_
      refine x_dup2 C dX5_spared_57 rfl rfl ?_
      refine x_iald_c C 5 0 2 rfl rfl dX5_spared_58 (by decide) (by decide) ?_
      refine x_iconst (v := 1) C dX5_spared_59 ic_1 ?_
      refine x_iload C dX5_spared_60 4 rfl ?_
      refine x_ishl C dX5_spared_62 ?_
      refine x_ior C dX5_spared_63 ?_
      refine x_iast_c C 5 0 2 rfl rfl dX5_spared_64 (by decide) (by decide) h rfl ?_
      intro σ3 h
      refine x_aload_n C dX5_spared_65 rfl 0 rfl ?_
      refine x_aload_n C dX5_spared_66 rfl 0 rfl ?_
      refine fg_5_12 C 0 rfl rfl k_3_21 dX5_spared_67 ?_
      refine x_iload_n C dX5_spared_70 rfl 1 rfl ?_
      obtain ⟨w4, hv, h⟩ := e_bind h
      refine x_callV_i C (ci := 5) 0 [.ref (ad 5), .int a1] (tX5_sureAt hJ (Or.inr rfl) hv) k_3_216 k_3_218 k_p_30 k_1_6 k_3_219 hyX5_sureAt ⟨rfl, rfl⟩ (by decide) rfl rfl rfl rfl (Nat.le_of_ble_eq_true rfl) dX5_spared_71 ?_
      obtain ⟨v5, hv, h⟩ := e_bind h
      refine x_callS_i C [.int w4.1] (tX5_bits hJ hv) k_3_236 k_3_237 k_1_6 k_3_238 hyX5_bits.2 ⟨rfl, rfl⟩ (by decide) rfl rfl (Nat.le_of_ble_eq_true rfl) dX5_spared_74 ?_
      refine x_istore (lv' := [(5, .int v5), (0, .ref (ad 0)), (1, .int a1), (2, .int a2), (3, .int a3), (4, .int a4)]) C dX5_spared_77 (by decide) rfl ?_
      refine x_iload C dX5_spared_79 0 rfl ?_
      refine x_iload_n C dX5_spared_81 rfl 4 rfl ?_
      refine x_icmp_ge (tgt := 90) C dX5_spared_82 (by decide) h ?_ ?_
      · intro h
        refine x_iload_n C dX5_spared_90 rfl 3 rfl ?_
        refine x_sub (lv' := [(0, .ref (ad 0)), (1, .int a1), (3, .int a3), (4, .int a4), (5, .int v5)]) [1, 2, 4, 5, 0] rfl ?_
        exact wX5_spared_91 hJ C hk25 h
      · intro h
        refine x_iload C dX5_spared_85 5 rfl ?_
        refine x_goto (tgt := 91) C dX5_spared_87 (by decide) ?_
        refine x_sub (lv' := [(0, .ref (ad 0)), (1, .int a1), (3, .int a3), (4, .int a4), (5, .int v5)]) [1, 2, 4, 5, 0] rfl ?_
        exact wX5_spared_91 hJ C hk25 h
set_option maxRecDepth 100000 in
set_option maxHeartbeats 4000000 in
theorem wX5_spared_0 (hJ : eInj 16 ad) (C : Cx p s m args meth c (dC, dI) (yW cI cZ ad) (yA ad) ExY [(cI, .int), (cZ, .boolean)] cX5_spared 6 RX5 (some .int) yX5_spared) {σ : eSt} {a1 : Int32} {z : Int64} {r : Int32 × eSt} (h : fX5_spared σ a1 = some r) : WX p l e rmX5_spared s m args below meth c (MQ below (cQ (dC, dI) (yW cI cZ ad) (yA ad) (some (.int r.1)) r.2 z) args s 0 0 (yA ad)) (dC, dI) (yW cI cZ ad) (yA ad) 6 σ z [(0, .ref (ad 0)), (1, .int a1)] 0 [] := by
  unfold fX5_spared at h
  refine x_aload_n C dX5_spared_0 rfl 0 rfl ?_
  refine x_iconst (v := 0) C dX5_spared_1 ic_0 ?_
  refine fp_5_0 C 0 rfl (Nat.le_of_ble_eq_true rfl) k_3_9 h rfl dX5_spared_2 ?_
  intro σ1 h
  refine x_iload_n C dX5_spared_5 rfl 1 rfl ?_
  obtain ⟨v2, hv, h⟩ := e_bind h
  refine x_callS_i C [.int a1] (tX5_noHour hJ hv) k_3_209 k_3_210 k_1_6 k_3_211 hyX5_noHour.2 ⟨rfl, rfl⟩ (by decide) rfl rfl (Nat.le_of_ble_eq_true rfl) dX5_spared_6 ?_
  refine x_if_eq (tgt := 15) C dX5_spared_9 (by decide) h ?_ ?_
  · intro h
    refine x_bipush (v := (-9)) C dX5_spared_15 bi_m9 ?_
    refine x_istore_n (lv' := [(2, .int (-9)), (0, .ref (ad 0)), (1, .int a1)]) C dX5_spared_17 rfl (by decide) rfl ?_
    refine x_sipush (v := 9999) C dX5_spared_18 si_9999 ?_
    refine x_istore_n (lv' := [(3, .int 9999), (2, .int (-9)), (0, .ref (ad 0)), (1, .int a1)]) C dX5_spared_21 rfl (by decide) rfl ?_
    refine x_iconst (v := 0) C dX5_spared_22 ic_0 ?_
    refine x_istore (lv' := [(4, .int 0), (3, .int 9999), (2, .int (-9)), (0, .ref (ad 0)), (1, .int a1)]) C dX5_spared_23 (by decide) rfl ?_
    refine x_sub (lv' := [(0, .ref (ad 0)), (1, .int a1), (2, .int (-9)), (3, .int 9999), (4, .int 0)]) [3, 4, 2, 1, 0] rfl ?_
    exact wX5_spared_25 hJ C _ _ _ _ _ h
  · intro h
    refine x_bipush (v := (-2)) C dX5_spared_12 bi_m2 ?_
    exact xr_wi C h dX5_spared_14
set_option maxRecDepth 100000 in
set_option maxHeartbeats 4000000 in
theorem tX5_spared {l : Launch} {dC : Nat → ClassId} {dI : Nat → Nat → Nat} {cI cZ : ClassId} {ad : Nat → Nat} (hJ : eInj 16 ad) {σ : eSt} {a1 : Int32} {z : Int64} {r : Int32 × eSt} (h : fX5_spared σ a1 = some r) : Con l yX5_spared cX5_spared 6 (some .int) rmX5_spared (dC, dI) (yW cI cZ ad) (yA ad) [(cI, .int), (cZ, .boolean)] ExY [.ref (ad 0), .int a1] σ z (some (.int r.1)) r.2 z :=
  x_con (by decide) (yW_D hJ) (ExY_ok ad) (Nat.le_of_ble_eq_true rfl) (fun p e s m args below meth c C => wX5_spared_0 hJ C h)
set_option maxRecDepth 100000 in
set_option maxHeartbeats 4000000 in
theorem wX5_orders_4 (hJ : eInj 16 ad) (C : Cx p s m args meth c (dC, dI) (yW cI cZ ad) (yA ad) ExY [(cI, .int), (cZ, .boolean)] cX5_orders 3 RX5 (some .int) yX5_orders) {σ : eSt} {a0 : Int32} {z : Int64} {r : Int32} : ∀ (n : Nat) (a1 : Int32) (a2 : Int32), lo_2 (bX5_orders_4 a0) n a1 a2 = some r → WX p l e rmX5_orders s m args below meth c (MQ below (cQ (dC, dI) (yW cI cZ ad) (yA ad) (some (.int r)) σ z) args s 0 0 (yA ad)) (dC, dI) (yW cI cZ ad) (yA ad) 3 σ z [(0, .int a0), (1, .int a1), (2, .int a2)] 4 [] := by
  refine lo_2_ind (P := fun a1 a2 => WX p l e rmX5_orders s m args below meth c (MQ below (cQ (dC, dI) (yW cI cZ ad) (yA ad) (some (.int r)) σ z) args s 0 0 (yA ad)) (dC, dI) (yW cI cZ ad) (yA ad) 3 σ z [(0, .int a0), (1, .int a1), (2, .int a2)] 4 []) ?_
  intro k4 hk4 a1 a2 h
  unfold bX5_orders_4 at h
  refine x_iload_n C dX5_orders_4 rfl 2 rfl ?_
  refine x_iload_n C dX5_orders_5 rfl 0 rfl ?_
  refine x_icmp_gt (tgt := 19) C dX5_orders_6 (by decide) h ?_ ?_
  · intro h
    refine x_iload_n C dX5_orders_19 rfl 1 rfl ?_
    exact xr_i C h dX5_orders_20
  · intro h
    refine x_iload_n C dX5_orders_9 rfl 1 rfl ?_
    refine x_iload_n C dX5_orders_10 rfl 2 rfl ?_
    refine x_imul C dX5_orders_11 ?_
    refine x_istore_n_b C (fun v1 => [(1, .int v1), (0, .int a0), (2, .int a2)]) dX5_orders_12 rfl (by decide) h (fun _ => rfl) ?_
    intro v1 h
    refine x_iinc_b (j := 2) (w := 1) C (fun v2 => [(2, .int v2), (1, .int v1), (0, .int a0)]) dX5_orders_13 ic_1 rfl (by decide) h (fun _ => rfl) ?_
    intro v2 h
    refine x_goto (tgt := 4) C dX5_orders_16 (by decide) ?_
    refine x_sub (lv' := [(0, .int a0), (1, .int v1), (2, .int v2)]) [2, 1, 0] rfl ?_
    exact hk4 _ _ h
set_option maxRecDepth 100000 in
set_option maxHeartbeats 4000000 in
theorem wX5_orders_0 (hJ : eInj 16 ad) (C : Cx p s m args meth c (dC, dI) (yW cI cZ ad) (yA ad) ExY [(cI, .int), (cZ, .boolean)] cX5_orders 3 RX5 (some .int) yX5_orders) {σ : eSt} {a0 : Int32} {z : Int64} {r : Int32} (h : fX5_orders a0 = some r) : WX p l e rmX5_orders s m args below meth c (MQ below (cQ (dC, dI) (yW cI cZ ad) (yA ad) (some (.int r)) σ z) args s 0 0 (yA ad)) (dC, dI) (yW cI cZ ad) (yA ad) 3 σ z [(0, .int a0)] 0 [] := by
  unfold fX5_orders at h
  refine x_iconst (v := 1) C dX5_orders_0 ic_1 ?_
  refine x_istore_n (lv' := [(1, .int 1), (0, .int a0)]) C dX5_orders_1 rfl (by decide) rfl ?_
  refine x_iconst (v := 2) C dX5_orders_2 ic_2 ?_
  refine x_istore_n (lv' := [(2, .int 2), (1, .int 1), (0, .int a0)]) C dX5_orders_3 rfl (by decide) rfl ?_
  refine x_sub (lv' := [(0, .int a0), (1, .int 1), (2, .int 2)]) [2, 1, 0] rfl ?_
  exact wX5_orders_4 hJ C _ _ _ h
set_option maxRecDepth 100000 in
set_option maxHeartbeats 4000000 in
theorem tX5_orders {l : Launch} {dC : Nat → ClassId} {dI : Nat → Nat → Nat} {cI cZ : ClassId} {ad : Nat → Nat} (hJ : eInj 16 ad) {a0 : Int32} {σ : eSt} {z : Int64} {r : Int32} (h : fX5_orders a0 = some r) : Con l yX5_orders cX5_orders 3 (some .int) rmX5_orders (dC, dI) (yW cI cZ ad) (yA ad) [(cI, .int), (cZ, .boolean)] ExY [.int a0] σ z (some (.int r)) σ z :=
  x_con (by decide) (yW_D hJ) (ExY_ok ad) (Nat.le_of_ble_eq_true rfl) (fun p e s m args below meth c C => wX5_orders_0 hJ C h)
set_option maxRecDepth 100000 in
set_option maxHeartbeats 4000000 in
theorem wX5_divisor_13 (hJ : eInj 16 ad) (C : Cx p s m args meth c (dC, dI) (yW cI cZ ad) (yA ad) ExY [(cI, .int), (cZ, .boolean)] cX5_divisor 5 RX5 (some .int) yX5_divisor) {σ : eSt} {z : Int64} {r : Int32} : ∀ (n : Nat) (a2 : Int32) (a3 : Int32), lo_2 (bX5_divisor_13) n a2 a3 = some r → WX p l e rmX5_divisor s m args below meth c (MQ below (cQ (dC, dI) (yW cI cZ ad) (yA ad) (some (.int r)) σ z) args s 0 0 (yA ad)) (dC, dI) (yW cI cZ ad) (yA ad) 5 σ z [(2, .int a2), (3, .int a3)] 13 [] := by
  refine lo_2_ind (P := fun a2 a3 => WX p l e rmX5_divisor s m args below meth c (MQ below (cQ (dC, dI) (yW cI cZ ad) (yA ad) (some (.int r)) σ z) args s 0 0 (yA ad)) (dC, dI) (yW cI cZ ad) (yA ad) 5 σ z [(2, .int a2), (3, .int a3)] 13 []) ?_
  intro k13 hk13 a2 a3 h
  unfold bX5_divisor_13 at h
  refine x_iload_n C dX5_divisor_13 rfl 1 rfl ?_
  refine x_if_eq (tgt := 30) C dX5_divisor_14 (by decide) h ?_ ?_
  · intro h
    refine x_iload_n C dX5_divisor_30 rfl 0 rfl ?_
    exact xr_i C h dX5_divisor_31
  · intro h
    refine x_iload_n C dX5_divisor_17 rfl 0 rfl ?_
    refine x_iload_n C dX5_divisor_18 rfl 1 rfl ?_
    refine x_irem C dX5_divisor_19 h ?_
    intro h
    refine x_istore_b C (fun v1 => [(4, .int v1), (2, .int a2), (3, .int a3)]) dX5_divisor_20 (by decide) h (fun _ => rfl) ?_
    intro v1 h
    refine x_iload_n C dX5_divisor_22 rfl 2 rfl ?_
    refine x_istore_n (lv' := [(2, .int a3), (4, .int v1), (3, .int a3)]) C dX5_divisor_23 rfl (by decide) rfl ?_
    refine x_iload C dX5_divisor_24 1 rfl ?_
    refine x_istore_n (lv' := [(3, .int v1), (2, .int a3), (4, .int v1)]) C dX5_divisor_26 rfl (by decide) rfl ?_
    refine x_goto (tgt := 13) C dX5_divisor_27 (by decide) ?_
    refine x_sub (lv' := [(2, .int a3), (3, .int v1)]) [1, 0] rfl ?_
    exact hk13 _ _ h
set_option maxRecDepth 100000 in
set_option maxHeartbeats 4000000 in
theorem wX5_divisor_10 (hJ : eInj 16 ad) (C : Cx p s m args meth c (dC, dI) (yW cI cZ ad) (yA ad) ExY [(cI, .int), (cZ, .boolean)] cX5_divisor 5 RX5 (some .int) yX5_divisor) {σ : eSt} {a1 : Int32} {s0 : Int32} {z : Int64} {r : Int32} (h : fX5_divisor_10 a1 s0 = some r) : WX p l e rmX5_divisor s m args below meth c (MQ below (cQ (dC, dI) (yW cI cZ ad) (yA ad) (some (.int r)) σ z) args s 0 0 (yA ad)) (dC, dI) (yW cI cZ ad) (yA ad) 5 σ z [(1, .int a1)] 10 [.int s0] := by
  unfold fX5_divisor_10 at h
  refine x_istore_n (lv' := [(2, .int s0), (1, .int a1)]) C dX5_divisor_10 rfl (by decide) rfl ?_
  refine x_iload_n C dX5_divisor_11 rfl 1 rfl ?_
  refine x_istore_n (lv' := [(3, .int a1), (2, .int s0), (1, .int a1)]) C dX5_divisor_12 rfl (by decide) rfl ?_
  refine x_sub (lv' := [(2, .int s0), (3, .int a1)]) [1, 0] rfl ?_
  exact wX5_divisor_13 hJ C _ _ _ h
set_option maxRecDepth 100000 in
set_option maxHeartbeats 4000000 in
theorem wX5_divisor_0 (hJ : eInj 16 ad) (C : Cx p s m args meth c (dC, dI) (yW cI cZ ad) (yA ad) ExY [(cI, .int), (cZ, .boolean)] cX5_divisor 5 RX5 (some .int) yX5_divisor) {σ : eSt} {a0 : Int32} {a1 : Int32} {z : Int64} {r : Int32} (h : fX5_divisor a0 a1 = some r) : WX p l e rmX5_divisor s m args below meth c (MQ below (cQ (dC, dI) (yW cI cZ ad) (yA ad) (some (.int r)) σ z) args s 0 0 (yA ad)) (dC, dI) (yW cI cZ ad) (yA ad) 5 σ z [(0, .int a0), (1, .int a1)] 0 [] := by
  unfold fX5_divisor at h
  refine x_iload_n C dX5_divisor_0 rfl 0 rfl ?_
  refine x_if_ge (tgt := 9) C dX5_divisor_1 (by decide) h ?_ ?_
  · intro h
    refine x_iload_n C dX5_divisor_9 rfl 0 rfl ?_
    refine x_sub (lv' := [(1, .int a1)]) [1] rfl ?_
    exact wX5_divisor_10 hJ C h
  · intro h
    refine x_iload_n C dX5_divisor_4 rfl 0 rfl ?_
    refine x_ineg C dX5_divisor_5 ?_
    refine x_goto (tgt := 10) C dX5_divisor_6 (by decide) ?_
    refine x_sub (lv' := [(1, .int a1)]) [1] rfl ?_
    exact wX5_divisor_10 hJ C h
set_option maxRecDepth 100000 in
set_option maxHeartbeats 4000000 in
theorem tX5_divisor {l : Launch} {dC : Nat → ClassId} {dI : Nat → Nat → Nat} {cI cZ : ClassId} {ad : Nat → Nat} (hJ : eInj 16 ad) {a0 : Int32} {a1 : Int32} {σ : eSt} {z : Int64} {r : Int32} (h : fX5_divisor a0 a1 = some r) : Con l yX5_divisor cX5_divisor 5 (some .int) rmX5_divisor (dC, dI) (yW cI cZ ad) (yA ad) [(cI, .int), (cZ, .boolean)] ExY [.int a0, .int a1] σ z (some (.int r)) σ z :=
  x_con (by decide) (yW_D hJ) (ExY_ok ad) (Nat.le_of_ble_eq_true rfl) (fun p e s m args below meth c C => wX5_divisor_0 hJ C h)
set_option maxRecDepth 100000 in
set_option maxHeartbeats 4000000 in
theorem wX5_fraction_0 (hJ : eInj 16 ad) (C : Cx p s m args meth c (dC, dI) (yW cI cZ ad) (yA ad) ExY [(cI, .int), (cZ, .boolean)] cX5_fraction 4 RX5 (some .int) yX5_fraction) {σ : eSt} {a0 : Int32} {a1 : Int32} {a2 : Int32} {z : Int64} {r : Int32} (h : fX5_fraction a0 a1 a2 = some r) : WX p l e rmX5_fraction s m args below meth c (MQ below (cQ (dC, dI) (yW cI cZ ad) (yA ad) (some (.int r)) σ z) args s 0 0 (yA ad)) (dC, dI) (yW cI cZ ad) (yA ad) 4 σ z [(0, .int a0), (1, .int a1), (2, .int a2)] 0 [] := by
  unfold fX5_fraction at h
  refine x_iload_n C dX5_fraction_0 rfl 0 rfl ?_
  refine x_iload_n C dX5_fraction_1 rfl 1 rfl ?_
  obtain ⟨v1, hv, h⟩ := e_bind h
  refine x_callS_i C [.int a0, .int a1] (tX5_divisor hJ hv) k_4_9 k_4_10 k_1_6 k_4_11 hyX5_divisor.2 ⟨rfl, rfl⟩ (by decide) rfl rfl (Nat.le_of_ble_eq_true rfl) dX5_fraction_2 ?_
  refine x_istore_n (lv' := [(3, .int v1), (0, .int a0), (1, .int a1), (2, .int a2)]) C dX5_fraction_5 rfl (by decide) rfl ?_
  refine x_iload_n C dX5_fraction_6 rfl 3 rfl ?_
  refine x_if_eq (tgt := 16) C dX5_fraction_7 (by decide) h ?_ ?_
  · intro h
    refine x_iload_n C dX5_fraction_16 rfl 2 rfl ?_
    refine x_iload_n C dX5_fraction_17 rfl 0 rfl ?_
    refine x_idiv C dX5_fraction_18 h ?_
    intro h
    exact xr_i C h dX5_fraction_19
  · intro h
    refine x_iload_n C dX5_fraction_10 rfl 1 rfl ?_
    refine x_iload_n C dX5_fraction_11 rfl 0 rfl ?_
    refine x_idiv C dX5_fraction_12 h ?_
    intro h
    refine x_goto (tgt := 19) C dX5_fraction_13 (by decide) ?_
    exact xr_i C h dX5_fraction_19
set_option maxRecDepth 100000 in
set_option maxHeartbeats 4000000 in
theorem tX5_fraction {l : Launch} {dC : Nat → ClassId} {dI : Nat → Nat → Nat} {cI cZ : ClassId} {ad : Nat → Nat} (hJ : eInj 16 ad) {a0 : Int32} {a1 : Int32} {a2 : Int32} {σ : eSt} {z : Int64} {r : Int32} (h : fX5_fraction a0 a1 a2 = some r) : Con l yX5_fraction cX5_fraction 4 (some .int) rmX5_fraction (dC, dI) (yW cI cZ ad) (yA ad) [(cI, .int), (cZ, .boolean)] ExY [.int a0, .int a1, .int a2] σ z (some (.int r)) σ z :=
  x_con (by decide) (yW_D hJ) (ExY_ok ad) (Nat.le_of_ble_eq_true rfl) (fun p e s m args below meth c C => wX5_fraction_0 hJ C h)
set_option maxRecDepth 100000 in
set_option maxHeartbeats 4000000 in
theorem wX5_worth_216 (hJ : eInj 16 ad) (C : Cx p s m args meth c (dC, dI) (yW cI cZ ad) (yA ad) ExY [(cI, .int), (cZ, .boolean)] cX5_worth 10 RX5 (some .int) yX5_worth) {σ : eSt} {a3 : Int32} {a6 : Int32} {a7 : Int32} {z : Int64} {r : Int32 × eSt} (h : fX5_worth_216 σ a3 a6 a7 = some r) : WX p l e rmX5_worth s m args below meth c (MQ below (cQ (dC, dI) (yW cI cZ ad) (yA ad) (some (.int r.1)) r.2 z) args s 0 0 (yA ad)) (dC, dI) (yW cI cZ ad) (yA ad) 10 σ z [(0, .ref (ad 0)), (3, .int a3), (6, .int a6), (7, .int a7)] 216 [] := by
  unfold fX5_worth_216 at h
  refine x_iload C dX5_worth_216 3 rfl ?_
  refine x_iload C dX5_worth_218 2 rfl ?_
  obtain ⟨v1, hv, h⟩ := e_bind h
  refine x_callS_i C [.int a6] (tX5_orders hJ hv) k_4_3 k_4_4 k_1_6 k_4_5 hyX5_orders.2 ⟨rfl, rfl⟩ (by decide) rfl rfl (Nat.le_of_ble_eq_true rfl) dX5_worth_220 ?_
  refine x_iload_n C dX5_worth_223 rfl 1 rfl ?_
  obtain ⟨v2, hv, h⟩ := e_bind h
  refine x_callS_i C [.int a7, .int v1, .int a3] (tX5_fraction hJ hv) k_4_6 k_4_7 k_1_6 k_4_8 hyX5_fraction.2 ⟨rfl, rfl⟩ (by decide) rfl rfl (Nat.le_of_ble_eq_true rfl) dX5_worth_224 ?_
  exact xr_wi C h dX5_worth_227
set_option maxRecDepth 100000 in
set_option maxHeartbeats 4000000 in
theorem wX5_worth_210 (hJ : eInj 16 ad) (C : Cx p s m args meth c (dC, dI) (yW cI cZ ad) (yA ad) ExY [(cI, .int), (cZ, .boolean)] cX5_worth 10 RX5 (some .int) yX5_worth) {σ : eSt} {a1 : Int32} {a3 : Int32} {a4 : Int32} {a5 : Int32} {a6 : Int32} {a7 : Int32} {a8 : Int32} {z : Int64} {r : Int32 × eSt} {k127 : Int32 → Int32 → Option (Int32 × eSt)} (hk127 : ∀ (a7 : Int32) (a8 : Int32), k127 a7 a8 = some r → WX p l e rmX5_worth s m args below meth c (MQ below (cQ (dC, dI) (yW cI cZ ad) (yA ad) (some (.int r.1)) r.2 z) args s 0 0 (yA ad)) (dC, dI) (yW cI cZ ad) (yA ad) 10 σ z [(0, .ref (ad 0)), (1, .int a1), (3, .int a3), (4, .int a4), (5, .int a5), (6, .int a6), (7, .int a7), (8, .int a8)] 127 []) (h : fX5_worth_210 k127 σ a1 a3 a4 a5 a6 a7 a8 = some r) : WX p l e rmX5_worth s m args below meth c (MQ below (cQ (dC, dI) (yW cI cZ ad) (yA ad) (some (.int r.1)) r.2 z) args s 0 0 (yA ad)) (dC, dI) (yW cI cZ ad) (yA ad) 10 σ z [(0, .ref (ad 0)), (1, .int a1), (3, .int a3), (4, .int a4), (5, .int a5), (6, .int a6), (7, .int a7), (8, .int a8)] 210 [] := by
  unfold fX5_worth_210 at h
  refine x_iinc_b (j := 7) (w := 1) C (fun v1 => [(8, .int v1), (0, .ref (ad 0)), (1, .int a1), (3, .int a3), (4, .int a4), (5, .int a5), (6, .int a6), (7, .int a7)]) dX5_worth_210 ic_1 rfl (by decide) h (fun _ => rfl) ?_
  intro v1 h
  refine x_goto (tgt := 127) C dX5_worth_213 (by decide) ?_
  refine x_sub (lv' := [(0, .ref (ad 0)), (1, .int a1), (3, .int a3), (4, .int a4), (5, .int a5), (6, .int a6), (7, .int a7), (8, .int v1)]) [1, 2, 3, 4, 5, 6, 7, 0] rfl ?_
  exact hk127 _ _ h
set_option maxRecDepth 100000 in
set_option maxHeartbeats 4000000 in
theorem wX5_worth_127 (hJ : eInj 16 ad) (C : Cx p s m args meth c (dC, dI) (yW cI cZ ad) (yA ad) ExY [(cI, .int), (cZ, .boolean)] cX5_worth 10 RX5 (some .int) yX5_worth) {σ : eSt} {a1 : Int32} {a3 : Int32} {a4 : Int32} {a5 : Int32} {a6 : Int32} {z : Int64} {r : Int32 × eSt} : ∀ (n : Nat) (a7 : Int32) (a8 : Int32), lo_2 (bX5_worth_127 σ a1 a3 a4 a5 a6) n a7 a8 = some r → WX p l e rmX5_worth s m args below meth c (MQ below (cQ (dC, dI) (yW cI cZ ad) (yA ad) (some (.int r.1)) r.2 z) args s 0 0 (yA ad)) (dC, dI) (yW cI cZ ad) (yA ad) 10 σ z [(0, .ref (ad 0)), (1, .int a1), (3, .int a3), (4, .int a4), (5, .int a5), (6, .int a6), (7, .int a7), (8, .int a8)] 127 [] := by
  refine lo_2_ind (P := fun a7 a8 => WX p l e rmX5_worth s m args below meth c (MQ below (cQ (dC, dI) (yW cI cZ ad) (yA ad) (some (.int r.1)) r.2 z) args s 0 0 (yA ad)) (dC, dI) (yW cI cZ ad) (yA ad) 10 σ z [(0, .ref (ad 0)), (1, .int a1), (3, .int a3), (4, .int a4), (5, .int a5), (6, .int a6), (7, .int a7), (8, .int a8)] 127 []) ?_
  intro k127 hk127 a7 a8 h
  unfold bX5_worth_127 at h
  refine x_iload C dX5_worth_127 7 rfl ?_
  refine x_iload C dX5_worth_129 3 rfl ?_
  refine x_icmp_gt (tgt := 216) C dX5_worth_131 (by decide) h ?_ ?_
  · intro h
    refine x_sub (lv' := [(0, .ref (ad 0)), (3, .int a3), (6, .int a6), (7, .int a7)]) [0, 2, 5, 6] rfl ?_
    exact wX5_worth_216 hJ C h
  · intro h
    refine x_iload C dX5_worth_134 4 rfl ?_
    refine x_iload_n C dX5_worth_136 rfl 1 rfl ?_
    obtain ⟨v1, hv, h⟩ := e_bind h
    refine x_callS_i C [.int a5, .int a1] (tX5_has hJ hv) k_3_159 k_3_160 k_1_6 k_3_161 hyX5_has.2 ⟨rfl, rfl⟩ (by decide) rfl rfl (Nat.le_of_ble_eq_true rfl) dX5_worth_137 ?_
    refine x_if_eq (tgt := 216) C dX5_worth_140 (by decide) h ?_ ?_
    · intro h
      refine x_sub (lv' := [(0, .ref (ad 0)), (3, .int a3), (6, .int a6), (7, .int a7)]) [0, 2, 5, 6] rfl ?_
      exact wX5_worth_216 hJ C h
    · intro h
      refine x_iload C dX5_worth_143 7 rfl ?_
      refine x_iload C dX5_worth_145 4 rfl ?_
      refine x_iconst (v := (-1)) C dX5_worth_147 ic_m1 ?_
      refine x_ixor C dX5_worth_148 ?_
      refine x_iand C dX5_worth_149 ?_
      refine x_if_ne (tgt := 210) C dX5_worth_150 (by decide) h ?_ ?_
      · intro h
        exact wX5_worth_210 hJ C hk127 h
      · intro h
        refine x_iload C dX5_worth_153 7 rfl ?_
        refine x_iload_n C dX5_worth_155 rfl 1 rfl ?_
        obtain ⟨v2, hv, h⟩ := e_bind h
        refine x_callS_i C [.int a8, .int a1] (tX5_has hJ hv) k_3_159 k_3_160 k_1_6 k_3_161 hyX5_has.2 ⟨rfl, rfl⟩ (by decide) rfl rfl (Nat.le_of_ble_eq_true rfl) dX5_worth_156 ?_
        refine x_if_ne (tgt := 210) C dX5_worth_159 (by decide) h ?_ ?_
        · intro h
          exact wX5_worth_210 hJ C hk127 h
        · intro h
          refine x_iload C dX5_worth_162 7 rfl ?_
          obtain ⟨v3, hv, h⟩ := e_bind h
          refine x_callS_i C [.int a8] (tX5_bits hJ hv) k_3_236 k_3_237 k_1_6 k_3_238 hyX5_bits.2 ⟨rfl, rfl⟩ (by decide) rfl rfl (Nat.le_of_ble_eq_true rfl) dX5_worth_164 ?_
          refine x_istore (lv' := [(9, .int v3), (0, .ref (ad 0)), (1, .int a1), (3, .int a3), (4, .int a4), (5, .int a5), (6, .int a6), (7, .int a7), (8, .int a8)]) C dX5_worth_167 (by decide) rfl ?_
          refine x_iload C dX5_worth_169 7 rfl ?_
          refine x_iload C dX5_worth_171 0 rfl ?_
          obtain ⟨v4, hv, h⟩ := e_bind h
          refine x_callS_i C [.int v3] (tX5_orders hJ hv) k_4_3 k_4_4 k_1_6 k_4_5 hyX5_orders.2 ⟨rfl, rfl⟩ (by decide) rfl rfl (Nat.le_of_ble_eq_true rfl) dX5_worth_173 ?_
          refine x_iload C dX5_worth_176 6 rfl ?_
          refine x_iconst (v := 1) C dX5_worth_178 ic_1 ?_
          refine x_isub C dX5_worth_179 ?_
          refine x_iload C dX5_worth_180 0 rfl ?_
          refine x_isub C dX5_worth_182 ?_
          obtain ⟨v5, hv, h⟩ := e_bind h
          refine x_callS_i C [.int ((a6 - 1) - v3)] (tX5_orders hJ hv) k_4_3 k_4_4 k_1_6 k_4_5 hyX5_orders.2 ⟨rfl, rfl⟩ (by decide) rfl rfl (Nat.le_of_ble_eq_true rfl) dX5_worth_183 ?_
          refine x_imul C dX5_worth_186 ?_
          refine x_aload_n C dX5_worth_187 rfl 1 rfl ?_
          refine fg_5_24 C 0 rfl rfl k_3_33 dX5_worth_188 ?_
          refine x_iload C dX5_worth_191 8 rfl ?_
          refine x_iconst (v := 1) C dX5_worth_193 ic_1 ?_
          refine x_iload_n C dX5_worth_194 rfl 2 rfl ?_
          refine x_ishl C dX5_worth_195 ?_
          refine x_ior C dX5_worth_196 ?_
          refine x_iald C 14 0 rfl rfl dX5_worth_197 h ?_
          intro h
          refine x_aload_n C dX5_worth_198 rfl 1 rfl ?_
          refine fg_5_24 C 0 rfl rfl k_3_33 dX5_worth_199 ?_
          refine x_iload C dX5_worth_202 8 rfl ?_
          refine x_iald C 14 0 rfl rfl dX5_worth_204 h ?_
          intro h
          refine x_isub C dX5_worth_205 ?_
          refine x_imul C dX5_worth_206 ?_
          refine x_iadd C dX5_worth_207 ?_
          refine x_istore_b C (fun v6 => [(7, .int v6), (9, .int v3), (0, .ref (ad 0)), (1, .int a1), (3, .int a3), (4, .int a4), (5, .int a5), (6, .int a6), (8, .int a8)]) dX5_worth_208 (by decide) h (fun _ => rfl) ?_
          intro v6 h
          refine x_sub (lv' := [(0, .ref (ad 0)), (1, .int a1), (3, .int a3), (4, .int a4), (5, .int a5), (6, .int a6), (7, .int v6), (8, .int a8)]) [2, 3, 4, 5, 6, 7, 0, 8] rfl ?_
          exact wX5_worth_210 hJ C hk127 h
set_option maxRecDepth 100000 in
set_option maxHeartbeats 4000000 in
theorem wX5_worth_114 (hJ : eInj 16 ad) (C : Cx p s m args meth c (dC, dI) (yW cI cZ ad) (yA ad) ExY [(cI, .int), (cZ, .boolean)] cX5_worth 10 RX5 (some .int) yX5_worth) {σ : eSt} {a1 : Int32} {a2 : Int32} {a3 : Int32} {a4 : Int32} {a5 : Int32} {a6 : Int32} {a7 : Int32} {s0 : Int32} {s1 : Int32} {z : Int64} {r : Int32 × eSt} {k58 : Int32 → eSt → Option (Int32 × eSt)} (hk58 : ∀ (a7 : Int32) (σ : eSt), k58 a7 σ = some r → WX p l e rmX5_worth s m args below meth c (MQ below (cQ (dC, dI) (yW cI cZ ad) (yA ad) (some (.int r.1)) r.2 z) args s 0 0 (yA ad)) (dC, dI) (yW cI cZ ad) (yA ad) 10 σ z [(0, .ref (ad 0)), (1, .int a1), (2, .int a2), (3, .int a3), (4, .int a4), (5, .int a5), (6, .int a6), (7, .int a7)] 58 []) (h : fX5_worth_114 k58 σ a1 a2 a3 a4 a5 a6 a7 s0 s1 = some r) : WX p l e rmX5_worth s m args below meth c (MQ below (cQ (dC, dI) (yW cI cZ ad) (yA ad) (some (.int r.1)) r.2 z) args s 0 0 (yA ad)) (dC, dI) (yW cI cZ ad) (yA ad) 10 σ z [(0, .ref (ad 0)), (1, .int a1), (2, .int a2), (3, .int a3), (4, .int a4), (5, .int a5), (6, .int a6), (7, .int a7)] 114 [.int s0, .int s1, .ref (ad 14)] := by
  unfold fX5_worth_114 at h
  refine x_iast C 14 0 rfl rfl dX5_worth_114 h rfl ?_
  intro σ1 h
  refine x_iinc_b (j := 7) (w := 1) C (fun v2 => [(7, .int v2), (0, .ref (ad 0)), (1, .int a1), (2, .int a2), (3, .int a3), (4, .int a4), (5, .int a5), (6, .int a6)]) dX5_worth_115 ic_1 rfl (by decide) h (fun _ => rfl) ?_
  intro v2 h
  refine x_goto (tgt := 58) C dX5_worth_118 (by decide) ?_
  refine x_sub (lv' := [(0, .ref (ad 0)), (1, .int a1), (2, .int a2), (3, .int a3), (4, .int a4), (5, .int a5), (6, .int a6), (7, .int v2)]) [1, 2, 3, 4, 5, 6, 7, 0] rfl ?_
  exact hk58 _ _ h
set_option maxRecDepth 100000 in
set_option maxHeartbeats 4000000 in
theorem wX5_worth_58 (hJ : eInj 16 ad) (C : Cx p s m args meth c (dC, dI) (yW cI cZ ad) (yA ad) ExY [(cI, .int), (cZ, .boolean)] cX5_worth 10 RX5 (some .int) yX5_worth) {a1 : Int32} {a2 : Int32} {a3 : Int32} {a4 : Int32} {a5 : Int32} {a6 : Int32} {z : Int64} {r : Int32 × eSt} : ∀ (n : Nat) (a7 : Int32) (σ : eSt), lo_2 (bX5_worth_58 a1 a2 a3 a4 a5 a6) n a7 σ = some r → WX p l e rmX5_worth s m args below meth c (MQ below (cQ (dC, dI) (yW cI cZ ad) (yA ad) (some (.int r.1)) r.2 z) args s 0 0 (yA ad)) (dC, dI) (yW cI cZ ad) (yA ad) 10 σ z [(0, .ref (ad 0)), (1, .int a1), (2, .int a2), (3, .int a3), (4, .int a4), (5, .int a5), (6, .int a6), (7, .int a7)] 58 [] := by
  refine lo_2_ind (P := fun a7 σ => WX p l e rmX5_worth s m args below meth c (MQ below (cQ (dC, dI) (yW cI cZ ad) (yA ad) (some (.int r.1)) r.2 z) args s 0 0 (yA ad)) (dC, dI) (yW cI cZ ad) (yA ad) 10 σ z [(0, .ref (ad 0)), (1, .int a1), (2, .int a2), (3, .int a3), (4, .int a4), (5, .int a5), (6, .int a6), (7, .int a7)] 58 []) ?_
  intro k58 hk58 a7 σ h
  unfold bX5_worth_58 at h
  refine x_iload C dX5_worth_58 7 rfl ?_
  refine x_iload C dX5_worth_60 4 rfl ?_
  refine x_icmp_gt (tgt := 121) C dX5_worth_62 (by decide) h ?_ ?_
  · intro h
    refine x_iconst (v := 0) C dX5_worth_121 ic_0 ?_
    refine x_istore (lv' := [(7, .int 0), (0, .ref (ad 0)), (1, .int a1), (2, .int a2), (3, .int a3), (4, .int a4), (5, .int a5), (6, .int a6)]) C dX5_worth_122 (by decide) rfl ?_
    refine x_iconst (v := 0) C dX5_worth_124 ic_0 ?_
    refine x_istore (lv' := [(8, .int 0), (7, .int 0), (0, .ref (ad 0)), (1, .int a1), (2, .int a2), (3, .int a3), (4, .int a4), (5, .int a5), (6, .int a6)]) C dX5_worth_125 (by decide) rfl ?_
    refine x_sub (lv' := [(0, .ref (ad 0)), (1, .int a1), (3, .int a3), (4, .int a4), (5, .int a5), (6, .int a6), (7, .int 0), (8, .int 0)]) [2, 3, 5, 6, 7, 8, 1, 0] rfl ?_
    exact wX5_worth_127 hJ C _ _ _ h
  · intro h
    refine x_aload_n C dX5_worth_65 rfl 0 rfl ?_
    obtain ⟨σ1, hv, h⟩ := e_bind h
    refine x_callV_v C (ci := 5) 0 [] (tX5_begin hJ hv) k_3_232 k_3_234 k_p_31 k_1_6 k_3_235 hyX5_begin ⟨rfl, rfl⟩ (by decide) rfl rfl rfl rfl (Nat.le_of_ble_eq_true rfl) dX5_worth_66 ?_
    refine x_aload_n C dX5_worth_69 rfl 0 rfl ?_
    refine fg_5_12 C 0 rfl rfl k_3_21 dX5_worth_70 ?_
    refine x_iconst (v := 2) C dX5_worth_73 ic_2 ?_
    refine x_iload C dX5_worth_74 4 rfl ?_
    refine x_iload C dX5_worth_76 7 rfl ?_
    refine x_iconst (v := (-1)) C dX5_worth_78 ic_m1 ?_
    refine x_ixor C dX5_worth_79 ?_
    refine x_iand C dX5_worth_80 ?_
    refine x_iast_c C 5 0 2 rfl rfl dX5_worth_81 (by decide) (by decide) h rfl ?_
    intro σ2 h
    refine x_aload_n C dX5_worth_82 rfl 0 rfl ?_
    refine fg_5_24 C 0 rfl rfl k_3_33 dX5_worth_83 ?_
    refine x_iload C dX5_worth_86 7 rfl ?_
    refine x_iload C dX5_worth_88 7 rfl ?_
    refine x_iload C dX5_worth_90 5 rfl ?_
    refine x_iconst (v := (-1)) C dX5_worth_92 ic_m1 ?_
    refine x_ixor C dX5_worth_93 ?_
    refine x_iand C dX5_worth_94 ?_
    refine x_if_ne (tgt := 113) C dX5_worth_95 (by decide) h ?_ ?_
    · intro h
      refine x_iconst (v := 0) C dX5_worth_113 ic_0 ?_
      exact wX5_worth_114 hJ C hk58 h
    · intro h
      refine x_aload_n C dX5_worth_98 rfl 0 rfl ?_
      refine x_aload_n C dX5_worth_99 rfl 0 rfl ?_
      refine fg_5_12 C 0 rfl rfl k_3_21 dX5_worth_100 ?_
      refine x_iload_n C dX5_worth_103 rfl 2 rfl ?_
      obtain ⟨w3, hv, h⟩ := e_bind h
      refine x_callV_i C (ci := 5) 0 [.ref (ad 5), .int a2] (tX5_sureAt hJ (Or.inr rfl) hv) k_3_216 k_3_218 k_p_30 k_1_6 k_3_219 hyX5_sureAt ⟨rfl, rfl⟩ (by decide) rfl rfl rfl rfl (Nat.le_of_ble_eq_true rfl) dX5_worth_104 ?_
      obtain ⟨v4, hv, h⟩ := e_bind h
      refine x_callS_i C [.int w3.1] (tX5_bits hJ hv) k_3_236 k_3_237 k_1_6 k_3_238 hyX5_bits.2 ⟨rfl, rfl⟩ (by decide) rfl rfl (Nat.le_of_ble_eq_true rfl) dX5_worth_107 ?_
      refine x_goto (tgt := 114) C dX5_worth_110 (by decide) ?_
      exact wX5_worth_114 hJ C hk58 h
set_option maxRecDepth 100000 in
set_option maxHeartbeats 4000000 in
theorem wX5_worth_0 (hJ : eInj 16 ad) (C : Cx p s m args meth c (dC, dI) (yW cI cZ ad) (yA ad) ExY [(cI, .int), (cZ, .boolean)] cX5_worth 10 RX5 (some .int) yX5_worth) {σ : eSt} {a1 : Int32} {a2 : Int32} {a3 : Int32} {z : Int64} {r : Int32 × eSt} (h : fX5_worth σ a1 a2 a3 = some r) : WX p l e rmX5_worth s m args below meth c (MQ below (cQ (dC, dI) (yW cI cZ ad) (yA ad) (some (.int r.1)) r.2 z) args s 0 0 (yA ad)) (dC, dI) (yW cI cZ ad) (yA ad) 10 σ z [(0, .ref (ad 0)), (1, .int a1), (2, .int a2), (3, .int a3)] 0 [] := by
  unfold fX5_worth at h
  refine x_aload_n C dX5_worth_0 rfl 0 rfl ?_
  refine x_iconst (v := 0) C dX5_worth_1 ic_0 ?_
  refine fp_5_0 C 0 rfl (Nat.le_of_ble_eq_true rfl) k_3_9 h rfl dX5_worth_2 ?_
  intro σ1 h
  refine x_aload_n C dX5_worth_5 rfl 0 rfl ?_
  refine x_iload_n C dX5_worth_6 rfl 1 rfl ?_
  obtain ⟨v2, hv, h⟩ := e_bind h
  refine x_callV_i C (ci := 5) 0 [.int a1] (tX5_noSound hJ hv) k_3_150 k_3_152 k_p_26 k_1_6 k_3_153 hyX5_noSound ⟨rfl, rfl⟩ (by decide) rfl rfl rfl rfl (Nat.le_of_ble_eq_true rfl) dX5_worth_7 ?_
  refine x_if_eq (tgt := 15) C dX5_worth_10 (by decide) h ?_ ?_
  · intro h
    refine x_iload_n C dX5_worth_15 rfl 2 rfl ?_
    obtain ⟨v3, hv, h⟩ := e_bind h
    refine x_callS_i C [.int a2] (tX5_noHour hJ hv) k_3_209 k_3_210 k_1_6 k_3_211 hyX5_noHour.2 ⟨rfl, rfl⟩ (by decide) rfl rfl (Nat.le_of_ble_eq_true rfl) dX5_worth_16 ?_
    refine x_if_eq (tgt := 25) C dX5_worth_19 (by decide) h ?_ ?_
    · intro h
      refine x_iconst (v := 1) C dX5_worth_25 ic_1 ?_
      refine x_aload_n C dX5_worth_26 rfl 0 rfl ?_
      refine fg_5_4 C 0 rfl rfl k_3_13 dX5_worth_27 ?_
      refine x_ishl C dX5_worth_30 ?_
      refine x_iconst (v := 1) C dX5_worth_31 ic_1 ?_
      refine x_isub C dX5_worth_32 ?_
      refine x_istore_b C (fun v4 => [(4, .int v4), (0, .ref (ad 0)), (1, .int a1), (2, .int a2), (3, .int a3)]) dX5_worth_33 (by decide) h (fun _ => rfl) ?_
      intro v4 h
      refine x_iload C dX5_worth_35 0 rfl ?_
      refine x_aload_n C dX5_worth_37 rfl 1 rfl ?_
      refine fg_5_11 C 0 rfl rfl k_3_20 dX5_worth_38 ?_
      refine x_iconst (v := 2) C dX5_worth_41 ic_2 ?_
      refine x_iald_c C 4 0 2 rfl rfl dX5_worth_42 (by decide) (by decide) ?_
      refine x_iconst (v := (-1)) C dX5_worth_43 ic_m1 ?_
      refine x_ixor C dX5_worth_44 ?_
      refine x_iand C dX5_worth_45 ?_
      refine x_istore_b C (fun v5 => [(5, .int v5), (4, .int v4), (0, .ref (ad 0)), (1, .int a1), (2, .int a2), (3, .int a3)]) dX5_worth_46 (by decide) h (fun _ => rfl) ?_
      intro v5 h
      refine x_iload C dX5_worth_48 0 rfl ?_
      obtain ⟨v6, hv, h⟩ := e_bind h
      refine x_callS_i C [.int v5] (tX5_bits hJ hv) k_3_236 k_3_237 k_1_6 k_3_238 hyX5_bits.2 ⟨rfl, rfl⟩ (by decide) rfl rfl (Nat.le_of_ble_eq_true rfl) dX5_worth_50 ?_
      refine x_istore (lv' := [(6, .int v6), (5, .int v5), (4, .int v4), (0, .ref (ad 0)), (1, .int a1), (2, .int a2), (3, .int a3)]) C dX5_worth_53 (by decide) rfl ?_
      refine x_iconst (v := 0) C dX5_worth_55 ic_0 ?_
      refine x_istore (lv' := [(7, .int 0), (6, .int v6), (5, .int v5), (4, .int v4), (0, .ref (ad 0)), (1, .int a1), (2, .int a2), (3, .int a3)]) C dX5_worth_56 (by decide) rfl ?_
      refine x_sub (lv' := [(0, .ref (ad 0)), (1, .int a1), (2, .int a2), (3, .int a3), (4, .int v4), (5, .int v5), (6, .int v6), (7, .int 0)]) [4, 5, 6, 7, 3, 2, 1, 0] rfl ?_
      exact wX5_worth_58 hJ C _ _ _ h
    · intro h
      refine x_bipush (v := (-2)) C dX5_worth_22 bi_m2 ?_
      exact xr_wi C h dX5_worth_24
  · intro h
    refine x_iconst (v := (-1)) C dX5_worth_13 ic_m1 ?_
    exact xr_wi C h dX5_worth_14
set_option maxRecDepth 100000 in
set_option maxHeartbeats 4000000 in
theorem tX5_worth {l : Launch} {dC : Nat → ClassId} {dI : Nat → Nat → Nat} {cI cZ : ClassId} {ad : Nat → Nat} (hJ : eInj 16 ad) {σ : eSt} {a1 : Int32} {a2 : Int32} {a3 : Int32} {z : Int64} {r : Int32 × eSt} (h : fX5_worth σ a1 a2 a3 = some r) : Con l yX5_worth cX5_worth 10 (some .int) rmX5_worth (dC, dI) (yW cI cZ ad) (yA ad) [(cI, .int), (cZ, .boolean)] ExY [.ref (ad 0), .int a1, .int a2, .int a3] σ z (some (.int r.1)) r.2 z :=
  x_con (by decide) (yW_D hJ) (ExY_ok ad) (Nat.le_of_ble_eq_true rfl) (fun p e s m args below meth c C => wX5_worth_0 hJ C h)
set_option maxRecDepth 100000 in
set_option maxHeartbeats 4000000 in
theorem wX5_sureWith_0 (hJ : eInj 16 ad) (C : Cx p s m args meth c (dC, dI) (yW cI cZ ad) (yA ad) ExY [(cI, .int), (cZ, .boolean)] cX5_sureWith 4 RX5 (some .int) yX5_sureWith) {σ : eSt} {a1 : Int32} {a2 : Int32} {a3 : Int32} {z : Int64} {r : Int32 × eSt} (h : fX5_sureWith σ a1 a2 a3 = some r) : WX p l e rmX5_sureWith s m args below meth c (MQ below (cQ (dC, dI) (yW cI cZ ad) (yA ad) (some (.int r.1)) r.2 z) args s 0 0 (yA ad)) (dC, dI) (yW cI cZ ad) (yA ad) 4 σ z [(0, .ref (ad 0)), (1, .int a1), (2, .int a2), (3, .int a3)] 0 [] := by
  unfold fX5_sureWith at h
  refine x_aload_n C dX5_sureWith_0 rfl 0 rfl ?_
  obtain ⟨σ1, hv, h⟩ := e_bind h
  refine x_callV_v C (ci := 5) 0 [] (tX5_begin hJ hv) k_3_232 k_3_234 k_p_31 k_1_6 k_3_235 hyX5_begin ⟨rfl, rfl⟩ (by decide) rfl rfl rfl rfl (Nat.le_of_ble_eq_true rfl) dX5_sureWith_1 ?_
  refine x_aload_n C dX5_sureWith_4 rfl 0 rfl ?_
  refine fg_5_12 C 0 rfl rfl k_3_21 dX5_sureWith_5 ?_
  refine x_iconst (v := 4) C dX5_sureWith_8 ic_4 ?_
  refine x_iload_n C dX5_sureWith_9 rfl 1 rfl ?_
  refine x_iast_c C 5 0 4 rfl rfl dX5_sureWith_10 (by decide) (by decide) h rfl ?_
  intro σ2 h
  refine x_aload_n C dX5_sureWith_11 rfl 0 rfl ?_
  refine fg_5_12 C 0 rfl rfl k_3_21 dX5_sureWith_12 ?_
  refine x_iconst (v := 5) C dX5_sureWith_15 ic_5 ?_
  refine x_iload_n C dX5_sureWith_16 rfl 2 rfl ?_
  refine x_iast_c C 5 0 5 rfl rfl dX5_sureWith_17 (by decide) (by decide) h rfl ?_
  intro σ3 h
  refine x_aload_n C dX5_sureWith_18 rfl 0 rfl ?_
  refine x_aload_n C dX5_sureWith_19 rfl 0 rfl ?_
  refine fg_5_12 C 0 rfl rfl k_3_21 dX5_sureWith_20 ?_
  refine x_iload_n C dX5_sureWith_23 rfl 3 rfl ?_
  obtain ⟨w4, hv, h⟩ := e_bind h
  refine x_callV_i C (ci := 5) 0 [.ref (ad 5), .int a3] (tX5_sureAt hJ (Or.inr rfl) hv) k_3_216 k_3_218 k_p_30 k_1_6 k_3_219 hyX5_sureAt ⟨rfl, rfl⟩ (by decide) rfl rfl rfl rfl (Nat.le_of_ble_eq_true rfl) dX5_sureWith_24 ?_
  obtain ⟨v5, hv, h⟩ := e_bind h
  refine x_callS_i C [.int w4.1] (tX5_bits hJ hv) k_3_236 k_3_237 k_1_6 k_3_238 hyX5_bits.2 ⟨rfl, rfl⟩ (by decide) rfl rfl (Nat.le_of_ble_eq_true rfl) dX5_sureWith_27 ?_
  exact xr_wi C h dX5_sureWith_30
set_option maxRecDepth 100000 in
set_option maxHeartbeats 4000000 in
theorem tX5_sureWith {l : Launch} {dC : Nat → ClassId} {dI : Nat → Nat → Nat} {cI cZ : ClassId} {ad : Nat → Nat} (hJ : eInj 16 ad) {σ : eSt} {a1 : Int32} {a2 : Int32} {a3 : Int32} {z : Int64} {r : Int32 × eSt} (h : fX5_sureWith σ a1 a2 a3 = some r) : Con l yX5_sureWith cX5_sureWith 4 (some .int) rmX5_sureWith (dC, dI) (yW cI cZ ad) (yA ad) [(cI, .int), (cZ, .boolean)] ExY [.ref (ad 0), .int a1, .int a2, .int a3] σ z (some (.int r.1)) r.2 z :=
  x_con (by decide) (yW_D hJ) (ExY_ok ad) (Nat.le_of_ble_eq_true rfl) (fun p e s m args below meth c C => wX5_sureWith_0 hJ C h)
set_option maxRecDepth 100000 in
set_option maxHeartbeats 4000000 in
theorem wX5_findHammers_135 (hJ : eInj 16 ad) (C : Cx p s m args meth c (dC, dI) (yW cI cZ ad) (yA ad) ExY [(cI, .int), (cZ, .boolean)] cX5_findHammers 4 RX5 none yX5_findHammers) {σ : eSt} {a1 : Int32} {a2 : Int32} {a3 : Int32} {z : Int64} {r : eSt} {k82 : Int32 → eSt → Option (eSt)} (hk82 : ∀ (a3 : Int32) (σ : eSt), k82 a3 σ = some r → WX p l e rmX5_findHammers s m args below meth c (MQ below (cQ (dC, dI) (yW cI cZ ad) (yA ad) none r z) args s 0 0 (yA ad)) (dC, dI) (yW cI cZ ad) (yA ad) 4 σ z [(0, .ref (ad 0)), (1, .int a1), (2, .int a2), (3, .int a3)] 82 []) (h : fX5_findHammers_135 k82 σ a1 a2 a3 = some r) : WX p l e rmX5_findHammers s m args below meth c (MQ below (cQ (dC, dI) (yW cI cZ ad) (yA ad) none r z) args s 0 0 (yA ad)) (dC, dI) (yW cI cZ ad) (yA ad) 4 σ z [(0, .ref (ad 0)), (1, .int a1), (2, .int a2), (3, .int a3)] 135 [] := by
  unfold fX5_findHammers_135 at h
  refine x_iinc_b (j := 3) (w := 1) C (fun v1 => [(3, .int v1), (0, .ref (ad 0)), (1, .int a1), (2, .int a2)]) dX5_findHammers_135 ic_1 rfl (by decide) h (fun _ => rfl) ?_
  intro v1 h
  refine x_goto (tgt := 82) C dX5_findHammers_138 (by decide) ?_
  refine x_sub (lv' := [(0, .ref (ad 0)), (1, .int a1), (2, .int a2), (3, .int v1)]) [1, 2, 3, 0] rfl ?_
  exact hk82 _ _ h
set_option maxRecDepth 100000 in
set_option maxHeartbeats 4000000 in
theorem wX5_findHammers_82 (hJ : eInj 16 ad) (C : Cx p s m args meth c (dC, dI) (yW cI cZ ad) (yA ad) ExY [(cI, .int), (cZ, .boolean)] cX5_findHammers 4 RX5 none yX5_findHammers) {a1 : Int32} {a2 : Int32} {z : Int64} {r : eSt} : ∀ (n : Nat) (a3 : Int32) (σ : eSt), lo_2 (bX5_findHammers_82 a1 a2) n a3 σ = some r → WX p l e rmX5_findHammers s m args below meth c (MQ below (cQ (dC, dI) (yW cI cZ ad) (yA ad) none r z) args s 0 0 (yA ad)) (dC, dI) (yW cI cZ ad) (yA ad) 4 σ z [(0, .ref (ad 0)), (1, .int a1), (2, .int a2), (3, .int a3)] 82 [] := by
  refine lo_2_ind (P := fun a3 σ => WX p l e rmX5_findHammers s m args below meth c (MQ below (cQ (dC, dI) (yW cI cZ ad) (yA ad) none r z) args s 0 0 (yA ad)) (dC, dI) (yW cI cZ ad) (yA ad) 4 σ z [(0, .ref (ad 0)), (1, .int a1), (2, .int a2), (3, .int a3)] 82 []) ?_
  intro k82 hk82 a3 σ h
  unfold bX5_findHammers_82 at h
  refine x_iload_n C dX5_findHammers_82 rfl 3 rfl ?_
  refine x_bipush (v := 100) C dX5_findHammers_83 bi_100 ?_
  refine x_icmp_ge (tgt := 141) C dX5_findHammers_85 (by decide) h ?_ ?_
  · intro h
    exact xr_wv C h dX5_findHammers_141
  · intro h
    refine x_aload_n C dX5_findHammers_88 rfl 0 rfl ?_
    refine fg_5_26 C 0 rfl rfl k_3_35 dX5_findHammers_89 ?_
    refine x_bipush (v := (-9)) C dX5_findHammers_92 bi_m9 ?_
    refine x_icmp_ne (tgt := 141) C dX5_findHammers_94 (by decide) h ?_ ?_
    · intro h
      exact xr_wv C h dX5_findHammers_141
    · intro h
      refine x_iload_n C dX5_findHammers_97 rfl 3 rfl ?_
      refine x_bipush (v := 10) C dX5_findHammers_98 bi_10 ?_
      refine x_idiv_c C dX5_findHammers_100 (by decide) ?_
      refine x_iload_n C dX5_findHammers_101 rfl 3 rfl ?_
      refine x_bipush (v := 10) C dX5_findHammers_102 bi_10 ?_
      refine x_irem_c C dX5_findHammers_104 (by decide) ?_
      refine x_icmp_ge (tgt := 135) C dX5_findHammers_105 (by decide) h ?_ ?_
      · intro h
        exact wX5_findHammers_135 hJ C hk82 h
      · intro h
        refine x_aload_n C dX5_findHammers_108 rfl 0 rfl ?_
        refine x_iload_n C dX5_findHammers_109 rfl 3 rfl ?_
        refine x_bipush (v := 10) C dX5_findHammers_110 bi_10 ?_
        refine x_idiv_c C dX5_findHammers_112 (by decide) ?_
        refine x_iload_n C dX5_findHammers_113 rfl 3 rfl ?_
        refine x_bipush (v := 10) C dX5_findHammers_114 bi_10 ?_
        refine x_irem_c C dX5_findHammers_116 (by decide) ?_
        refine x_iload_n C dX5_findHammers_117 rfl 1 rfl ?_
        obtain ⟨w1, hv, h⟩ := e_bind h
        refine x_callV_i C (ci := 5) 0 [.int (a3 / 10), .int (e_rem a3 10), .int a1] (tX5_sureWith hJ hv) k_4_21 k_4_23 k_p_33 k_1_6 k_4_24 hyX5_sureWith ⟨rfl, rfl⟩ (by decide) rfl rfl rfl rfl (Nat.le_of_ble_eq_true rfl) dX5_findHammers_118 ?_
        refine x_iload_n C dX5_findHammers_121 rfl 2 rfl ?_
        refine x_icmp_lt (tgt := 135) C dX5_findHammers_122 (by decide) h ?_ ?_
        · intro h
          exact wX5_findHammers_135 hJ C hk82 h
        · intro h
          refine x_aload_n C dX5_findHammers_125 rfl 0 rfl ?_
          refine x_iconst (v := 2) C dX5_findHammers_126 ic_2 ?_
          refine fp_5_26 C 0 rfl (Nat.le_of_ble_eq_true rfl) k_3_35 h rfl dX5_findHammers_127 ?_
          intro σ2 h
          refine x_aload_n C dX5_findHammers_130 rfl 0 rfl ?_
          refine x_iload_n C dX5_findHammers_131 rfl 3 rfl ?_
          refine fp_5_27 C 0 rfl (Nat.le_of_ble_eq_true rfl) k_3_36 h rfl dX5_findHammers_132 ?_
          intro σ3 h
          exact wX5_findHammers_135 hJ C hk82 h
set_option maxRecDepth 100000 in
set_option maxHeartbeats 4000000 in
theorem wX5_findHammers_80 (hJ : eInj 16 ad) (C : Cx p s m args meth c (dC, dI) (yW cI cZ ad) (yA ad) ExY [(cI, .int), (cZ, .boolean)] cX5_findHammers 4 RX5 none yX5_findHammers) {σ : eSt} {a1 : Int32} {a2 : Int32} {z : Int64} {r : eSt} (h : fX5_findHammers_80 σ a1 a2 = some r) : WX p l e rmX5_findHammers s m args below meth c (MQ below (cQ (dC, dI) (yW cI cZ ad) (yA ad) none r z) args s 0 0 (yA ad)) (dC, dI) (yW cI cZ ad) (yA ad) 4 σ z [(0, .ref (ad 0)), (1, .int a1), (2, .int a2)] 80 [] := by
  unfold fX5_findHammers_80 at h
  refine x_iconst (v := 0) C dX5_findHammers_80 ic_0 ?_
  refine x_istore_n (lv' := [(3, .int 0), (0, .ref (ad 0)), (1, .int a1), (2, .int a2)]) C dX5_findHammers_81 rfl (by decide) rfl ?_
  refine x_sub (lv' := [(0, .ref (ad 0)), (1, .int a1), (2, .int a2), (3, .int 0)]) [1, 2, 3, 0] rfl ?_
  exact wX5_findHammers_82 hJ C _ _ _ h
set_option maxRecDepth 100000 in
set_option maxHeartbeats 4000000 in
theorem wX5_findHammers_74 (hJ : eInj 16 ad) (C : Cx p s m args meth c (dC, dI) (yW cI cZ ad) (yA ad) ExY [(cI, .int), (cZ, .boolean)] cX5_findHammers 4 RX5 none yX5_findHammers) {σ : eSt} {a1 : Int32} {a2 : Int32} {a3 : Int32} {z : Int64} {r : eSt} {k37 : Int32 → eSt → Option (eSt)} (hk37 : ∀ (a3 : Int32) (σ : eSt), k37 a3 σ = some r → WX p l e rmX5_findHammers s m args below meth c (MQ below (cQ (dC, dI) (yW cI cZ ad) (yA ad) none r z) args s 0 0 (yA ad)) (dC, dI) (yW cI cZ ad) (yA ad) 4 σ z [(0, .ref (ad 0)), (1, .int a1), (2, .int a2), (3, .int a3)] 37 []) (h : fX5_findHammers_74 k37 σ a1 a2 a3 = some r) : WX p l e rmX5_findHammers s m args below meth c (MQ below (cQ (dC, dI) (yW cI cZ ad) (yA ad) none r z) args s 0 0 (yA ad)) (dC, dI) (yW cI cZ ad) (yA ad) 4 σ z [(0, .ref (ad 0)), (1, .int a1), (2, .int a2), (3, .int a3)] 74 [] := by
  unfold fX5_findHammers_74 at h
  refine x_iinc_b (j := 3) (w := 1) C (fun v1 => [(3, .int v1), (0, .ref (ad 0)), (1, .int a1), (2, .int a2)]) dX5_findHammers_74 ic_1 rfl (by decide) h (fun _ => rfl) ?_
  intro v1 h
  refine x_goto (tgt := 37) C dX5_findHammers_77 (by decide) ?_
  refine x_sub (lv' := [(0, .ref (ad 0)), (1, .int a1), (2, .int a2), (3, .int v1)]) [1, 2, 3, 0] rfl ?_
  exact hk37 _ _ h
set_option maxRecDepth 100000 in
set_option maxHeartbeats 4000000 in
theorem wX5_findHammers_37 (hJ : eInj 16 ad) (C : Cx p s m args meth c (dC, dI) (yW cI cZ ad) (yA ad) ExY [(cI, .int), (cZ, .boolean)] cX5_findHammers 4 RX5 none yX5_findHammers) {a1 : Int32} {a2 : Int32} {z : Int64} {r : eSt} : ∀ (n : Nat) (a3 : Int32) (σ : eSt), lo_2 (bX5_findHammers_37 a1 a2) n a3 σ = some r → WX p l e rmX5_findHammers s m args below meth c (MQ below (cQ (dC, dI) (yW cI cZ ad) (yA ad) none r z) args s 0 0 (yA ad)) (dC, dI) (yW cI cZ ad) (yA ad) 4 σ z [(0, .ref (ad 0)), (1, .int a1), (2, .int a2), (3, .int a3)] 37 [] := by
  refine lo_2_ind (P := fun a3 σ => WX p l e rmX5_findHammers s m args below meth c (MQ below (cQ (dC, dI) (yW cI cZ ad) (yA ad) none r z) args s 0 0 (yA ad)) (dC, dI) (yW cI cZ ad) (yA ad) 4 σ z [(0, .ref (ad 0)), (1, .int a1), (2, .int a2), (3, .int a3)] 37 []) ?_
  intro k37 hk37 a3 σ h
  unfold bX5_findHammers_37 at h
  refine x_iload_n C dX5_findHammers_37 rfl 3 rfl ?_
  refine x_bipush (v := 10) C dX5_findHammers_38 bi_10 ?_
  refine x_icmp_ge (tgt := 80) C dX5_findHammers_40 (by decide) h ?_ ?_
  · intro h
    refine x_sub (lv' := [(0, .ref (ad 0)), (1, .int a1), (2, .int a2)]) [0, 1, 2] rfl ?_
    exact wX5_findHammers_80 hJ C h
  · intro h
    refine x_aload_n C dX5_findHammers_43 rfl 0 rfl ?_
    refine fg_5_26 C 0 rfl rfl k_3_35 dX5_findHammers_44 ?_
    refine x_bipush (v := (-9)) C dX5_findHammers_47 bi_m9 ?_
    refine x_icmp_ne (tgt := 80) C dX5_findHammers_49 (by decide) h ?_ ?_
    · intro h
      refine x_sub (lv' := [(0, .ref (ad 0)), (1, .int a1), (2, .int a2)]) [0, 1, 2] rfl ?_
      exact wX5_findHammers_80 hJ C h
    · intro h
      refine x_aload_n C dX5_findHammers_52 rfl 0 rfl ?_
      refine x_iload_n C dX5_findHammers_53 rfl 3 rfl ?_
      refine x_bipush (v := (-9)) C dX5_findHammers_54 bi_m9 ?_
      refine x_iload_n C dX5_findHammers_56 rfl 1 rfl ?_
      obtain ⟨w1, hv, h⟩ := e_bind h
      refine x_callV_i C (ci := 5) 0 [.int a3, .int (-9), .int a1] (tX5_sureWith hJ hv) k_4_21 k_4_23 k_p_33 k_1_6 k_4_24 hyX5_sureWith ⟨rfl, rfl⟩ (by decide) rfl rfl rfl rfl (Nat.le_of_ble_eq_true rfl) dX5_findHammers_57 ?_
      refine x_iload_n C dX5_findHammers_60 rfl 2 rfl ?_
      refine x_icmp_lt (tgt := 74) C dX5_findHammers_61 (by decide) h ?_ ?_
      · intro h
        exact wX5_findHammers_74 hJ C hk37 h
      · intro h
        refine x_aload_n C dX5_findHammers_64 rfl 0 rfl ?_
        refine x_iconst (v := 1) C dX5_findHammers_65 ic_1 ?_
        refine fp_5_26 C 0 rfl (Nat.le_of_ble_eq_true rfl) k_3_35 h rfl dX5_findHammers_66 ?_
        intro σ2 h
        refine x_aload_n C dX5_findHammers_69 rfl 0 rfl ?_
        refine x_iload_n C dX5_findHammers_70 rfl 3 rfl ?_
        refine fp_5_27 C 0 rfl (Nat.le_of_ble_eq_true rfl) k_3_36 h rfl dX5_findHammers_71 ?_
        intro σ3 h
        exact wX5_findHammers_74 hJ C hk37 h
set_option maxRecDepth 100000 in
set_option maxHeartbeats 4000000 in
theorem wX5_findHammers_35 (hJ : eInj 16 ad) (C : Cx p s m args meth c (dC, dI) (yW cI cZ ad) (yA ad) ExY [(cI, .int), (cZ, .boolean)] cX5_findHammers 4 RX5 none yX5_findHammers) {σ : eSt} {a1 : Int32} {a2 : Int32} {z : Int64} {r : eSt} (h : fX5_findHammers_35 σ a1 a2 = some r) : WX p l e rmX5_findHammers s m args below meth c (MQ below (cQ (dC, dI) (yW cI cZ ad) (yA ad) none r z) args s 0 0 (yA ad)) (dC, dI) (yW cI cZ ad) (yA ad) 4 σ z [(0, .ref (ad 0)), (1, .int a1), (2, .int a2)] 35 [] := by
  unfold fX5_findHammers_35 at h
  refine x_iconst (v := 0) C dX5_findHammers_35 ic_0 ?_
  refine x_istore_n (lv' := [(3, .int 0), (0, .ref (ad 0)), (1, .int a1), (2, .int a2)]) C dX5_findHammers_36 rfl (by decide) rfl ?_
  refine x_sub (lv' := [(0, .ref (ad 0)), (1, .int a1), (2, .int a2), (3, .int 0)]) [1, 2, 3, 0] rfl ?_
  exact wX5_findHammers_37 hJ C _ _ _ h
set_option maxRecDepth 100000 in
set_option maxHeartbeats 4000000 in
theorem wX5_findHammers_0 (hJ : eInj 16 ad) (C : Cx p s m args meth c (dC, dI) (yW cI cZ ad) (yA ad) ExY [(cI, .int), (cZ, .boolean)] cX5_findHammers 4 RX5 none yX5_findHammers) {σ : eSt} {a1 : Int32} {a2 : Int32} {z : Int64} {r : eSt} (h : fX5_findHammers σ a1 a2 = some r) : WX p l e rmX5_findHammers s m args below meth c (MQ below (cQ (dC, dI) (yW cI cZ ad) (yA ad) none r z) args s 0 0 (yA ad)) (dC, dI) (yW cI cZ ad) (yA ad) 4 σ z [(0, .ref (ad 0)), (1, .int a1), (2, .int a2)] 0 [] := by
  unfold fX5_findHammers at h
  refine x_aload_n C dX5_findHammers_0 rfl 0 rfl ?_
  refine x_bipush (v := (-9)) C dX5_findHammers_1 bi_m9 ?_
  refine fp_5_26 C 0 rfl (Nat.le_of_ble_eq_true rfl) k_3_35 h rfl dX5_findHammers_3 ?_
  intro σ1 h
  refine x_aload_n C dX5_findHammers_6 rfl 0 rfl ?_
  refine x_bipush (v := (-9)) C dX5_findHammers_7 bi_m9 ?_
  refine fp_5_27 C 0 rfl (Nat.le_of_ble_eq_true rfl) k_3_36 h rfl dX5_findHammers_9 ?_
  intro σ2 h
  refine x_aload_n C dX5_findHammers_12 rfl 0 rfl ?_
  refine x_bipush (v := (-9)) C dX5_findHammers_13 bi_m9 ?_
  refine x_bipush (v := (-9)) C dX5_findHammers_15 bi_m9 ?_
  refine x_iload_n C dX5_findHammers_17 rfl 1 rfl ?_
  obtain ⟨w3, hv, h⟩ := e_bind h
  refine x_callV_i C (ci := 5) 0 [.int (-9), .int (-9), .int a1] (tX5_sureWith hJ hv) k_4_21 k_4_23 k_p_33 k_1_6 k_4_24 hyX5_sureWith ⟨rfl, rfl⟩ (by decide) rfl rfl rfl rfl (Nat.le_of_ble_eq_true rfl) dX5_findHammers_18 ?_
  refine x_iload_n C dX5_findHammers_21 rfl 2 rfl ?_
  refine x_icmp_lt (tgt := 35) C dX5_findHammers_22 (by decide) h ?_ ?_
  · intro h
    exact wX5_findHammers_35 hJ C h
  · intro h
    refine x_aload_n C dX5_findHammers_25 rfl 0 rfl ?_
    refine x_iconst (v := 0) C dX5_findHammers_26 ic_0 ?_
    refine fp_5_26 C 0 rfl (Nat.le_of_ble_eq_true rfl) k_3_35 h rfl dX5_findHammers_27 ?_
    intro σ4 h
    refine x_aload_n C dX5_findHammers_30 rfl 0 rfl ?_
    refine x_iconst (v := 0) C dX5_findHammers_31 ic_0 ?_
    refine fp_5_27 C 0 rfl (Nat.le_of_ble_eq_true rfl) k_3_36 h rfl dX5_findHammers_32 ?_
    intro σ5 h
    exact wX5_findHammers_35 hJ C h
set_option maxRecDepth 100000 in
set_option maxHeartbeats 4000000 in
theorem tX5_findHammers {l : Launch} {dC : Nat → ClassId} {dI : Nat → Nat → Nat} {cI cZ : ClassId} {ad : Nat → Nat} (hJ : eInj 16 ad) {σ : eSt} {a1 : Int32} {a2 : Int32} {z : Int64} {r : eSt} (h : fX5_findHammers σ a1 a2 = some r) : Con l yX5_findHammers cX5_findHammers 4 none rmX5_findHammers (dC, dI) (yW cI cZ ad) (yA ad) [(cI, .int), (cZ, .boolean)] ExY [.ref (ad 0), .int a1, .int a2] σ z none r z :=
  x_con (by decide) (yW_D hJ) (ExY_ok ad) (Nat.le_of_ble_eq_true rfl) (fun p e s m args below meth c C => wX5_findHammers_0 hJ C h)
set_option maxRecDepth 100000 in
set_option maxHeartbeats 4000000 in
theorem wX5_hammers_0 (hJ : eInj 16 ad) (C : Cx p s m args meth c (dC, dI) (yW cI cZ ad) (yA ad) ExY [(cI, .int), (cZ, .boolean)] cX5_hammers 4 RX5 (some .int) yX5_hammers) {σ : eSt} {a1 : Int32} {a2 : Int32} {a3 : Int32} {z : Int64} {r : Int32 × eSt} (h : fX5_hammers σ a1 a2 a3 = some r) : WX p l e rmX5_hammers s m args below meth c (MQ below (cQ (dC, dI) (yW cI cZ ad) (yA ad) (some (.int r.1)) r.2 z) args s 0 0 (yA ad)) (dC, dI) (yW cI cZ ad) (yA ad) 4 σ z [(0, .ref (ad 0)), (1, .int a1), (2, .int a2), (3, .int a3)] 0 [] := by
  unfold fX5_hammers at h
  refine x_aload_n C dX5_hammers_0 rfl 0 rfl ?_
  refine x_iconst (v := 0) C dX5_hammers_1 ic_0 ?_
  refine fp_5_0 C 0 rfl (Nat.le_of_ble_eq_true rfl) k_3_9 h rfl dX5_hammers_2 ?_
  intro σ1 h
  refine x_iload_n C dX5_hammers_5 rfl 1 rfl ?_
  obtain ⟨v2, hv, h⟩ := e_bind h
  refine x_callS_i C [.int a1] (tX5_noHour hJ hv) k_3_209 k_3_210 k_1_6 k_3_211 hyX5_noHour.2 ⟨rfl, rfl⟩ (by decide) rfl rfl (Nat.le_of_ble_eq_true rfl) dX5_hammers_6 ?_
  refine x_if_ne (tgt := 34) C dX5_hammers_9 (by decide) h ?_ ?_
  · intro h
    refine x_bipush (v := (-2)) C dX5_hammers_34 bi_m2 ?_
    exact xr_wi C h dX5_hammers_36
  · intro h
    refine x_iload_n C dX5_hammers_12 rfl 2 rfl ?_
    refine x_i2l C dX5_hammers_13 ?_
    refine x_lconst (v := 1) C dX5_hammers_14 rfl ?_
    refine x_ldc2 (v := 10) C dX5_hammers_15 k_4_16 ?_
    obtain ⟨v3, hv, h⟩ := e_bind h
    refine x_callS_i C [.long (a2.toInt64), .long 1, .long 10] (tX5_in hJ hv) k_3_111 k_3_112 k_1_6 k_3_113 hyX5_in.2 ⟨rfl, rfl⟩ (by decide) rfl rfl (Nat.le_of_ble_eq_true rfl) dX5_hammers_18 ?_
    refine x_if_eq (tgt := 34) C dX5_hammers_21 (by decide) h ?_ ?_
    · intro h
      refine x_bipush (v := (-2)) C dX5_hammers_34 bi_m2 ?_
      exact xr_wi C h dX5_hammers_36
    · intro h
      refine x_iload_n C dX5_hammers_24 rfl 3 rfl ?_
      refine x_i2l C dX5_hammers_25 ?_
      refine x_lconst (v := 0) C dX5_hammers_26 rfl ?_
      refine x_lconst (v := 1) C dX5_hammers_27 rfl ?_
      obtain ⟨v4, hv, h⟩ := e_bind h
      refine x_callS_i C [.long (a3.toInt64), .long 0, .long 1] (tX5_in hJ hv) k_3_111 k_3_112 k_1_6 k_3_113 hyX5_in.2 ⟨rfl, rfl⟩ (by decide) rfl rfl (Nat.le_of_ble_eq_true rfl) dX5_hammers_28 ?_
      refine x_if_ne (tgt := 37) C dX5_hammers_31 (by decide) h ?_ ?_
      · intro h
        refine x_aload_n C dX5_hammers_37 rfl 0 rfl ?_
        refine x_iload_n C dX5_hammers_38 rfl 1 rfl ?_
        refine x_iload_n C dX5_hammers_39 rfl 2 rfl ?_
        obtain ⟨σ5, hv, h⟩ := e_bind h
        refine x_callV_v C (ci := 5) 0 [.int a1, .int a2] (tX5_findHammers hJ hv) k_4_17 k_4_19 k_p_32 k_1_6 k_4_20 hyX5_findHammers ⟨rfl, rfl⟩ (by decide) rfl rfl rfl rfl (Nat.le_of_ble_eq_true rfl) dX5_hammers_40 ?_
        refine x_iload_n C dX5_hammers_43 rfl 3 rfl ?_
        refine x_if_ne (tgt := 54) C dX5_hammers_44 (by decide) h ?_ ?_
        · intro h
          refine x_aload_n C dX5_hammers_54 rfl 0 rfl ?_
          refine fg_5_27 C 0 rfl rfl k_3_36 dX5_hammers_55 ?_
          exact xr_wi C h dX5_hammers_58
        · intro h
          refine x_aload_n C dX5_hammers_47 rfl 0 rfl ?_
          refine fg_5_26 C 0 rfl rfl k_3_35 dX5_hammers_48 ?_
          refine x_goto (tgt := 58) C dX5_hammers_51 (by decide) ?_
          exact xr_wi C h dX5_hammers_58
      · intro h
        refine x_bipush (v := (-2)) C dX5_hammers_34 bi_m2 ?_
        exact xr_wi C h dX5_hammers_36
set_option maxRecDepth 100000 in
set_option maxHeartbeats 4000000 in
theorem tX5_hammers {l : Launch} {dC : Nat → ClassId} {dI : Nat → Nat → Nat} {cI cZ : ClassId} {ad : Nat → Nat} (hJ : eInj 16 ad) {σ : eSt} {a1 : Int32} {a2 : Int32} {a3 : Int32} {z : Int64} {r : Int32 × eSt} (h : fX5_hammers σ a1 a2 a3 = some r) : Con l yX5_hammers cX5_hammers 4 (some .int) rmX5_hammers (dC, dI) (yW cI cZ ad) (yA ad) [(cI, .int), (cZ, .boolean)] ExY [.ref (ad 0), .int a1, .int a2, .int a3] σ z (some (.int r.1)) r.2 z :=
  x_con (by decide) (yW_D hJ) (ExY_ok ad) (Nat.le_of_ble_eq_true rfl) (fun p e s m args below meth c C => wX5_hammers_0 hJ C h)
end WK

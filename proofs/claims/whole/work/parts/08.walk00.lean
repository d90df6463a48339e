section WK
variable {p : Program} {l : Launch} {e : Env} {s : State} {m : MethodId} {args : Array Value} {below : List Frame} {meth : Method} {c : Code} {dC : Nat → ClassId} {dI : Nat → Nat → Nat} {cI cZ : ClassId} {ad : Nat → Nat}
set_option maxRecDepth 100000 in
set_option maxHeartbeats 4000000 in
theorem wX0_begin_0 (hJ : eInj 21 ad) (C : Cx p s m args meth c (dC, dI) (xW cI cZ ad) (xA ad) (ExX ad) [(cI, .int), (cZ, .boolean)] cX0_begin 4 RX0 none yX0_begin) {σ : eSt} {a1 : Int32} {a2 : Int32} {a3 : Int32} {z : Int64} {r : eSt} (h : fX0_begin σ a1 a2 a3 = some r) : WX p l e rmX0_begin s m args below meth c (MQ below (cQ (dC, dI) (xW cI cZ ad) (xA ad) none r z) args s 0 0 (xA ad)) (dC, dI) (xW cI cZ ad) (xA ad) 4 σ z [(0, .ref (ad 9)), (1, .int a1), (2, .int a2), (3, .int a3)] 0 [] := by
  unfold fX0_begin at h
  refine x_aload_n C dX0_begin_0 rfl 0 rfl ?_
  refine x_iload_n C dX0_begin_1 rfl 1 rfl ?_
  refine fp_0_0 C 9 rfl (Nat.le_of_ble_eq_true rfl) k_1_70 h rfl dX0_begin_2 ?_
  intro σ1 h
  refine x_aload_n C dX0_begin_5 rfl 0 rfl ?_
  refine x_iconst (v := 0) C dX0_begin_6 ic_0 ?_
  refine fp_0_1 C 9 rfl (Nat.le_of_ble_eq_true rfl) k_1_72 h rfl dX0_begin_7 ?_
  intro σ2 h
  refine x_aload_n C dX0_begin_10 rfl 0 rfl ?_
  refine x_iconst (v := 0) C dX0_begin_11 ic_0 ?_
  refine fp_0_2 C 9 rfl (Nat.le_of_ble_eq_true rfl) k_1_74 h rfl dX0_begin_12 ?_
  intro σ3 h
  refine x_aload_n C dX0_begin_15 rfl 0 rfl ?_
  refine x_bipush (v := 10) C dX0_begin_16 bi_10 ?_
  refine fp_0_3 C 9 rfl (Nat.le_of_ble_eq_true rfl) k_1_76 h rfl dX0_begin_18 ?_
  intro σ4 h
  refine x_aload_n C dX0_begin_21 rfl 0 rfl ?_
  refine x_bipush (v := 10) C dX0_begin_22 bi_10 ?_
  refine fp_0_4 C 9 rfl (Nat.le_of_ble_eq_true rfl) k_1_78 h rfl dX0_begin_24 ?_
  intro σ5 h
  refine x_aload_n C dX0_begin_27 rfl 0 rfl ?_
  refine x_iload_n C dX0_begin_28 rfl 2 rfl ?_
  refine fp_0_5 C 9 rfl (Nat.le_of_ble_eq_true rfl) k_1_80 h rfl dX0_begin_29 ?_
  intro σ6 h
  refine x_aload_n C dX0_begin_32 rfl 0 rfl ?_
  refine x_iload_n C dX0_begin_33 rfl 3 rfl ?_
  refine fp_0_6 C 9 rfl (Nat.le_of_ble_eq_true rfl) k_1_82 h rfl dX0_begin_34 ?_
  intro σ7 h
  exact xr_wv C h dX0_begin_37
set_option maxRecDepth 100000 in
set_option maxHeartbeats 4000000 in
theorem tX0_begin {l : Launch} {dC : Nat → ClassId} {dI : Nat → Nat → Nat} {cI cZ : ClassId} {ad : Nat → Nat} (hJ : eInj 21 ad) {σ : eSt} {a1 : Int32} {a2 : Int32} {a3 : Int32} {z : Int64} {r : eSt} (h : fX0_begin σ a1 a2 a3 = some r) : Con l yX0_begin cX0_begin 4 none rmX0_begin (dC, dI) (xW cI cZ ad) (xA ad) [(cI, .int), (cZ, .boolean)] (ExX ad) [.ref (ad 9), .int a1, .int a2, .int a3] σ z none r z :=
  x_con (by decide) (xW_D hJ) (ExX_ok ad) (Nat.le_of_ble_eq_true rfl) (fun p e s m args below meth c C => wX0_begin_0 hJ C h)
set_option maxRecDepth 100000 in
set_option maxHeartbeats 4000000 in
theorem wX0_hammerCount_14 (hJ : eInj 21 ad) (C : Cx p s m args meth c (dC, dI) (xW cI cZ ad) (xA ad) (ExX ad) [(cI, .int), (cZ, .boolean)] cX0_hammerCount 1 RX0 (some .int) yX0_hammerCount) {σ : eSt} {s0 : Int32} {z : Int64} {r : Int32} (h : fX0_hammerCount_14 σ s0 = some r) : WX p l e rmX0_hammerCount s m args below meth c (MQ below (cQ (dC, dI) (xW cI cZ ad) (xA ad) (some (.int r)) σ z) args s 0 0 (xA ad)) (dC, dI) (xW cI cZ ad) (xA ad) 1 σ z [(0, .ref (ad 9))] 14 [.int s0] := by
  unfold fX0_hammerCount_14 at h
  refine x_aload_n C dX0_hammerCount_14 rfl 0 rfl ?_
  refine fg_0_4 C 9 rfl rfl k_1_78 dX0_hammerCount_15 ?_
  refine x_bipush (v := 10) C dX0_hammerCount_18 bi_10 ?_
  refine x_icmp_ne (tgt := 27) C dX0_hammerCount_20 (by decide) h ?_ ?_
  · intro h
    refine x_iconst (v := 1) C dX0_hammerCount_27 ic_1 ?_
    refine x_iadd C dX0_hammerCount_28 ?_
    exact xr_i C h dX0_hammerCount_29
  · intro h
    refine x_iconst (v := 0) C dX0_hammerCount_23 ic_0 ?_
    refine x_goto (tgt := 28) C dX0_hammerCount_24 (by decide) ?_
    refine x_iadd C dX0_hammerCount_28 ?_
    exact xr_i C h dX0_hammerCount_29
set_option maxRecDepth 100000 in
set_option maxHeartbeats 4000000 in
theorem wX0_hammerCount_0 (hJ : eInj 21 ad) (C : Cx p s m args meth c (dC, dI) (xW cI cZ ad) (xA ad) (ExX ad) [(cI, .int), (cZ, .boolean)] cX0_hammerCount 1 RX0 (some .int) yX0_hammerCount) {σ : eSt} {z : Int64} {r : Int32} (h : fX0_hammerCount σ = some r) : WX p l e rmX0_hammerCount s m args below meth c (MQ below (cQ (dC, dI) (xW cI cZ ad) (xA ad) (some (.int r)) σ z) args s 0 0 (xA ad)) (dC, dI) (xW cI cZ ad) (xA ad) 1 σ z [(0, .ref (ad 9))] 0 [] := by
  unfold fX0_hammerCount at h
  refine x_aload_n C dX0_hammerCount_0 rfl 0 rfl ?_
  refine fg_0_3 C 9 rfl rfl k_1_76 dX0_hammerCount_1 ?_
  refine x_bipush (v := 10) C dX0_hammerCount_4 bi_10 ?_
  refine x_icmp_ne (tgt := 13) C dX0_hammerCount_6 (by decide) h ?_ ?_
  · intro h
    refine x_iconst (v := 1) C dX0_hammerCount_13 ic_1 ?_
    exact wX0_hammerCount_14 hJ C h
  · intro h
    refine x_iconst (v := 0) C dX0_hammerCount_9 ic_0 ?_
    refine x_goto (tgt := 14) C dX0_hammerCount_10 (by decide) ?_
    exact wX0_hammerCount_14 hJ C h
set_option maxRecDepth 100000 in
set_option maxHeartbeats 4000000 in
theorem tX0_hammerCount {l : Launch} {dC : Nat → ClassId} {dI : Nat → Nat → Nat} {cI cZ : ClassId} {ad : Nat → Nat} (hJ : eInj 21 ad) {σ : eSt} {z : Int64} {r : Int32} (h : fX0_hammerCount σ = some r) : Con l yX0_hammerCount cX0_hammerCount 1 (some .int) rmX0_hammerCount (dC, dI) (xW cI cZ ad) (xA ad) [(cI, .int), (cZ, .boolean)] (ExX ad) [.ref (ad 9)] σ z (some (.int r)) σ z :=
  x_con (by decide) (xW_D hJ) (ExX_ok ad) (Nat.le_of_ble_eq_true rfl) (fun p e s m args below meth c C => wX0_hammerCount_0 hJ C h)
set_option maxRecDepth 100000 in
set_option maxHeartbeats 4000000 in
theorem wX0_putHammer_0 (hJ : eInj 21 ad) (C : Cx p s m args meth c (dC, dI) (xW cI cZ ad) (xA ad) (ExX ad) [(cI, .int), (cZ, .boolean)] cX0_putHammer 2 RX0 none yX0_putHammer) {σ : eSt} {a1 : Int32} {z : Int64} {r : eSt} (h : fX0_putHammer σ a1 = some r) : WX p l e rmX0_putHammer s m args below meth c (MQ below (cQ (dC, dI) (xW cI cZ ad) (xA ad) none r z) args s 0 0 (xA ad)) (dC, dI) (xW cI cZ ad) (xA ad) 2 σ z [(0, .ref (ad 9)), (1, .int a1)] 0 [] := by
  unfold fX0_putHammer at h
  refine x_aload_n C dX0_putHammer_0 rfl 0 rfl ?_
  refine fg_0_3 C 9 rfl rfl k_1_76 dX0_putHammer_1 ?_
  refine x_bipush (v := 10) C dX0_putHammer_4 bi_10 ?_
  refine x_icmp_ne (tgt := 17) C dX0_putHammer_6 (by decide) h ?_ ?_
  · intro h
    refine x_aload_n C dX0_putHammer_17 rfl 0 rfl ?_
    refine x_iload_n C dX0_putHammer_18 rfl 1 rfl ?_
    refine fp_0_4 C 9 rfl (Nat.le_of_ble_eq_true rfl) k_1_78 h rfl dX0_putHammer_19 ?_
    intro σ1 h
    exact xr_wv C h dX0_putHammer_22
  · intro h
    refine x_aload_n C dX0_putHammer_9 rfl 0 rfl ?_
    refine x_iload_n C dX0_putHammer_10 rfl 1 rfl ?_
    refine fp_0_3 C 9 rfl (Nat.le_of_ble_eq_true rfl) k_1_76 h rfl dX0_putHammer_11 ?_
    intro σ2 h
    refine x_goto (tgt := 22) C dX0_putHammer_14 (by decide) ?_
    exact xr_wv C h dX0_putHammer_22
set_option maxRecDepth 100000 in
set_option maxHeartbeats 4000000 in
theorem tX0_putHammer {l : Launch} {dC : Nat → ClassId} {dI : Nat → Nat → Nat} {cI cZ : ClassId} {ad : Nat → Nat} (hJ : eInj 21 ad) {σ : eSt} {a1 : Int32} {z : Int64} {r : eSt} (h : fX0_putHammer σ a1 = some r) : Con l yX0_putHammer cX0_putHammer 2 none rmX0_putHammer (dC, dI) (xW cI cZ ad) (xA ad) [(cI, .int), (cZ, .boolean)] (ExX ad) [.ref (ad 9), .int a1] σ z none r z :=
  x_con (by decide) (xW_D hJ) (ExX_ok ad) (Nat.le_of_ble_eq_true rfl) (fun p e s m args below meth c C => wX0_putHammer_0 hJ C h)
set_option maxRecDepth 100000 in
set_option maxHeartbeats 4000000 in
theorem wX0_takeHammer_16 (hJ : eInj 21 ad) (C : Cx p s m args meth c (dC, dI) (xW cI cZ ad) (xA ad) (ExX ad) [(cI, .int), (cZ, .boolean)] cX0_takeHammer 2 RX0 none yX0_takeHammer) {σ : eSt} {z : Int64} {r : eSt} (h : fX0_takeHammer_16 σ = some r) : WX p l e rmX0_takeHammer s m args below meth c (MQ below (cQ (dC, dI) (xW cI cZ ad) (xA ad) none r z) args s 0 0 (xA ad)) (dC, dI) (xW cI cZ ad) (xA ad) 2 σ z [(0, .ref (ad 9))] 16 [] := by
  unfold fX0_takeHammer_16 at h
  refine x_aload_n C dX0_takeHammer_16 rfl 0 rfl ?_
  refine x_bipush (v := 10) C dX0_takeHammer_17 bi_10 ?_
  refine fp_0_4 C 9 rfl (Nat.le_of_ble_eq_true rfl) k_1_78 h rfl dX0_takeHammer_19 ?_
  intro σ1 h
  exact xr_wv C h dX0_takeHammer_22
set_option maxRecDepth 100000 in
set_option maxHeartbeats 4000000 in
theorem wX0_takeHammer_0 (hJ : eInj 21 ad) (C : Cx p s m args meth c (dC, dI) (xW cI cZ ad) (xA ad) (ExX ad) [(cI, .int), (cZ, .boolean)] cX0_takeHammer 2 RX0 none yX0_takeHammer) {σ : eSt} {a1 : Int32} {z : Int64} {r : eSt} (h : fX0_takeHammer σ a1 = some r) : WX p l e rmX0_takeHammer s m args below meth c (MQ below (cQ (dC, dI) (xW cI cZ ad) (xA ad) none r z) args s 0 0 (xA ad)) (dC, dI) (xW cI cZ ad) (xA ad) 2 σ z [(0, .ref (ad 9)), (1, .int a1)] 0 [] := by
  unfold fX0_takeHammer at h
  refine x_aload_n C dX0_takeHammer_0 rfl 0 rfl ?_
  refine fg_0_3 C 9 rfl rfl k_1_76 dX0_takeHammer_1 ?_
  refine x_iload_n C dX0_takeHammer_4 rfl 1 rfl ?_
  refine x_icmp_ne (tgt := 16) C dX0_takeHammer_5 (by decide) h ?_ ?_
  · intro h
    refine x_sub (lv' := [(0, .ref (ad 9))]) [0] rfl ?_
    exact wX0_takeHammer_16 hJ C h
  · intro h
    refine x_aload_n C dX0_takeHammer_8 rfl 0 rfl ?_
    refine x_aload_n C dX0_takeHammer_9 rfl 0 rfl ?_
    refine fg_0_4 C 9 rfl rfl k_1_78 dX0_takeHammer_10 ?_
    refine fp_0_3 C 9 rfl (Nat.le_of_ble_eq_true rfl) k_1_76 h rfl dX0_takeHammer_13 ?_
    intro σ1 h
    refine x_sub (lv' := [(0, .ref (ad 9))]) [0] rfl ?_
    exact wX0_takeHammer_16 hJ C h
set_option maxRecDepth 100000 in
set_option maxHeartbeats 4000000 in
theorem tX0_takeHammer {l : Launch} {dC : Nat → ClassId} {dI : Nat → Nat → Nat} {cI cZ : ClassId} {ad : Nat → Nat} (hJ : eInj 21 ad) {σ : eSt} {a1 : Int32} {z : Int64} {r : eSt} (h : fX0_takeHammer σ a1 = some r) : Con l yX0_takeHammer cX0_takeHammer 2 none rmX0_takeHammer (dC, dI) (xW cI cZ ad) (xA ad) [(cI, .int), (cZ, .boolean)] (ExX ad) [.ref (ad 9), .int a1] σ z none r z :=
  x_con (by decide) (xW_D hJ) (ExX_ok ad) (Nat.le_of_ble_eq_true rfl) (fun p e s m args below meth c C => wX0_takeHammer_0 hJ C h)
set_option maxRecDepth 100000 in
set_option maxHeartbeats 4000000 in
theorem wX0_packed_0 (hJ : eInj 21 ad) (C : Cx p s m args meth c (dC, dI) (xW cI cZ ad) (xA ad) (ExX ad) [(cI, .int), (cZ, .boolean)] cX0_packed 1 RX0 (some .int) yX0_packed) {σ : eSt} {z : Int64} {r : Int32} (h : fX0_packed σ = some r) : WX p l e rmX0_packed s m args below meth c (MQ below (cQ (dC, dI) (xW cI cZ ad) (xA ad) (some (.int r)) σ z) args s 0 0 (xA ad)) (dC, dI) (xW cI cZ ad) (xA ad) 1 σ z [(0, .ref (ad 9))] 0 [] := by
  unfold fX0_packed at h
  refine x_aload_n C dX0_packed_0 rfl 0 rfl ?_
  refine fg_0_0 C 9 rfl rfl k_1_70 dX0_packed_1 ?_
  refine x_aload_n C dX0_packed_4 rfl 0 rfl ?_
  refine fg_0_1 C 9 rfl rfl k_1_72 dX0_packed_5 ?_
  refine x_iconst (v := 4) C dX0_packed_8 ic_4 ?_
  refine x_ishl C dX0_packed_9 ?_
  refine x_ior C dX0_packed_10 ?_
  refine x_aload_n C dX0_packed_11 rfl 0 rfl ?_
  refine fg_0_2 C 9 rfl rfl k_1_74 dX0_packed_12 ?_
  refine x_bipush (v := 8) C dX0_packed_15 bi_8 ?_
  refine x_ishl C dX0_packed_17 ?_
  refine x_ior C dX0_packed_18 ?_
  refine x_aload_n C dX0_packed_19 rfl 0 rfl ?_
  refine fg_0_3 C 9 rfl rfl k_1_76 dX0_packed_20 ?_
  refine x_bipush (v := 14) C dX0_packed_23 bi_14 ?_
  refine x_ishl C dX0_packed_25 ?_
  refine x_ior C dX0_packed_26 ?_
  refine x_aload_n C dX0_packed_27 rfl 0 rfl ?_
  refine fg_0_4 C 9 rfl rfl k_1_78 dX0_packed_28 ?_
  refine x_bipush (v := 18) C dX0_packed_31 bi_18 ?_
  refine x_ishl C dX0_packed_33 ?_
  refine x_ior C dX0_packed_34 ?_
  refine x_aload_n C dX0_packed_35 rfl 0 rfl ?_
  refine fg_0_5 C 9 rfl rfl k_1_80 dX0_packed_36 ?_
  refine x_bipush (v := 22) C dX0_packed_39 bi_22 ?_
  refine x_ishl C dX0_packed_41 ?_
  refine x_ior C dX0_packed_42 ?_
  refine x_aload_n C dX0_packed_43 rfl 0 rfl ?_
  refine fg_0_6 C 9 rfl rfl k_1_82 dX0_packed_44 ?_
  refine x_bipush (v := 25) C dX0_packed_47 bi_25 ?_
  refine x_ishl C dX0_packed_49 ?_
  refine x_ior C dX0_packed_50 ?_
  exact xr_i C h dX0_packed_51
set_option maxRecDepth 100000 in
set_option maxHeartbeats 4000000 in
theorem tX0_packed {l : Launch} {dC : Nat → ClassId} {dI : Nat → Nat → Nat} {cI cZ : ClassId} {ad : Nat → Nat} (hJ : eInj 21 ad) {σ : eSt} {z : Int64} {r : Int32} (h : fX0_packed σ = some r) : Con l yX0_packed cX0_packed 1 (some .int) rmX0_packed (dC, dI) (xW cI cZ ad) (xA ad) [(cI, .int), (cZ, .boolean)] (ExX ad) [.ref (ad 9)] σ z (some (.int r)) σ z :=
  x_con (by decide) (xW_D hJ) (ExX_ok ad) (Nat.le_of_ble_eq_true rfl) (fun p e s m args below meth c C => wX0_packed_0 hJ C h)
set_option maxRecDepth 100000 in
set_option maxHeartbeats 4000000 in
theorem wX0_unpack_0 (hJ : eInj 21 ad) (C : Cx p s m args meth c (dC, dI) (xW cI cZ ad) (xA ad) (ExX ad) [(cI, .int), (cZ, .boolean)] cX0_unpack 2 RX0 none yX0_unpack) {σ : eSt} {a1 : Int32} {z : Int64} {r : eSt} (h : fX0_unpack σ a1 = some r) : WX p l e rmX0_unpack s m args below meth c (MQ below (cQ (dC, dI) (xW cI cZ ad) (xA ad) none r z) args s 0 0 (xA ad)) (dC, dI) (xW cI cZ ad) (xA ad) 2 σ z [(0, .ref (ad 9)), (1, .int a1)] 0 [] := by
  unfold fX0_unpack at h
  refine x_aload_n C dX0_unpack_0 rfl 0 rfl ?_
  refine x_iload_n C dX0_unpack_1 rfl 1 rfl ?_
  refine x_bipush (v := 15) C dX0_unpack_2 bi_15 ?_
  refine x_iand C dX0_unpack_4 ?_
  refine fp_0_0 C 9 rfl (Nat.le_of_ble_eq_true rfl) k_1_70 h rfl dX0_unpack_5 ?_
  intro σ1 h
  refine x_aload_n C dX0_unpack_8 rfl 0 rfl ?_
  refine x_iload_n C dX0_unpack_9 rfl 1 rfl ?_
  refine x_iconst (v := 4) C dX0_unpack_10 ic_4 ?_
  refine x_ishr C dX0_unpack_11 ?_
  refine x_bipush (v := 15) C dX0_unpack_12 bi_15 ?_
  refine x_iand C dX0_unpack_14 ?_
  refine fp_0_1 C 9 rfl (Nat.le_of_ble_eq_true rfl) k_1_72 h rfl dX0_unpack_15 ?_
  intro σ2 h
  refine x_aload_n C dX0_unpack_18 rfl 0 rfl ?_
  refine x_iload_n C dX0_unpack_19 rfl 1 rfl ?_
  refine x_bipush (v := 8) C dX0_unpack_20 bi_8 ?_
  refine x_ishr C dX0_unpack_22 ?_
  refine x_bipush (v := 63) C dX0_unpack_23 bi_63 ?_
  refine x_iand C dX0_unpack_25 ?_
  refine fp_0_2 C 9 rfl (Nat.le_of_ble_eq_true rfl) k_1_74 h rfl dX0_unpack_26 ?_
  intro σ3 h
  refine x_aload_n C dX0_unpack_29 rfl 0 rfl ?_
  refine x_iload_n C dX0_unpack_30 rfl 1 rfl ?_
  refine x_bipush (v := 14) C dX0_unpack_31 bi_14 ?_
  refine x_ishr C dX0_unpack_33 ?_
  refine x_bipush (v := 15) C dX0_unpack_34 bi_15 ?_
  refine x_iand C dX0_unpack_36 ?_
  refine fp_0_3 C 9 rfl (Nat.le_of_ble_eq_true rfl) k_1_76 h rfl dX0_unpack_37 ?_
  intro σ4 h
  refine x_aload_n C dX0_unpack_40 rfl 0 rfl ?_
  refine x_iload_n C dX0_unpack_41 rfl 1 rfl ?_
  refine x_bipush (v := 18) C dX0_unpack_42 bi_18 ?_
  refine x_ishr C dX0_unpack_44 ?_
  refine x_bipush (v := 15) C dX0_unpack_45 bi_15 ?_
  refine x_iand C dX0_unpack_47 ?_
  refine fp_0_4 C 9 rfl (Nat.le_of_ble_eq_true rfl) k_1_78 h rfl dX0_unpack_48 ?_
  intro σ5 h
  refine x_aload_n C dX0_unpack_51 rfl 0 rfl ?_
  refine x_iload_n C dX0_unpack_52 rfl 1 rfl ?_
  refine x_bipush (v := 22) C dX0_unpack_53 bi_22 ?_
  refine x_ishr C dX0_unpack_55 ?_
  refine x_bipush (v := 7) C dX0_unpack_56 bi_7 ?_
  refine x_iand C dX0_unpack_58 ?_
  refine fp_0_5 C 9 rfl (Nat.le_of_ble_eq_true rfl) k_1_80 h rfl dX0_unpack_59 ?_
  intro σ6 h
  refine x_aload_n C dX0_unpack_62 rfl 0 rfl ?_
  refine x_iload_n C dX0_unpack_63 rfl 1 rfl ?_
  refine x_bipush (v := 25) C dX0_unpack_64 bi_25 ?_
  refine x_ishr C dX0_unpack_66 ?_
  refine x_iconst (v := 3) C dX0_unpack_67 ic_3 ?_
  refine x_iand C dX0_unpack_68 ?_
  refine fp_0_6 C 9 rfl (Nat.le_of_ble_eq_true rfl) k_1_82 h rfl dX0_unpack_69 ?_
  intro σ7 h
  exact xr_wv C h dX0_unpack_72
set_option maxRecDepth 100000 in
set_option maxHeartbeats 4000000 in
theorem tX0_unpack {l : Launch} {dC : Nat → ClassId} {dI : Nat → Nat → Nat} {cI cZ : ClassId} {ad : Nat → Nat} (hJ : eInj 21 ad) {σ : eSt} {a1 : Int32} {z : Int64} {r : eSt} (h : fX0_unpack σ a1 = some r) : Con l yX0_unpack cX0_unpack 2 none rmX0_unpack (dC, dI) (xW cI cZ ad) (xA ad) [(cI, .int), (cZ, .boolean)] (ExX ad) [.ref (ad 9), .int a1] σ z none r z :=
  x_con (by decide) (xW_D hJ) (ExX_ok ad) (Nat.le_of_ble_eq_true rfl) (fun p e s m args below meth c C => wX0_unpack_0 hJ C h)
set_option maxRecDepth 100000 in
set_option maxHeartbeats 4000000 in
theorem wX1_add_0 (hJ : eInj 21 ad) (C : Cx p s m args meth c (dC, dI) (xW cI cZ ad) (xA ad) (ExX ad) [(cI, .int), (cZ, .boolean)] cX1_add 5 RX1 none yX1_add) {σ : eSt} {a1 : Int32} {a2 : Int32} {a3 : Int32} {a4 : Int32} {z : Int64} {r : eSt} (h : fX1_add σ a1 a2 a3 a4 = some r) : WX p l e rmX1_add s m args below meth c (MQ below (cQ (dC, dI) (xW cI cZ ad) (xA ad) none r z) args s 0 0 (xA ad)) (dC, dI) (xW cI cZ ad) (xA ad) 5 σ z [(0, .ref (ad 10)), (1, .int a1), (2, .int a2), (3, .int a3), (4, .int a4)] 0 [] := by
  unfold fX1_add at h
  refine x_aload_n C dX1_add_0 rfl 0 rfl ?_
  refine fg_1_4 C 10 rfl rfl k_1_113 dX1_add_1 ?_
  refine x_bipush (v := 6) C dX1_add_4 bi_6 ?_
  refine x_icmp_ge (tgt := 60) C dX1_add_6 (by decide) h ?_ ?_
  · intro h
    exact xr_wv C h dX1_add_60
  · intro h
    refine x_aload_n C dX1_add_9 rfl 0 rfl ?_
    refine fg_1_0 C 10 rfl rfl k_1_105 dX1_add_10 ?_
    refine x_aload_n C dX1_add_13 rfl 0 rfl ?_
    refine fg_1_4 C 10 rfl rfl k_1_113 dX1_add_14 ?_
    refine x_iload_n C dX1_add_17 rfl 1 rfl ?_
    refine x_iast C 11 0 rfl rfl dX1_add_18 h rfl ?_
    intro σ1 h
    refine x_aload_n C dX1_add_19 rfl 0 rfl ?_
    refine fg_1_1 C 10 rfl rfl k_1_107 dX1_add_20 ?_
    refine x_aload_n C dX1_add_23 rfl 0 rfl ?_
    refine fg_1_4 C 10 rfl rfl k_1_113 dX1_add_24 ?_
    refine x_iload_n C dX1_add_27 rfl 2 rfl ?_
    refine x_iast C 12 0 rfl rfl dX1_add_28 h rfl ?_
    intro σ2 h
    refine x_aload_n C dX1_add_29 rfl 0 rfl ?_
    refine fg_1_2 C 10 rfl rfl k_1_109 dX1_add_30 ?_
    refine x_aload_n C dX1_add_33 rfl 0 rfl ?_
    refine fg_1_4 C 10 rfl rfl k_1_113 dX1_add_34 ?_
    refine x_iload_n C dX1_add_37 rfl 3 rfl ?_
    refine x_iast C 13 0 rfl rfl dX1_add_38 h rfl ?_
    intro σ3 h
    refine x_aload_n C dX1_add_39 rfl 0 rfl ?_
    refine fg_1_3 C 10 rfl rfl k_1_111 dX1_add_40 ?_
    refine x_aload_n C dX1_add_43 rfl 0 rfl ?_
    refine fg_1_4 C 10 rfl rfl k_1_113 dX1_add_44 ?_
    refine x_iload C dX1_add_47 4 rfl ?_
    refine x_zast C 14 1 rfl rfl dX1_add_49 h rfl ?_
    intro σ4 h
    refine x_aload_n C dX1_add_50 rfl 0 rfl ?_
    refine x_dup C dX1_add_51 rfl ?_
    refine fg_1_4 C 10 rfl rfl k_1_113 dX1_add_52 ?_
    refine x_iconst (v := 1) C dX1_add_55 ic_1 ?_
    refine x_iadd C dX1_add_56 ?_
    refine fp_1_4 C 10 rfl (Nat.le_of_ble_eq_true rfl) k_1_113 h rfl dX1_add_57 ?_
    intro σ5 h
    exact xr_wv C h dX1_add_60
set_option maxRecDepth 100000 in
set_option maxHeartbeats 4000000 in
theorem tX1_add {l : Launch} {dC : Nat → ClassId} {dI : Nat → Nat → Nat} {cI cZ : ClassId} {ad : Nat → Nat} (hJ : eInj 21 ad) {σ : eSt} {a1 : Int32} {a2 : Int32} {a3 : Int32} {a4 : Int32} {z : Int64} {r : eSt} (h : fX1_add σ a1 a2 a3 a4 = some r) : Con l yX1_add cX1_add 5 none rmX1_add (dC, dI) (xW cI cZ ad) (xA ad) [(cI, .int), (cZ, .boolean)] (ExX ad) [.ref (ad 10), .int a1, .int a2, .int a3, .int a4] σ z none r z :=
  x_con (by decide) (xW_D hJ) (ExX_ok ad) (Nat.le_of_ble_eq_true rfl) (fun p e s m args below meth c C => wX1_add_0 hJ C h)
set_option maxRecDepth 100000 in
set_option maxHeartbeats 4000000 in
theorem wX2_has_0 (hJ : eInj 21 ad) (C : Cx p s m args meth c (dC, dI) (xW cI cZ ad) (xA ad) (ExX ad) [(cI, .int), (cZ, .boolean)] cX2_has 2 RX2 (some .boolean) yX2_has) {σ : eSt} {a1 : Int32} {z : Int64} {r : Int32} (h : fX2_has σ a1 = some r) : WX p l e rmX2_has s m args below meth c (MQ below (cQ (dC, dI) (xW cI cZ ad) (xA ad) (some (.int r)) σ z) args s 0 0 (xA ad)) (dC, dI) (xW cI cZ ad) (xA ad) 2 σ z [(0, .ref (ad 3)), (1, .int a1)] 0 [] := by
  unfold fX2_has at h
  refine x_iload_n C dX2_has_0 rfl 1 rfl ?_
  refine x_if_lt (tgt := 16) C dX2_has_1 (by decide) h ?_ ?_
  · intro h
    refine x_iconst (v := 0) C dX2_has_16 ic_0 ?_
    exact xr_z C h dX2_has_17
  · intro h
    refine x_iload_n C dX2_has_4 rfl 1 rfl ?_
    refine x_aload_n C dX2_has_5 rfl 0 rfl ?_
    refine fg_2_5 C 3 rfl rfl k_1_49 dX2_has_6 ?_
    refine x_icmp_ge (tgt := 16) C dX2_has_9 (by decide) h ?_ ?_
    · intro h
      refine x_iconst (v := 0) C dX2_has_16 ic_0 ?_
      exact xr_z C h dX2_has_17
    · intro h
      refine x_iconst (v := 1) C dX2_has_12 ic_1 ?_
      refine x_goto (tgt := 17) C dX2_has_13 (by decide) ?_
      exact xr_z C h dX2_has_17
set_option maxRecDepth 100000 in
set_option maxHeartbeats 4000000 in
theorem tX2_has {l : Launch} {dC : Nat → ClassId} {dI : Nat → Nat → Nat} {cI cZ : ClassId} {ad : Nat → Nat} (hJ : eInj 21 ad) {σ : eSt} {a1 : Int32} {z : Int64} {r : Int32} (h : fX2_has σ a1 = some r) : Con l yX2_has cX2_has 2 (some .boolean) rmX2_has (dC, dI) (xW cI cZ ad) (xA ad) [(cI, .int), (cZ, .boolean)] (ExX ad) [.ref (ad 3), .int a1] σ z (some (.int r)) σ z :=
  x_con (by decide) (xW_D hJ) (ExX_ok ad) (Nat.le_of_ble_eq_true rfl) (fun p e s m args below meth c C => wX2_has_0 hJ C h)
set_option maxRecDepth 100000 in
set_option maxHeartbeats 4000000 in
theorem wX3_digit_0 (hJ : eInj 21 ad) (C : Cx p s m args meth c (dC, dI) (xW cI cZ ad) (xA ad) (ExX ad) [(cI, .int), (cZ, .boolean)] cX3_digit 2 RX3 (some .int) yX3_digit) {σ : eSt} {a1 : Int32} {z : Int64} {r : Int32} (h : fX3_digit σ a1 = some r) : WX p l e rmX3_digit s m args below meth c (MQ below (cQ (dC, dI) (xW cI cZ ad) (xA ad) (some (.int r)) σ z) args s 0 0 (xA ad)) (dC, dI) (xW cI cZ ad) (xA ad) 2 σ z [(0, .ref (ad 1)), (1, .int a1)] 0 [] := by
  unfold fX3_digit at h
  refine x_iload_n C dX3_digit_0 rfl 1 rfl ?_
  refine x_if_lt (tgt := 24) C dX3_digit_1 (by decide) h ?_ ?_
  · intro h
    refine x_iconst (v := 0) C dX3_digit_24 ic_0 ?_
    exact xr_i C h dX3_digit_25
  · intro h
    refine x_iload_n C dX3_digit_4 rfl 1 rfl ?_
    refine x_aload_n C dX3_digit_5 rfl 0 rfl ?_
    refine fg_3_1 C 1 rfl rfl k_1_24 dX3_digit_6 ?_
    refine x_icmp_ge (tgt := 24) C dX3_digit_9 (by decide) h ?_ ?_
    · intro h
      refine x_iconst (v := 0) C dX3_digit_24 ic_0 ?_
      exact xr_i C h dX3_digit_25
    · intro h
      refine x_aload_n C dX3_digit_12 rfl 0 rfl ?_
      refine fg_3_0 C 1 rfl rfl k_1_23 dX3_digit_13 ?_
      refine x_iload_n C dX3_digit_16 rfl 1 rfl ?_
      refine x_iald C 2 0 rfl rfl dX3_digit_17 h ?_
      intro h
      refine x_bipush (v := 48) C dX3_digit_18 bi_48 ?_
      refine x_isub C dX3_digit_20 ?_
      refine x_goto (tgt := 25) C dX3_digit_21 (by decide) ?_
      exact xr_i C h dX3_digit_25
set_option maxRecDepth 100000 in
set_option maxHeartbeats 4000000 in
theorem tX3_digit {l : Launch} {dC : Nat → ClassId} {dI : Nat → Nat → Nat} {cI cZ : ClassId} {ad : Nat → Nat} (hJ : eInj 21 ad) {σ : eSt} {a1 : Int32} {z : Int64} {r : Int32} (h : fX3_digit σ a1 = some r) : Con l yX3_digit cX3_digit 2 (some .int) rmX3_digit (dC, dI) (xW cI cZ ad) (xA ad) [(cI, .int), (cZ, .boolean)] (ExX ad) [.ref (ad 1), .int a1] σ z (some (.int r)) σ z :=
  x_con (by decide) (xW_D hJ) (ExX_ok ad) (Nat.le_of_ble_eq_true rfl) (fun p e s m args below meth c C => wX3_digit_0 hJ C h)
set_option maxRecDepth 100000 in
set_option maxHeartbeats 4000000 in
theorem wX2_take_24 (hJ : eInj 21 ad) (C : Cx p s m args meth c (dC, dI) (xW cI cZ ad) (xA ad) (ExX ad) [(cI, .int), (cZ, .boolean)] cX2_take 4 RX2 none yX2_take) {z : Int64} {r : eSt} : ∀ (n : Nat) (a2 : Int32) (σ : eSt), lo_2 (bX2_take_24) n a2 σ = some r → WX p l e rmX2_take s m args below meth c (MQ below (cQ (dC, dI) (xW cI cZ ad) (xA ad) none r z) args s 0 0 (xA ad)) (dC, dI) (xW cI cZ ad) (xA ad) 4 σ z [(0, .ref (ad 3)), (1, .ref (ad 1)), (2, .int a2)] 24 [] := by
  refine lo_2_ind (P := fun a2 σ => WX p l e rmX2_take s m args below meth c (MQ below (cQ (dC, dI) (xW cI cZ ad) (xA ad) none r z) args s 0 0 (xA ad)) (dC, dI) (xW cI cZ ad) (xA ad) 4 σ z [(0, .ref (ad 3)), (1, .ref (ad 1)), (2, .int a2)] 24 []) ?_
  intro k24 hk24 a2 σ h
  unfold bX2_take_24 at h
  refine x_iload_n C dX2_take_24 rfl 2 rfl ?_
  refine x_aload_n C dX2_take_25 rfl 0 rfl ?_
  refine fg_2_5 C 3 rfl rfl k_1_49 dX2_take_26 ?_
  refine x_icmp_ge (tgt := 110) C dX2_take_29 (by decide) h ?_ ?_
  · intro h
    exact xr_wv C h dX2_take_110
  · intro h
    refine x_iconst (v := 4) C dX2_take_32 ic_4 ?_
    refine x_bipush (v := 6) C dX2_take_33 bi_6 ?_
    refine x_iload_n C dX2_take_35 rfl 2 rfl ?_
    refine x_imul C dX2_take_36 ?_
    refine x_iadd C dX2_take_37 ?_
    refine x_istore_n_b C (fun v1 => [(3, .int v1), (0, .ref (ad 3)), (1, .ref (ad 1)), (2, .int a2)]) dX2_take_38 rfl (by decide) h (fun _ => rfl) ?_
    intro v1 h
    refine x_aload_n C dX2_take_39 rfl 1 rfl ?_
    refine fg_2_0 C 3 rfl rfl k_1_39 dX2_take_40 ?_
    refine x_iload_n C dX2_take_43 rfl 3 rfl ?_
    refine x_aload_n C dX2_take_44 rfl 2 rfl ?_
    refine x_iload_n C dX2_take_45 rfl 0 rfl ?_
    refine x_iconst (v := 1) C dX2_take_46 ic_1 ?_
    refine x_iadd C dX2_take_47 ?_
    obtain ⟨v2, hv, h⟩ := e_bind h
    refine x_callV_i C (ci := 3) 1 [.int (v1 + 1)] (tX3_digit hJ hv) k_1_218 k_1_197 k_1_198 k_1_2 k_1_199 hyX3_digit ⟨rfl, rfl⟩ (by decide) rfl rfl rfl rfl (Nat.le_of_ble_eq_true rfl) dX2_take_48 ?_
    refine x_iast C 4 0 rfl rfl dX2_take_51 h rfl ?_
    intro σ3 h
    refine x_aload_n C dX2_take_52 rfl 1 rfl ?_
    refine fg_2_1 C 3 rfl rfl k_1_41 dX2_take_53 ?_
    refine x_iload_n C dX2_take_56 rfl 3 rfl ?_
    refine x_aload_n C dX2_take_57 rfl 2 rfl ?_
    refine x_iload_n C dX2_take_58 rfl 0 rfl ?_
    refine x_iconst (v := 2) C dX2_take_59 ic_2 ?_
    refine x_iadd C dX2_take_60 ?_
    obtain ⟨v4, hv, h⟩ := e_bind h
    refine x_callV_i C (ci := 3) 1 [.int (v1 + 2)] (tX3_digit hJ hv) k_1_218 k_1_197 k_1_198 k_1_2 k_1_199 hyX3_digit ⟨rfl, rfl⟩ (by decide) rfl rfl rfl rfl (Nat.le_of_ble_eq_true rfl) dX2_take_61 ?_
    refine x_iast C 5 0 rfl rfl dX2_take_64 h rfl ?_
    intro σ5 h
    refine x_aload_n C dX2_take_65 rfl 1 rfl ?_
    refine fg_2_2 C 3 rfl rfl k_1_43 dX2_take_66 ?_
    refine x_iload_n C dX2_take_69 rfl 3 rfl ?_
    refine x_aload_n C dX2_take_70 rfl 2 rfl ?_
    refine x_iload_n C dX2_take_71 rfl 0 rfl ?_
    refine x_iconst (v := 3) C dX2_take_72 ic_3 ?_
    refine x_iadd C dX2_take_73 ?_
    obtain ⟨v6, hv, h⟩ := e_bind h
    refine x_callV_i C (ci := 3) 1 [.int (v1 + 3)] (tX3_digit hJ hv) k_1_218 k_1_197 k_1_198 k_1_2 k_1_199 hyX3_digit ⟨rfl, rfl⟩ (by decide) rfl rfl rfl rfl (Nat.le_of_ble_eq_true rfl) dX2_take_74 ?_
    refine x_iast C 6 0 rfl rfl dX2_take_77 h rfl ?_
    intro σ7 h
    refine x_aload_n C dX2_take_78 rfl 1 rfl ?_
    refine fg_2_3 C 3 rfl rfl k_1_45 dX2_take_79 ?_
    refine x_iload_n C dX2_take_82 rfl 3 rfl ?_
    refine x_aload_n C dX2_take_83 rfl 2 rfl ?_
    refine x_iload_n C dX2_take_84 rfl 0 rfl ?_
    refine x_iconst (v := 4) C dX2_take_85 ic_4 ?_
    refine x_iadd C dX2_take_86 ?_
    obtain ⟨v8, hv, h⟩ := e_bind h
    refine x_callV_i C (ci := 3) 1 [.int (v1 + 4)] (tX3_digit hJ hv) k_1_218 k_1_197 k_1_198 k_1_2 k_1_199 hyX3_digit ⟨rfl, rfl⟩ (by decide) rfl rfl rfl rfl (Nat.le_of_ble_eq_true rfl) dX2_take_87 ?_
    refine x_iast C 7 0 rfl rfl dX2_take_90 h rfl ?_
    intro σ9 h
    refine x_aload_n C dX2_take_91 rfl 1 rfl ?_
    refine fg_2_4 C 3 rfl rfl k_1_47 dX2_take_92 ?_
    refine x_iload_n C dX2_take_95 rfl 3 rfl ?_
    refine x_aload_n C dX2_take_96 rfl 2 rfl ?_
    refine x_iload_n C dX2_take_97 rfl 0 rfl ?_
    refine x_iconst (v := 5) C dX2_take_98 ic_5 ?_
    refine x_iadd C dX2_take_99 ?_
    obtain ⟨v10, hv, h⟩ := e_bind h
    refine x_callV_i C (ci := 3) 1 [.int (v1 + 5)] (tX3_digit hJ hv) k_1_218 k_1_197 k_1_198 k_1_2 k_1_199 hyX3_digit ⟨rfl, rfl⟩ (by decide) rfl rfl rfl rfl (Nat.le_of_ble_eq_true rfl) dX2_take_100 ?_
    refine x_iast C 8 0 rfl rfl dX2_take_103 h rfl ?_
    intro σ11 h
    refine x_iinc_b (j := 3) (w := 1) C (fun v12 => [(2, .int v12), (3, .int v1), (0, .ref (ad 3)), (1, .ref (ad 1))]) dX2_take_104 ic_1 rfl (by decide) h (fun _ => rfl) ?_
    intro v12 h
    refine x_goto (tgt := 24) C dX2_take_107 (by decide) ?_
    refine x_sub (lv' := [(0, .ref (ad 3)), (1, .ref (ad 1)), (2, .int v12)]) [2, 3, 0] rfl ?_
    exact hk24 _ _ h
set_option maxRecDepth 100000 in
set_option maxHeartbeats 4000000 in
theorem wX2_take_0 (hJ : eInj 21 ad) (C : Cx p s m args meth c (dC, dI) (xW cI cZ ad) (xA ad) (ExX ad) [(cI, .int), (cZ, .boolean)] cX2_take 4 RX2 none yX2_take) {σ : eSt} {z : Int64} {r : eSt} (h : fX2_take σ = some r) : WX p l e rmX2_take s m args below meth c (MQ below (cQ (dC, dI) (xW cI cZ ad) (xA ad) none r z) args s 0 0 (xA ad)) (dC, dI) (xW cI cZ ad) (xA ad) 4 σ z [(0, .ref (ad 3)), (1, .ref (ad 1))] 0 [] := by
  unfold fX2_take at h
  refine x_aload_n C dX2_take_0 rfl 0 rfl ?_
  refine x_bipush (v := 6) C dX2_take_1 bi_6 ?_
  refine x_iconst (v := 0) C dX2_take_3 ic_0 ?_
  refine x_aload_n C dX2_take_4 rfl 1 rfl ?_
  refine fg_3_1 C 1 rfl rfl k_1_26 dX2_take_5 ?_
  refine x_iconst (v := 4) C dX2_take_8 ic_4 ?_
  refine x_isub C dX2_take_9 ?_
  refine x_bipush (v := 6) C dX2_take_10 bi_6 ?_
  refine x_idiv_c C dX2_take_12 (by decide) ?_
  refine x_mmax C k_1_212 k_1_213 k_1_7 k_1_214 (Nat.le_of_ble_eq_true rfl) (Nat.le_of_ble_eq_true rfl) dX2_take_13 ?_
  refine x_mmin C k_1_215 k_1_216 k_1_7 k_1_217 (Nat.le_of_ble_eq_true rfl) (Nat.le_of_ble_eq_true rfl) dX2_take_16 ?_
  refine fp_2_5 C 3 rfl (Nat.le_of_ble_eq_true rfl) k_1_49 h rfl dX2_take_19 ?_
  intro σ1 h
  refine x_iconst (v := 0) C dX2_take_22 ic_0 ?_
  refine x_istore_n (lv' := [(2, .int 0), (0, .ref (ad 3)), (1, .ref (ad 1))]) C dX2_take_23 rfl (by decide) rfl ?_
  refine x_sub (lv' := [(0, .ref (ad 3)), (1, .ref (ad 1)), (2, .int 0)]) [1, 2, 0] rfl ?_
  exact wX2_take_24 hJ C _ _ _ h
set_option maxRecDepth 100000 in
set_option maxHeartbeats 4000000 in
theorem tX2_take {l : Launch} {dC : Nat → ClassId} {dI : Nat → Nat → Nat} {cI cZ : ClassId} {ad : Nat → Nat} (hJ : eInj 21 ad) {σ : eSt} {z : Int64} {r : eSt} (h : fX2_take σ = some r) : Con l yX2_take cX2_take 4 none rmX2_take (dC, dI) (xW cI cZ ad) (xA ad) [(cI, .int), (cZ, .boolean)] (ExX ad) [.ref (ad 3), .ref (ad 1)] σ z none r z :=
  x_con (by decide) (xW_D hJ) (ExX_ok ad) (Nat.le_of_ble_eq_true rfl) (fun p e s m args below meth c C => wX2_take_0 hJ C h)
set_option maxRecDepth 100000 in
set_option maxHeartbeats 4000000 in
theorem wX4_reaches_43 (hJ : eInj 21 ad) (C : Cx p s m args meth c (dC, dI) (xW cI cZ ad) (xA ad) (ExX ad) [(cI, .int), (cZ, .boolean)] cX4_reaches 8 RX4 (some .boolean) yX4_reaches) {σ : eSt} {a1 : Int32} {a3 : Int32} {a6 : Int32} {a7 : Int32} {z : Int64} {r : Int32} (h : fX4_reaches_43 a1 a3 a6 a7 = some r) : WX p l e rmX4_reaches s m args below meth c (MQ below (cQ (dC, dI) (xW cI cZ ad) (xA ad) (some (.int r)) σ z) args s 0 0 (xA ad)) (dC, dI) (xW cI cZ ad) (xA ad) 8 σ z [(1, .int a1), (3, .int a3), (6, .int a6), (7, .int a7)] 43 [] := by
  unfold fX4_reaches_43 at h
  refine x_iload_n C dX4_reaches_43 rfl 0 rfl ?_
  refine x_iload C dX4_reaches_44 3 rfl ?_
  refine x_iload_n C dX4_reaches_46 rfl 1 rfl ?_
  refine x_iload C dX4_reaches_47 2 rfl ?_
  refine x_isub C dX4_reaches_49 ?_
  refine x_mabs C k_2_19 k_2_20 k_1_7 k_2_21 (Nat.le_of_ble_eq_true rfl) (Nat.le_of_ble_eq_true rfl) dX4_reaches_50 ?_
  refine x_iadd C dX4_reaches_53 ?_
  refine x_icmp_le (tgt := 61) C dX4_reaches_54 (by decide) h ?_ ?_
  · intro h
    refine x_iconst (v := 0) C dX4_reaches_61 ic_0 ?_
    exact xr_z C h dX4_reaches_62
  · intro h
    refine x_iconst (v := 1) C dX4_reaches_57 ic_1 ?_
    refine x_goto (tgt := 62) C dX4_reaches_58 (by decide) ?_
    exact xr_z C h dX4_reaches_62
set_option maxRecDepth 100000 in
set_option maxHeartbeats 4000000 in
theorem wX4_reaches_15 (hJ : eInj 21 ad) (C : Cx p s m args meth c (dC, dI) (xW cI cZ ad) (xA ad) (ExX ad) [(cI, .int), (cZ, .boolean)] cX4_reaches 8 RX4 (some .boolean) yX4_reaches) {σ : eSt} {a0 : Int32} {a1 : Int32} {a3 : Int32} {a4 : Int32} {s0 : Int32} {z : Int64} {r : Int32} (h : fX4_reaches_15 a0 a1 a3 a4 s0 = some r) : WX p l e rmX4_reaches s m args below meth c (MQ below (cQ (dC, dI) (xW cI cZ ad) (xA ad) (some (.int r)) σ z) args s 0 0 (xA ad)) (dC, dI) (xW cI cZ ad) (xA ad) 8 σ z [(0, .int a0), (1, .int a1), (3, .int a3), (4, .int a4)] 15 [.int s0] := by
  unfold fX4_reaches_15 at h
  refine x_istore (lv' := [(6, .int s0), (0, .int a0), (1, .int a1), (3, .int a3), (4, .int a4)]) C dX4_reaches_15 (by decide) rfl ?_
  refine x_iload C dX4_reaches_17 4 rfl ?_
  refine x_istore (lv' := [(7, .int a4), (6, .int s0), (0, .int a0), (1, .int a1), (3, .int a3), (4, .int a4)]) C dX4_reaches_19 (by decide) rfl ?_
  refine x_iload_n C dX4_reaches_21 rfl 2 rfl ?_
  refine x_iconst (v := 1) C dX4_reaches_22 ic_1 ?_
  refine x_icmp_ne (tgt := 32) C dX4_reaches_23 (by decide) h ?_ ?_
  · intro h
    refine x_iload_n C dX4_reaches_32 rfl 2 rfl ?_
    refine x_iconst (v := 2) C dX4_reaches_33 ic_2 ?_
    refine x_icmp_ne (tgt := 43) C dX4_reaches_34 (by decide) h ?_ ?_
    · intro h
      refine x_sub (lv' := [(1, .int a1), (3, .int a3), (6, .int s0), (7, .int a4)]) [3, 4, 1, 0] rfl ?_
      exact wX4_reaches_43 hJ C h
    · intro h
      refine x_iconst (v := 2) C dX4_reaches_37 ic_2 ?_
      refine x_iload C dX4_reaches_38 5 rfl ?_
      refine x_imul C dX4_reaches_40 ?_
      refine x_istore_b C (fun v1 => [(7, .int v1), (6, .int s0), (0, .int a0), (1, .int a1), (3, .int a3), (4, .int a4)]) dX4_reaches_41 (by decide) h (fun _ => rfl) ?_
      intro v1 h
      refine x_sub (lv' := [(1, .int a1), (3, .int a3), (6, .int s0), (7, .int v1)]) [3, 4, 1, 0] rfl ?_
      exact wX4_reaches_43 hJ C h
  · intro h
    refine x_iconst (v := 0) C dX4_reaches_26 ic_0 ?_
    refine x_istore (lv' := [(7, .int 0), (6, .int s0), (0, .int a0), (1, .int a1), (3, .int a3), (4, .int a4)]) C dX4_reaches_27 (by decide) rfl ?_
    refine x_goto (tgt := 43) C dX4_reaches_29 (by decide) ?_
    refine x_sub (lv' := [(1, .int a1), (3, .int a3), (6, .int s0), (7, .int 0)]) [3, 4, 1, 0] rfl ?_
    exact wX4_reaches_43 hJ C h
set_option maxRecDepth 100000 in
set_option maxHeartbeats 4000000 in
theorem wX4_reaches_0 (hJ : eInj 21 ad) (C : Cx p s m args meth c (dC, dI) (xW cI cZ ad) (xA ad) (ExX ad) [(cI, .int), (cZ, .boolean)] cX4_reaches 8 RX4 (some .boolean) yX4_reaches) {σ : eSt} {a0 : Int32} {a1 : Int32} {a2 : Int32} {a3 : Int32} {a4 : Int32} {a5 : Int32} {z : Int64} {r : Int32} (h : fX4_reaches a0 a1 a2 a3 a4 a5 = some r) : WX p l e rmX4_reaches s m args below meth c (MQ below (cQ (dC, dI) (xW cI cZ ad) (xA ad) (some (.int r)) σ z) args s 0 0 (xA ad)) (dC, dI) (xW cI cZ ad) (xA ad) 8 σ z [(0, .int a0), (1, .int a1), (2, .int a2), (3, .int a3), (4, .int a4), (5, .int a5)] 0 [] := by
  unfold fX4_reaches at h
  refine x_iload_n C dX4_reaches_0 rfl 0 rfl ?_
  refine x_iconst (v := 3) C dX4_reaches_1 ic_3 ?_
  refine x_icmp_ne (tgt := 9) C dX4_reaches_2 (by decide) h ?_ ?_
  · intro h
    refine x_iload_n C dX4_reaches_9 rfl 2 rfl ?_
    refine x_iload C dX4_reaches_10 5 rfl ?_
    refine x_iadd C dX4_reaches_12 ?_
    refine x_iconst (v := 1) C dX4_reaches_13 ic_1 ?_
    refine x_isub C dX4_reaches_14 ?_
    refine x_sub (lv' := [(0, .int a0), (1, .int a1), (3, .int a3), (4, .int a4)]) [0, 1, 3, 4] rfl ?_
    exact wX4_reaches_15 hJ C h
  · intro h
    refine x_iload_n C dX4_reaches_5 rfl 2 rfl ?_
    refine x_goto (tgt := 15) C dX4_reaches_6 (by decide) ?_
    refine x_sub (lv' := [(0, .int a0), (1, .int a1), (3, .int a3), (4, .int a4)]) [0, 1, 3, 4] rfl ?_
    exact wX4_reaches_15 hJ C h
set_option maxRecDepth 100000 in
set_option maxHeartbeats 4000000 in
theorem tX4_reaches {l : Launch} {dC : Nat → ClassId} {dI : Nat → Nat → Nat} {cI cZ : ClassId} {ad : Nat → Nat} (hJ : eInj 21 ad) {a0 : Int32} {a1 : Int32} {a2 : Int32} {a3 : Int32} {a4 : Int32} {a5 : Int32} {σ : eSt} {z : Int64} {r : Int32} (h : fX4_reaches a0 a1 a2 a3 a4 a5 = some r) : Con l yX4_reaches cX4_reaches 8 (some .boolean) rmX4_reaches (dC, dI) (xW cI cZ ad) (xA ad) [(cI, .int), (cZ, .boolean)] (ExX ad) [.int a0, .int a1, .int a2, .int a3, .int a4, .int a5] σ z (some (.int r)) σ z :=
  x_con (by decide) (xW_D hJ) (ExX_ok ad) (Nat.le_of_ble_eq_true rfl) (fun p e s m args below meth c C => wX4_reaches_0 hJ C h)
set_option maxRecDepth 100000 in
set_option maxHeartbeats 4000000 in
theorem wX2_carries_0 (hJ : eInj 21 ad) (C : Cx p s m args meth c (dC, dI) (xW cI cZ ad) (xA ad) (ExX ad) [(cI, .int), (cZ, .boolean)] cX2_carries 6 RX2 (some .boolean) yX2_carries) {σ : eSt} {a1 : Int32} {a2 : Int32} {a3 : Int32} {a4 : Int32} {a5 : Int32} {z : Int64} {r : Int32} (h : fX2_carries σ a1 a2 a3 a4 a5 = some r) : WX p l e rmX2_carries s m args below meth c (MQ below (cQ (dC, dI) (xW cI cZ ad) (xA ad) (some (.int r)) σ z) args s 0 0 (xA ad)) (dC, dI) (xW cI cZ ad) (xA ad) 6 σ z [(0, .ref (ad 3)), (1, .int a1), (2, .int a2), (3, .int a3), (4, .int a4), (5, .int a5)] 0 [] := by
  unfold fX2_carries at h
  refine x_aload_n C dX2_carries_0 rfl 0 rfl ?_
  refine x_iload_n C dX2_carries_1 rfl 1 rfl ?_
  obtain ⟨v1, hv, h⟩ := e_bind h
  refine x_callV_i C (ci := 2) 3 [.int a1] (tX2_has hJ hv) k_2_15 k_2_0 k_2_1 k_1_3 k_2_2 hyX2_has ⟨rfl, rfl⟩ (by decide) rfl rfl rfl rfl (Nat.le_of_ble_eq_true rfl) dX2_carries_2 ?_
  refine x_if_eq (tgt := 61) C dX2_carries_5 (by decide) h ?_ ?_
  · intro h
    refine x_iconst (v := 0) C dX2_carries_61 ic_0 ?_
    exact xr_z C h dX2_carries_62
  · intro h
    refine x_iload_n C dX2_carries_8 rfl 3 rfl ?_
    refine x_aload_n C dX2_carries_9 rfl 0 rfl ?_
    refine fg_2_2 C 3 rfl rfl k_1_43 dX2_carries_10 ?_
    refine x_iload_n C dX2_carries_13 rfl 1 rfl ?_
    refine x_iald C 6 0 rfl rfl dX2_carries_14 h ?_
    intro h
    refine x_icmp_lt (tgt := 61) C dX2_carries_15 (by decide) h ?_ ?_
    · intro h
      refine x_iconst (v := 0) C dX2_carries_61 ic_0 ?_
      exact xr_z C h dX2_carries_62
    · intro h
      refine x_iload_n C dX2_carries_18 rfl 3 rfl ?_
      refine x_aload_n C dX2_carries_19 rfl 0 rfl ?_
      refine fg_2_3 C 3 rfl rfl k_1_45 dX2_carries_20 ?_
      refine x_iload_n C dX2_carries_23 rfl 1 rfl ?_
      refine x_iald C 7 0 rfl rfl dX2_carries_24 h ?_
      intro h
      refine x_icmp_gt (tgt := 61) C dX2_carries_25 (by decide) h ?_ ?_
      · intro h
        refine x_iconst (v := 0) C dX2_carries_61 ic_0 ?_
        exact xr_z C h dX2_carries_62
      · intro h
        refine x_aload_n C dX2_carries_28 rfl 0 rfl ?_
        refine fg_2_4 C 3 rfl rfl k_1_47 dX2_carries_29 ?_
        refine x_iload_n C dX2_carries_32 rfl 1 rfl ?_
        refine x_iald C 8 0 rfl rfl dX2_carries_33 h ?_
        intro h
        refine x_aload_n C dX2_carries_34 rfl 0 rfl ?_
        refine fg_2_1 C 3 rfl rfl k_1_41 dX2_carries_35 ?_
        refine x_iload_n C dX2_carries_38 rfl 1 rfl ?_
        refine x_iald C 5 0 rfl rfl dX2_carries_39 h ?_
        intro h
        refine x_aload_n C dX2_carries_40 rfl 0 rfl ?_
        refine fg_2_0 C 3 rfl rfl k_1_39 dX2_carries_41 ?_
        refine x_iload_n C dX2_carries_44 rfl 1 rfl ?_
        refine x_iald C 4 0 rfl rfl dX2_carries_45 h ?_
        intro h
        refine x_iload_n C dX2_carries_46 rfl 2 rfl ?_
        refine x_iload C dX2_carries_47 4 rfl ?_
        refine x_iload C dX2_carries_49 5 rfl ?_
        obtain ⟨v2, hv, h⟩ := e_bind h
        refine x_callSN (rv := some (.int v2)) (As := [.int (σ 8 a1.toNatClampNeg), .int (σ 5 a1.toNatClampNeg), .int (σ 4 a1.toNatClampNeg), .int a2, .int a4, .int a5]) (rest := []) C (tX4_reaches hJ hv) C.hEx k_2_17 k_1_1 k_2_18 hyX4_reaches.2 ⟨rfl, rfl⟩ (by decide) rfl rfl (Nat.le_of_ble_eq_true rfl) dX2_carries_51 ?_
        refine x_if_eq (tgt := 61) C dX2_carries_54 (by decide) h ?_ ?_
        · intro h
          refine x_iconst (v := 0) C dX2_carries_61 ic_0 ?_
          exact xr_z C h dX2_carries_62
        · intro h
          refine x_iconst (v := 1) C dX2_carries_57 ic_1 ?_
          refine x_goto (tgt := 62) C dX2_carries_58 (by decide) ?_
          exact xr_z C h dX2_carries_62
set_option maxRecDepth 100000 in
set_option maxHeartbeats 4000000 in
theorem tX2_carries {l : Launch} {dC : Nat → ClassId} {dI : Nat → Nat → Nat} {cI cZ : ClassId} {ad : Nat → Nat} (hJ : eInj 21 ad) {σ : eSt} {a1 : Int32} {a2 : Int32} {a3 : Int32} {a4 : Int32} {a5 : Int32} {z : Int64} {r : Int32} (h : fX2_carries σ a1 a2 a3 a4 a5 = some r) : Con l yX2_carries cX2_carries 6 (some .boolean) rmX2_carries (dC, dI) (xW cI cZ ad) (xA ad) [(cI, .int), (cZ, .boolean)] (ExX ad) [.ref (ad 3), .int a1, .int a2, .int a3, .int a4, .int a5] σ z (some (.int r)) σ z :=
  x_con (by decide) (xW_D hJ) (ExX_ok ad) (Nat.le_of_ble_eq_true rfl) (fun p e s m args below meth c C => wX2_carries_0 hJ C h)
set_option maxRecDepth 100000 in
set_option maxHeartbeats 4000000 in
theorem wX3_add_0 (hJ : eInj 21 ad) (C : Cx p s m args meth c (dC, dI) (xW cI cZ ad) (xA ad) (ExX ad) [(cI, .int), (cZ, .boolean)] cX3_add 2 RX3 none yX3_add) {σ : eSt} {a1 : Int32} {z : Int64} {r : eSt} (h : fX3_add σ a1 = some r) : WX p l e rmX3_add s m args below meth c (MQ below (cQ (dC, dI) (xW cI cZ ad) (xA ad) none r z) args s 0 0 (xA ad)) (dC, dI) (xW cI cZ ad) (xA ad) 2 σ z [(0, .ref (ad 1)), (1, .int a1)] 0 [] := by
  unfold fX3_add at h
  refine x_aload_n C dX3_add_0 rfl 0 rfl ?_
  refine fg_3_1 C 1 rfl rfl k_1_24 dX3_add_1 ?_
  refine x_bipush (v := 40) C dX3_add_4 bi_40 ?_
  refine x_icmp_ge (tgt := 29) C dX3_add_6 (by decide) h ?_ ?_
  · intro h
    exact xr_wv C h dX3_add_29
  · intro h
    refine x_aload_n C dX3_add_9 rfl 0 rfl ?_
    refine fg_3_0 C 1 rfl rfl k_1_23 dX3_add_10 ?_
    refine x_aload_n C dX3_add_13 rfl 0 rfl ?_
    refine fg_3_1 C 1 rfl rfl k_1_24 dX3_add_14 ?_
    refine x_iload_n C dX3_add_17 rfl 1 rfl ?_
    refine x_iast C 2 0 rfl rfl dX3_add_18 h rfl ?_
    intro σ1 h
    refine x_aload_n C dX3_add_19 rfl 0 rfl ?_
    refine x_dup C dX3_add_20 rfl ?_
    refine fg_3_1 C 1 rfl rfl k_1_24 dX3_add_21 ?_
    refine x_iconst (v := 1) C dX3_add_24 ic_1 ?_
    refine x_iadd C dX3_add_25 ?_
    refine fp_3_1 C 1 rfl (Nat.le_of_ble_eq_true rfl) k_1_24 h rfl dX3_add_26 ?_
    intro σ2 h
    exact xr_wv C h dX3_add_29
set_option maxRecDepth 100000 in
set_option maxHeartbeats 4000000 in
theorem tX3_add {l : Launch} {dC : Nat → ClassId} {dI : Nat → Nat → Nat} {cI cZ : ClassId} {ad : Nat → Nat} (hJ : eInj 21 ad) {σ : eSt} {a1 : Int32} {z : Int64} {r : eSt} (h : fX3_add σ a1 = some r) : Con l yX3_add cX3_add 2 none rmX3_add (dC, dI) (xW cI cZ ad) (xA ad) [(cI, .int), (cZ, .boolean)] (ExX ad) [.ref (ad 1), .int a1] σ z none r z :=
  x_con (by decide) (xW_D hJ) (ExX_ok ad) (Nat.le_of_ble_eq_true rfl) (fun p e s m args below meth c C => wX3_add_0 hJ C h)
set_option maxRecDepth 100000 in
set_option maxHeartbeats 4000000 in
theorem wX3_isDigit_0 (hJ : eInj 21 ad) (C : Cx p s m args meth c (dC, dI) (xW cI cZ ad) (xA ad) (ExX ad) [(cI, .int), (cZ, .boolean)] cX3_isDigit 5 RX3 (some .boolean) yX3_isDigit) {σ : eSt} {a1 : Int32} {a2 : Int32} {a3 : Int32} {z : Int64} {r : Int32} (h : fX3_isDigit σ a1 a2 a3 = some r) : WX p l e rmX3_isDigit s m args below meth c (MQ below (cQ (dC, dI) (xW cI cZ ad) (xA ad) (some (.int r)) σ z) args s 0 0 (xA ad)) (dC, dI) (xW cI cZ ad) (xA ad) 5 σ z [(0, .ref (ad 1)), (1, .int a1), (2, .int a2), (3, .int a3)] 0 [] := by
  unfold fX3_isDigit at h
  refine x_aload_n C dX3_isDigit_0 rfl 0 rfl ?_
  refine x_iload_n C dX3_isDigit_1 rfl 1 rfl ?_
  obtain ⟨v1, hv, h⟩ := e_bind h
  refine x_callV_i C (ci := 3) 1 [.int a1] (tX3_digit hJ hv) k_1_196 k_1_197 k_1_198 k_1_2 k_1_199 hyX3_digit ⟨rfl, rfl⟩ (by decide) rfl rfl rfl rfl (Nat.le_of_ble_eq_true rfl) dX3_isDigit_2 ?_
  refine x_istore (lv' := [(4, .int v1), (0, .ref (ad 1)), (1, .int a1), (2, .int a2), (3, .int a3)]) C dX3_isDigit_5 (by decide) rfl ?_
  refine x_iload C dX3_isDigit_7 0 rfl ?_
  refine x_iload_n C dX3_isDigit_9 rfl 3 rfl ?_
  refine x_icmp_lt (tgt := 23) C dX3_isDigit_10 (by decide) h ?_ ?_
  · intro h
    refine x_iconst (v := 0) C dX3_isDigit_23 ic_0 ?_
    exact xr_z C h dX3_isDigit_24
  · intro h
    refine x_iload C dX3_isDigit_13 0 rfl ?_
    refine x_iload_n C dX3_isDigit_15 rfl 4 rfl ?_
    refine x_icmp_gt (tgt := 23) C dX3_isDigit_16 (by decide) h ?_ ?_
    · intro h
      refine x_iconst (v := 0) C dX3_isDigit_23 ic_0 ?_
      exact xr_z C h dX3_isDigit_24
    · intro h
      refine x_iconst (v := 1) C dX3_isDigit_19 ic_1 ?_
      refine x_goto (tgt := 24) C dX3_isDigit_20 (by decide) ?_
      exact xr_z C h dX3_isDigit_24
set_option maxRecDepth 100000 in
set_option maxHeartbeats 4000000 in
theorem tX3_isDigit {l : Launch} {dC : Nat → ClassId} {dI : Nat → Nat → Nat} {cI cZ : ClassId} {ad : Nat → Nat} (hJ : eInj 21 ad) {σ : eSt} {a1 : Int32} {a2 : Int32} {a3 : Int32} {z : Int64} {r : Int32} (h : fX3_isDigit σ a1 a2 a3 = some r) : Con l yX3_isDigit cX3_isDigit 5 (some .boolean) rmX3_isDigit (dC, dI) (xW cI cZ ad) (xA ad) [(cI, .int), (cZ, .boolean)] (ExX ad) [.ref (ad 1), .int a1, .int a2, .int a3] σ z (some (.int r)) σ z :=
  x_con (by decide) (xW_D hJ) (ExX_ok ad) (Nat.le_of_ble_eq_true rfl) (fun p e s m args below meth c C => wX3_isDigit_0 hJ C h)
set_option maxRecDepth 100000 in
set_option maxHeartbeats 4000000 in
theorem wX3_fitsHead_0 (hJ : eInj 21 ad) (C : Cx p s m args meth c (dC, dI) (xW cI cZ ad) (xA ad) (ExX ad) [(cI, .int), (cZ, .boolean)] cX3_fitsHead 2 RX3 (some .boolean) yX3_fitsHead) {σ : eSt} {a1 : Int32} {z : Int64} {r : Int32} (h : fX3_fitsHead σ a1 = some r) : WX p l e rmX3_fitsHead s m args below meth c (MQ below (cQ (dC, dI) (xW cI cZ ad) (xA ad) (some (.int r)) σ z) args s 0 0 (xA ad)) (dC, dI) (xW cI cZ ad) (xA ad) 2 σ z [(0, .ref (ad 1)), (1, .int a1)] 0 [] := by
  unfold fX3_fitsHead at h
  refine x_iload_n C dX3_fitsHead_0 rfl 1 rfl ?_
  refine x_tsw C dX3_fitsHead_1 (fun j => [28, 45, 54].getD j 0) 62 3 (by decide) ?_ (by decide) ?_ ?_
  · intro j hj
    match j, hj with
    | 0, _ => exact ⟨27, rfl, by decide⟩
    | 1, _ => exact ⟨44, rfl, by decide⟩
    | 2, _ => exact ⟨53, rfl, by decide⟩
    | j + 3, hj => exact absurd hj (by omega)
  · intro j hj ej
    match j, hj, ej with
    | 0, _, ej =>
      have ex : a1 = 0 := e_sw (by decide) ej
      rw [if_pos ex] at h
      refine x_aload_n C dX3_fitsHead_28 rfl 0 rfl ?_
      refine fg_3_0 C 1 rfl rfl k_1_23 dX3_fitsHead_29 ?_
      refine x_iconst (v := 0) C dX3_fitsHead_32 ic_0 ?_
      refine x_iald_c C 2 0 0 rfl rfl dX3_fitsHead_33 (by decide) (by decide) ?_
      refine x_bipush (v := 82) C dX3_fitsHead_34 bi_82 ?_
      refine x_icmp_ne (tgt := 43) C dX3_fitsHead_36 (by decide) h ?_ ?_
      · intro h
        refine x_iconst (v := 0) C dX3_fitsHead_43 ic_0 ?_
        exact xr_z C h dX3_fitsHead_44
      · intro h
        refine x_iconst (v := 1) C dX3_fitsHead_39 ic_1 ?_
        refine x_goto (tgt := 44) C dX3_fitsHead_40 (by decide) ?_
        exact xr_z C h dX3_fitsHead_44
    | 1, _, ej =>
      have ex : a1 = 1 := e_sw (by decide) ej
      rw [if_neg (by rw [ex]; decide), if_pos ex] at h
      refine x_aload_n C dX3_fitsHead_45 rfl 0 rfl ?_
      refine x_iload_n C dX3_fitsHead_46 rfl 1 rfl ?_
      refine x_iconst (v := 0) C dX3_fitsHead_47 ic_0 ?_
      refine x_bipush (v := 9) C dX3_fitsHead_48 bi_9 ?_
      obtain ⟨v1, hv, h⟩ := e_bind h
      refine x_callV_i C (ci := 3) 1 [.int a1, .int 0, .int 9] (tX3_isDigit hJ hv) k_1_192 k_1_194 k_p_2 k_1_2 k_1_195 hyX3_isDigit ⟨rfl, rfl⟩ (by decide) rfl rfl rfl rfl (Nat.le_of_ble_eq_true rfl) dX3_fitsHead_50 ?_
      exact xr_z C h dX3_fitsHead_53
    | 2, _, ej =>
      have ex : a1 = 2 := e_sw (by decide) ej
      rw [if_neg (by rw [ex]; decide), if_neg (by rw [ex]; decide), if_pos ex] at h
      refine x_aload_n C dX3_fitsHead_54 rfl 0 rfl ?_
      refine x_iload_n C dX3_fitsHead_55 rfl 1 rfl ?_
      refine x_iconst (v := 0) C dX3_fitsHead_56 ic_0 ?_
      refine x_iconst (v := 4) C dX3_fitsHead_57 ic_4 ?_
      obtain ⟨v2, hv, h⟩ := e_bind h
      refine x_callV_i C (ci := 3) 1 [.int a1, .int 0, .int 4] (tX3_isDigit hJ hv) k_1_192 k_1_194 k_p_2 k_1_2 k_1_195 hyX3_isDigit ⟨rfl, rfl⟩ (by decide) rfl rfl rfl rfl (Nat.le_of_ble_eq_true rfl) dX3_fitsHead_58 ?_
      exact xr_z C h dX3_fitsHead_61
    | j + 3, hj, _ => exact absurd hj (by omega)
  · intro hne
    rw [if_neg (e_sn (j := 0) (by decide) (hne 0 (by decide))), if_neg (e_sn (j := 1) (by decide) (hne 1 (by decide))), if_neg (e_sn (j := 2) (by decide) (hne 2 (by decide)))] at h
    refine x_aload_n C dX3_fitsHead_62 rfl 0 rfl ?_
    refine x_iload_n C dX3_fitsHead_63 rfl 1 rfl ?_
    refine x_iconst (v := 0) C dX3_fitsHead_64 ic_0 ?_
    refine x_iconst (v := 2) C dX3_fitsHead_65 ic_2 ?_
    obtain ⟨v3, hv, h⟩ := e_bind h
    refine x_callV_i C (ci := 3) 1 [.int a1, .int 0, .int 2] (tX3_isDigit hJ hv) k_1_192 k_1_194 k_p_2 k_1_2 k_1_195 hyX3_isDigit ⟨rfl, rfl⟩ (by decide) rfl rfl rfl rfl (Nat.le_of_ble_eq_true rfl) dX3_fitsHead_66 ?_
    exact xr_z C h dX3_fitsHead_69
set_option maxRecDepth 100000 in
set_option maxHeartbeats 4000000 in
theorem tX3_fitsHead {l : Launch} {dC : Nat → ClassId} {dI : Nat → Nat → Nat} {cI cZ : ClassId} {ad : Nat → Nat} (hJ : eInj 21 ad) {σ : eSt} {a1 : Int32} {z : Int64} {r : Int32} (h : fX3_fitsHead σ a1 = some r) : Con l yX3_fitsHead cX3_fitsHead 2 (some .boolean) rmX3_fitsHead (dC, dI) (xW cI cZ ad) (xA ad) [(cI, .int), (cZ, .boolean)] (ExX ad) [.ref (ad 1), .int a1] σ z (some (.int r)) σ z :=
  x_con (by decide) (xW_D hJ) (ExX_ok ad) (Nat.le_of_ble_eq_true rfl) (fun p e s m args below meth c C => wX3_fitsHead_0 hJ C h)
set_option maxRecDepth 100000 in
set_option maxHeartbeats 4000000 in
theorem wX3_fitsPart_0 (hJ : eInj 21 ad) (C : Cx p s m args meth c (dC, dI) (xW cI cZ ad) (xA ad) (ExX ad) [(cI, .int), (cZ, .boolean)] cX3_fitsPart 2 RX3 (some .boolean) yX3_fitsPart) {σ : eSt} {a1 : Int32} {z : Int64} {r : Int32} (h : fX3_fitsPart σ a1 = some r) : WX p l e rmX3_fitsPart s m args below meth c (MQ below (cQ (dC, dI) (xW cI cZ ad) (xA ad) (some (.int r)) σ z) args s 0 0 (xA ad)) (dC, dI) (xW cI cZ ad) (xA ad) 2 σ z [(0, .ref (ad 1)), (1, .int a1)] 0 [] := by
  unfold fX3_fitsPart at h
  refine x_iload_n C dX3_fitsPart_0 rfl 1 rfl ?_
  refine x_iconst (v := 4) C dX3_fitsPart_1 ic_4 ?_
  refine x_isub C dX3_fitsPart_2 ?_
  refine x_bipush (v := 6) C dX3_fitsPart_3 bi_6 ?_
  refine x_irem_c C dX3_fitsPart_5 (by decide) ?_
  refine x_tsw C dX3_fitsPart_6 (fun j => [40, 57, 66, 75, 84].getD j 0) 99 5 (by decide) ?_ (by decide) ?_ ?_
  · intro j hj
    match j, hj with
    | 0, _ => exact ⟨34, rfl, by decide⟩
    | 1, _ => exact ⟨51, rfl, by decide⟩
    | 2, _ => exact ⟨60, rfl, by decide⟩
    | 3, _ => exact ⟨69, rfl, by decide⟩
    | 4, _ => exact ⟨78, rfl, by decide⟩
    | j + 5, hj => exact absurd hj (by omega)
  · intro j hj ej
    match j, hj, ej with
    | 0, _, ej =>
      have ex : (e_rem (a1 - 4) 6) = 0 := e_sw (by decide) ej
      rw [if_pos ex] at h
      refine x_aload_n C dX3_fitsPart_40 rfl 0 rfl ?_
      refine fg_3_0 C 1 rfl rfl k_1_23 dX3_fitsPart_41 ?_
      refine x_iload_n C dX3_fitsPart_44 rfl 1 rfl ?_
      refine x_iald C 2 0 rfl rfl dX3_fitsPart_45 h ?_
      intro h
      refine x_bipush (v := 83) C dX3_fitsPart_46 bi_83 ?_
      refine x_icmp_ne (tgt := 55) C dX3_fitsPart_48 (by decide) h ?_ ?_
      · intro h
        refine x_iconst (v := 0) C dX3_fitsPart_55 ic_0 ?_
        exact xr_z C h dX3_fitsPart_56
      · intro h
        refine x_iconst (v := 1) C dX3_fitsPart_51 ic_1 ?_
        refine x_goto (tgt := 56) C dX3_fitsPart_52 (by decide) ?_
        exact xr_z C h dX3_fitsPart_56
    | 1, _, ej =>
      have ex : (e_rem (a1 - 4) 6) = 1 := e_sw (by decide) ej
      rw [if_neg (by rw [ex]; decide), if_pos ex] at h
      refine x_aload_n C dX3_fitsPart_57 rfl 0 rfl ?_
      refine x_iload_n C dX3_fitsPart_58 rfl 1 rfl ?_
      refine x_iconst (v := 0) C dX3_fitsPart_59 ic_0 ?_
      refine x_bipush (v := 9) C dX3_fitsPart_60 bi_9 ?_
      obtain ⟨v1, hv, h⟩ := e_bind h
      refine x_callV_i C (ci := 3) 1 [.int a1, .int 0, .int 9] (tX3_isDigit hJ hv) k_1_192 k_1_194 k_p_2 k_1_2 k_1_195 hyX3_isDigit ⟨rfl, rfl⟩ (by decide) rfl rfl rfl rfl (Nat.le_of_ble_eq_true rfl) dX3_fitsPart_62 ?_
      exact xr_z C h dX3_fitsPart_65
    | 2, _, ej =>
      have ex : (e_rem (a1 - 4) 6) = 2 := e_sw (by decide) ej
      rw [if_neg (by rw [ex]; decide), if_neg (by rw [ex]; decide), if_pos ex] at h
      refine x_aload_n C dX3_fitsPart_66 rfl 0 rfl ?_
      refine x_iload_n C dX3_fitsPart_67 rfl 1 rfl ?_
      refine x_iconst (v := 1) C dX3_fitsPart_68 ic_1 ?_
      refine x_bipush (v := 9) C dX3_fitsPart_69 bi_9 ?_
      obtain ⟨v2, hv, h⟩ := e_bind h
      refine x_callV_i C (ci := 3) 1 [.int a1, .int 1, .int 9] (tX3_isDigit hJ hv) k_1_192 k_1_194 k_p_2 k_1_2 k_1_195 hyX3_isDigit ⟨rfl, rfl⟩ (by decide) rfl rfl rfl rfl (Nat.le_of_ble_eq_true rfl) dX3_fitsPart_71 ?_
      exact xr_z C h dX3_fitsPart_74
    | 3, _, ej =>
      have ex : (e_rem (a1 - 4) 6) = 3 := e_sw (by decide) ej
      rw [if_neg (by rw [ex]; decide), if_neg (by rw [ex]; decide), if_neg (by rw [ex]; decide), if_pos ex] at h
      refine x_aload_n C dX3_fitsPart_75 rfl 0 rfl ?_
      refine x_iload_n C dX3_fitsPart_76 rfl 1 rfl ?_
      refine x_iconst (v := 0) C dX3_fitsPart_77 ic_0 ?_
      refine x_bipush (v := 9) C dX3_fitsPart_78 bi_9 ?_
      obtain ⟨v3, hv, h⟩ := e_bind h
      refine x_callV_i C (ci := 3) 1 [.int a1, .int 0, .int 9] (tX3_isDigit hJ hv) k_1_192 k_1_194 k_p_2 k_1_2 k_1_195 hyX3_isDigit ⟨rfl, rfl⟩ (by decide) rfl rfl rfl rfl (Nat.le_of_ble_eq_true rfl) dX3_fitsPart_80 ?_
      exact xr_z C h dX3_fitsPart_83
    | 4, _, ej =>
      have ex : (e_rem (a1 - 4) 6) = 4 := e_sw (by decide) ej
      rw [if_neg (by rw [ex]; decide), if_neg (by rw [ex]; decide), if_neg (by rw [ex]; decide), if_neg (by rw [ex]; decide), if_pos ex] at h
      refine x_aload_n C dX3_fitsPart_84 rfl 0 rfl ?_
      refine x_iload_n C dX3_fitsPart_85 rfl 1 rfl ?_
      refine x_aload_n C dX3_fitsPart_86 rfl 0 rfl ?_
      refine x_iload_n C dX3_fitsPart_87 rfl 1 rfl ?_
      refine x_iconst (v := 1) C dX3_fitsPart_88 ic_1 ?_
      refine x_isub C dX3_fitsPart_89 ?_
      obtain ⟨v4, hv, h⟩ := e_bind h
      refine x_callV_i C (ci := 3) 1 [.int (a1 - 1)] (tX3_digit hJ hv) k_1_196 k_1_197 k_1_198 k_1_2 k_1_199 hyX3_digit ⟨rfl, rfl⟩ (by decide) rfl rfl rfl rfl (Nat.le_of_ble_eq_true rfl) dX3_fitsPart_90 ?_
      refine x_bipush (v := 9) C dX3_fitsPart_93 bi_9 ?_
      obtain ⟨v5, hv, h⟩ := e_bind h
      refine x_callV_i C (ci := 3) 1 [.int a1, .int v4, .int 9] (tX3_isDigit hJ hv) k_1_192 k_1_194 k_p_2 k_1_2 k_1_195 hyX3_isDigit ⟨rfl, rfl⟩ (by decide) rfl rfl rfl rfl (Nat.le_of_ble_eq_true rfl) dX3_fitsPart_95 ?_
      exact xr_z C h dX3_fitsPart_98
    | j + 5, hj, _ => exact absurd hj (by omega)
  · intro hne
    rw [if_neg (e_sn (j := 0) (by decide) (hne 0 (by decide))), if_neg (e_sn (j := 1) (by decide) (hne 1 (by decide))), if_neg (e_sn (j := 2) (by decide) (hne 2 (by decide))), if_neg (e_sn (j := 3) (by decide) (hne 3 (by decide))), if_neg (e_sn (j := 4) (by decide) (hne 4 (by decide)))] at h
    refine x_aload_n C dX3_fitsPart_99 rfl 0 rfl ?_
    refine x_iload_n C dX3_fitsPart_100 rfl 1 rfl ?_
    refine x_iconst (v := 0) C dX3_fitsPart_101 ic_0 ?_
    refine x_iconst (v := 3) C dX3_fitsPart_102 ic_3 ?_
    obtain ⟨v6, hv, h⟩ := e_bind h
    refine x_callV_i C (ci := 3) 1 [.int a1, .int 0, .int 3] (tX3_isDigit hJ hv) k_1_192 k_1_194 k_p_2 k_1_2 k_1_195 hyX3_isDigit ⟨rfl, rfl⟩ (by decide) rfl rfl rfl rfl (Nat.le_of_ble_eq_true rfl) dX3_fitsPart_103 ?_
    exact xr_z C h dX3_fitsPart_106
set_option maxRecDepth 100000 in
set_option maxHeartbeats 4000000 in
theorem tX3_fitsPart {l : Launch} {dC : Nat → ClassId} {dI : Nat → Nat → Nat} {cI cZ : ClassId} {ad : Nat → Nat} (hJ : eInj 21 ad) {σ : eSt} {a1 : Int32} {z : Int64} {r : Int32} (h : fX3_fitsPart σ a1 = some r) : Con l yX3_fitsPart cX3_fitsPart 2 (some .boolean) rmX3_fitsPart (dC, dI) (xW cI cZ ad) (xA ad) [(cI, .int), (cZ, .boolean)] (ExX ad) [.ref (ad 1), .int a1] σ z (some (.int r)) σ z :=
  x_con (by decide) (xW_D hJ) (ExX_ok ad) (Nat.le_of_ble_eq_true rfl) (fun p e s m args below meth c C => wX3_fitsPart_0 hJ C h)
set_option maxRecDepth 100000 in
set_option maxHeartbeats 4000000 in
theorem wX3_fits_0 (hJ : eInj 21 ad) (C : Cx p s m args meth c (dC, dI) (xW cI cZ ad) (xA ad) (ExX ad) [(cI, .int), (cZ, .boolean)] cX3_fits 2 RX3 (some .boolean) yX3_fits) {σ : eSt} {a1 : Int32} {z : Int64} {r : Int32} (h : fX3_fits σ a1 = some r) : WX p l e rmX3_fits s m args below meth c (MQ below (cQ (dC, dI) (xW cI cZ ad) (xA ad) (some (.int r)) σ z) args s 0 0 (xA ad)) (dC, dI) (xW cI cZ ad) (xA ad) 2 σ z [(0, .ref (ad 1)), (1, .int a1)] 0 [] := by
  unfold fX3_fits at h
  refine x_iload_n C dX3_fits_0 rfl 1 rfl ?_
  refine x_iconst (v := 4) C dX3_fits_1 ic_4 ?_
  refine x_icmp_ge (tgt := 13) C dX3_fits_2 (by decide) h ?_ ?_
  · intro h
    refine x_aload_n C dX3_fits_13 rfl 0 rfl ?_
    refine x_iload_n C dX3_fits_14 rfl 1 rfl ?_
    obtain ⟨v1, hv, h⟩ := e_bind h
    refine x_callV_i C (ci := 3) 1 [.int a1] (tX3_fitsPart hJ hv) k_1_200 k_1_202 k_p_3 k_1_2 k_1_203 hyX3_fitsPart ⟨rfl, rfl⟩ (by decide) rfl rfl rfl rfl (Nat.le_of_ble_eq_true rfl) dX3_fits_15 ?_
    exact xr_z C h dX3_fits_18
  · intro h
    refine x_aload_n C dX3_fits_5 rfl 0 rfl ?_
    refine x_iload_n C dX3_fits_6 rfl 1 rfl ?_
    obtain ⟨v2, hv, h⟩ := e_bind h
    refine x_callV_i C (ci := 3) 1 [.int a1] (tX3_fitsHead hJ hv) k_1_188 k_1_190 k_p_1 k_1_2 k_1_191 hyX3_fitsHead ⟨rfl, rfl⟩ (by decide) rfl rfl rfl rfl (Nat.le_of_ble_eq_true rfl) dX3_fits_7 ?_
    refine x_goto (tgt := 18) C dX3_fits_10 (by decide) ?_
    exact xr_z C h dX3_fits_18
set_option maxRecDepth 100000 in
set_option maxHeartbeats 4000000 in
theorem tX3_fits {l : Launch} {dC : Nat → ClassId} {dI : Nat → Nat → Nat} {cI cZ : ClassId} {ad : Nat → Nat} (hJ : eInj 21 ad) {σ : eSt} {a1 : Int32} {z : Int64} {r : Int32} (h : fX3_fits σ a1 = some r) : Con l yX3_fits cX3_fits 2 (some .boolean) rmX3_fits (dC, dI) (xW cI cZ ad) (xA ad) [(cI, .int), (cZ, .boolean)] (ExX ad) [.ref (ad 1), .int a1] σ z (some (.int r)) σ z :=
  x_con (by decide) (xW_D hJ) (ExX_ok ad) (Nat.le_of_ble_eq_true rfl) (fun p e s m args below meth c C => wX3_fits_0 hJ C h)
set_option maxRecDepth 100000 in
set_option maxHeartbeats 4000000 in
theorem wX3_firstFault_51 (hJ : eInj 21 ad) (C : Cx p s m args meth c (dC, dI) (xW cI cZ ad) (xA ad) (ExX ad) [(cI, .int), (cZ, .boolean)] cX3_firstFault 2 RX3 (some .int) yX3_firstFault) {σ : eSt} {s0 : Int32} {z : Int64} {r : Int32} (h : fX3_firstFault_51 σ s0 = some r) : WX p l e rmX3_firstFault s m args below meth c (MQ below (cQ (dC, dI) (xW cI cZ ad) (xA ad) (some (.int r)) σ z) args s 0 0 (xA ad)) (dC, dI) (xW cI cZ ad) (xA ad) 2 σ z [(0, .ref (ad 1))] 51 [.int s0] := by
  unfold fX3_firstFault_51 at h
  refine x_istore_n (lv' := [(1, .int s0), (0, .ref (ad 1))]) C dX3_firstFault_51 rfl (by decide) rfl ?_
  refine x_iload_n C dX3_firstFault_52 rfl 0 rfl ?_
  refine x_if_eq (tgt := 61) C dX3_firstFault_53 (by decide) h ?_ ?_
  · intro h
    refine x_aload_n C dX3_firstFault_61 rfl 1 rfl ?_
    refine fg_3_1 C 1 rfl rfl k_1_24 dX3_firstFault_62 ?_
    exact xr_i C h dX3_firstFault_65
  · intro h
    refine x_bipush (v := (-9)) C dX3_firstFault_56 bi_m9 ?_
    refine x_goto (tgt := 65) C dX3_firstFault_58 (by decide) ?_
    exact xr_i C h dX3_firstFault_65
set_option maxRecDepth 100000 in
set_option maxHeartbeats 4000000 in
theorem wX3_firstFault_50 (hJ : eInj 21 ad) (C : Cx p s m args meth c (dC, dI) (xW cI cZ ad) (xA ad) (ExX ad) [(cI, .int), (cZ, .boolean)] cX3_firstFault 2 RX3 (some .int) yX3_firstFault) {σ : eSt} {z : Int64} {r : Int32} (h : fX3_firstFault_50 σ = some r) : WX p l e rmX3_firstFault s m args below meth c (MQ below (cQ (dC, dI) (xW cI cZ ad) (xA ad) (some (.int r)) σ z) args s 0 0 (xA ad)) (dC, dI) (xW cI cZ ad) (xA ad) 2 σ z [(0, .ref (ad 1))] 50 [] := by
  unfold fX3_firstFault_50 at h
  refine x_iconst (v := 0) C dX3_firstFault_50 ic_0 ?_
  exact wX3_firstFault_51 hJ C h
set_option maxRecDepth 100000 in
set_option maxHeartbeats 4000000 in
theorem wX3_firstFault_2 (hJ : eInj 21 ad) (C : Cx p s m args meth c (dC, dI) (xW cI cZ ad) (xA ad) (ExX ad) [(cI, .int), (cZ, .boolean)] cX3_firstFault 2 RX3 (some .int) yX3_firstFault) {σ : eSt} {z : Int64} {r : Int32} : ∀ (n : Nat) (a1 : Int32), lo_1 (bX3_firstFault_2 σ) n a1 = some r → WX p l e rmX3_firstFault s m args below meth c (MQ below (cQ (dC, dI) (xW cI cZ ad) (xA ad) (some (.int r)) σ z) args s 0 0 (xA ad)) (dC, dI) (xW cI cZ ad) (xA ad) 2 σ z [(0, .ref (ad 1)), (1, .int a1)] 2 [] := by
  refine lo_1_ind (P := fun a1 => WX p l e rmX3_firstFault s m args below meth c (MQ below (cQ (dC, dI) (xW cI cZ ad) (xA ad) (some (.int r)) σ z) args s 0 0 (xA ad)) (dC, dI) (xW cI cZ ad) (xA ad) 2 σ z [(0, .ref (ad 1)), (1, .int a1)] 2 []) ?_
  intro k2 hk2 a1 h
  unfold bX3_firstFault_2 at h
  refine x_iload_n C dX3_firstFault_2 rfl 1 rfl ?_
  refine x_aload_n C dX3_firstFault_3 rfl 0 rfl ?_
  refine fg_3_1 C 1 rfl rfl k_1_24 dX3_firstFault_4 ?_
  refine x_icmp_ge (tgt := 26) C dX3_firstFault_7 (by decide) h ?_ ?_
  · intro h
    refine x_aload_n C dX3_firstFault_26 rfl 0 rfl ?_
    refine fg_3_1 C 1 rfl rfl k_1_24 dX3_firstFault_27 ?_
    refine x_iconst (v := 4) C dX3_firstFault_30 ic_4 ?_
    refine x_icmp_lt (tgt := 50) C dX3_firstFault_31 (by decide) h ?_ ?_
    · intro h
      refine x_sub (lv' := [(0, .ref (ad 1))]) [0] rfl ?_
      exact wX3_firstFault_50 hJ C h
    · intro h
      refine x_aload_n C dX3_firstFault_34 rfl 0 rfl ?_
      refine fg_3_1 C 1 rfl rfl k_1_24 dX3_firstFault_35 ?_
      refine x_iconst (v := 4) C dX3_firstFault_38 ic_4 ?_
      refine x_isub C dX3_firstFault_39 ?_
      refine x_bipush (v := 6) C dX3_firstFault_40 bi_6 ?_
      refine x_irem_c C dX3_firstFault_42 (by decide) ?_
      refine x_if_ne (tgt := 50) C dX3_firstFault_43 (by decide) h ?_ ?_
      · intro h
        refine x_sub (lv' := [(0, .ref (ad 1))]) [0] rfl ?_
        exact wX3_firstFault_50 hJ C h
      · intro h
        refine x_iconst (v := 1) C dX3_firstFault_46 ic_1 ?_
        refine x_goto (tgt := 51) C dX3_firstFault_47 (by decide) ?_
        refine x_sub (lv' := [(0, .ref (ad 1))]) [0] rfl ?_
        exact wX3_firstFault_51 hJ C h
  · intro h
    refine x_aload_n C dX3_firstFault_10 rfl 0 rfl ?_
    refine x_iload_n C dX3_firstFault_11 rfl 1 rfl ?_
    obtain ⟨v1, hv, h⟩ := e_bind h
    refine x_callV_i C (ci := 3) 1 [.int a1] (tX3_fits hJ hv) k_1_184 k_1_186 k_p_0 k_1_2 k_1_187 hyX3_fits ⟨rfl, rfl⟩ (by decide) rfl rfl rfl rfl (Nat.le_of_ble_eq_true rfl) dX3_firstFault_12 ?_
    refine x_if_ne (tgt := 20) C dX3_firstFault_15 (by decide) h ?_ ?_
    · intro h
      refine x_iinc_b (j := 1) (w := 1) C (fun v2 => [(1, .int v2), (0, .ref (ad 1))]) dX3_firstFault_20 ic_1 rfl (by decide) h (fun _ => rfl) ?_
      intro v2 h
      refine x_goto (tgt := 2) C dX3_firstFault_23 (by decide) ?_
      refine x_sub (lv' := [(0, .ref (ad 1)), (1, .int v2)]) [1, 0] rfl ?_
      exact hk2 _ h
    · intro h
      refine x_iload_n C dX3_firstFault_18 rfl 1 rfl ?_
      exact xr_i C h dX3_firstFault_19
set_option maxRecDepth 100000 in
set_option maxHeartbeats 4000000 in
theorem wX3_firstFault_0 (hJ : eInj 21 ad) (C : Cx p s m args meth c (dC, dI) (xW cI cZ ad) (xA ad) (ExX ad) [(cI, .int), (cZ, .boolean)] cX3_firstFault 2 RX3 (some .int) yX3_firstFault) {σ : eSt} {z : Int64} {r : Int32} (h : fX3_firstFault σ = some r) : WX p l e rmX3_firstFault s m args below meth c (MQ below (cQ (dC, dI) (xW cI cZ ad) (xA ad) (some (.int r)) σ z) args s 0 0 (xA ad)) (dC, dI) (xW cI cZ ad) (xA ad) 2 σ z [(0, .ref (ad 1))] 0 [] := by
  unfold fX3_firstFault at h
  refine x_iconst (v := 0) C dX3_firstFault_0 ic_0 ?_
  refine x_istore_n (lv' := [(1, .int 0), (0, .ref (ad 1))]) C dX3_firstFault_1 rfl (by decide) rfl ?_
  refine x_sub (lv' := [(0, .ref (ad 1)), (1, .int 0)]) [1, 0] rfl ?_
  exact wX3_firstFault_2 hJ C _ _ h
set_option maxRecDepth 100000 in
set_option maxHeartbeats 4000000 in
theorem tX3_firstFault {l : Launch} {dC : Nat → ClassId} {dI : Nat → Nat → Nat} {cI cZ : ClassId} {ad : Nat → Nat} (hJ : eInj 21 ad) {σ : eSt} {z : Int64} {r : Int32} (h : fX3_firstFault σ = some r) : Con l yX3_firstFault cX3_firstFault 2 (some .int) rmX3_firstFault (dC, dI) (xW cI cZ ad) (xA ad) [(cI, .int), (cZ, .boolean)] (ExX ad) [.ref (ad 1)] σ z (some (.int r)) σ z :=
  x_con (by decide) (xW_D hJ) (ExX_ok ad) (Nat.le_of_ble_eq_true rfl) (fun p e s m args below meth c C => wX3_firstFault_0 hJ C h)
set_option maxRecDepth 100000 in
set_option maxHeartbeats 4000000 in
theorem wX4_write_0 (hJ : eInj 21 ad) (C : Cx p s m args meth c (dC, dI) (xW cI cZ ad) (xA ad) (ExX ad) [(cI, .int), (cZ, .boolean)] cX4_write 2 RX4 (some .int) yX4_write) {σ : eSt} {a1 : Int32} {z : Int64} {r : Int32 × eSt} (h : fX4_write σ a1 = some r) : WX p l e rmX4_write s m args below meth c (MQ below (cQ (dC, dI) (xW cI cZ ad) (xA ad) (some (.int r.1)) r.2 z) args s 0 0 (xA ad)) (dC, dI) (xW cI cZ ad) (xA ad) 2 σ z [(0, .ref (ad 0)), (1, .int a1)] 0 [] := by
  unfold fX4_write at h
  refine x_iload_n C dX4_write_0 rfl 1 rfl ?_
  refine x_if_lt (tgt := 11) C dX4_write_1 (by decide) h ?_ ?_
  · intro h
    refine x_bipush (v := (-2)) C dX4_write_11 bi_m2 ?_
    exact xr_wi C h dX4_write_13
  · intro h
    refine x_iload_n C dX4_write_4 rfl 1 rfl ?_
    refine x_sipush (v := 255) C dX4_write_5 si_255 ?_
    refine x_icmp_le (tgt := 14) C dX4_write_8 (by decide) h ?_ ?_
    · intro h
      refine x_aload_n C dX4_write_14 rfl 0 rfl ?_
      refine fg_4_0 C 0 rfl rfl k_1_127 dX4_write_15 ?_
      refine fg_3_1 C 1 rfl rfl k_1_25 dX4_write_18 ?_
      refine x_bipush (v := 40) C dX4_write_21 bi_40 ?_
      refine x_icmp_lt (tgt := 29) C dX4_write_23 (by decide) h ?_ ?_
      · intro h
        refine x_aload_n C dX4_write_29 rfl 0 rfl ?_
        refine fg_4_0 C 0 rfl rfl k_1_127 dX4_write_30 ?_
        refine x_iload_n C dX4_write_33 rfl 1 rfl ?_
        obtain ⟨σ1, hv, h⟩ := e_bind h
        refine x_callV_v C (ci := 3) 1 [.int a1] (tX3_add hJ hv) k_1_168 k_1_169 k_1_170 k_1_2 k_1_171 hyX3_add ⟨rfl, rfl⟩ (by decide) rfl rfl rfl rfl (Nat.le_of_ble_eq_true rfl) dX4_write_34 ?_
        refine x_aload_n C dX4_write_37 rfl 0 rfl ?_
        refine fg_4_0 C 0 rfl rfl k_1_127 dX4_write_38 ?_
        refine fg_3_1 C 1 rfl rfl k_1_25 dX4_write_41 ?_
        exact xr_wi C h dX4_write_44
      · intro h
        refine x_bipush (v := (-4)) C dX4_write_26 bi_m4 ?_
        exact xr_wi C h dX4_write_28
    · intro h
      refine x_bipush (v := (-2)) C dX4_write_11 bi_m2 ?_
      exact xr_wi C h dX4_write_13
set_option maxRecDepth 100000 in
set_option maxHeartbeats 4000000 in
theorem tX4_write {l : Launch} {dC : Nat → ClassId} {dI : Nat → Nat → Nat} {cI cZ : ClassId} {ad : Nat → Nat} (hJ : eInj 21 ad) {σ : eSt} {a1 : Int32} {z : Int64} {r : Int32 × eSt} (h : fX4_write σ a1 = some r) : Con l yX4_write cX4_write 2 (some .int) rmX4_write (dC, dI) (xW cI cZ ad) (xA ad) [(cI, .int), (cZ, .boolean)] (ExX ad) [.ref (ad 0), .int a1] σ z (some (.int r.1)) r.2 z :=
  x_con (by decide) (xW_D hJ) (ExX_ok ad) (Nat.le_of_ble_eq_true rfl) (fun p e s m args below meth c C => wX4_write_0 hJ C h)
set_option maxRecDepth 100000 in
set_option maxHeartbeats 4000000 in
theorem wX4_wipe_0 (hJ : eInj 21 ad) (C : Cx p s m args meth c (dC, dI) (xW cI cZ ad) (xA ad) (ExX ad) [(cI, .int), (cZ, .boolean)] cX4_wipe 2 RX4 (some .int) yX4_wipe) {σ : eSt} {z : Int64} {r : Int32 × eSt} (h : fX4_wipe σ = some r) : WX p l e rmX4_wipe s m args below meth c (MQ below (cQ (dC, dI) (xW cI cZ ad) (xA ad) (some (.int r.1)) r.2 z) args s 0 0 (xA ad)) (dC, dI) (xW cI cZ ad) (xA ad) 2 σ z [(0, .ref (ad 0))] 0 [] := by
  unfold fX4_wipe at h
  refine x_aload_n C dX4_wipe_0 rfl 0 rfl ?_
  refine fg_4_0 C 0 rfl rfl k_1_127 dX4_wipe_1 ?_
  refine fg_3_1 C 1 rfl rfl k_1_25 dX4_wipe_4 ?_
  refine x_istore_n_b C (fun v1 => [(1, .int v1), (0, .ref (ad 0))]) dX4_wipe_7 rfl (by decide) h (fun _ => rfl) ?_
  intro v1 h
  refine x_aload_n C dX4_wipe_8 rfl 1 rfl ?_
  refine fg_4_0 C 0 rfl rfl k_1_127 dX4_wipe_9 ?_
  refine x_iconst (v := 0) C dX4_wipe_12 ic_0 ?_
  refine fp_3_1 C 1 rfl (Nat.le_of_ble_eq_true rfl) k_1_25 h rfl dX4_wipe_13 ?_
  intro σ2 h
  refine x_iload_n C dX4_wipe_16 rfl 0 rfl ?_
  exact xr_wi C h dX4_wipe_17
set_option maxRecDepth 100000 in
set_option maxHeartbeats 4000000 in
theorem tX4_wipe {l : Launch} {dC : Nat → ClassId} {dI : Nat → Nat → Nat} {cI cZ : ClassId} {ad : Nat → Nat} (hJ : eInj 21 ad) {σ : eSt} {z : Int64} {r : Int32 × eSt} (h : fX4_wipe σ = some r) : Con l yX4_wipe cX4_wipe 2 (some .int) rmX4_wipe (dC, dI) (xW cI cZ ad) (xA ad) [(cI, .int), (cZ, .boolean)] (ExX ad) [.ref (ad 0)] σ z (some (.int r.1)) r.2 z :=
  x_con (by decide) (xW_D hJ) (ExX_ok ad) (Nat.le_of_ble_eq_true rfl) (fun p e s m args below meth c C => wX4_wipe_0 hJ C h)
set_option maxRecDepth 100000 in
set_option maxHeartbeats 4000000 in
theorem wX4_fault_0 (hJ : eInj 21 ad) (C : Cx p s m args meth c (dC, dI) (xW cI cZ ad) (xA ad) (ExX ad) [(cI, .int), (cZ, .boolean)] cX4_fault 1 RX4 (some .int) yX4_fault) {σ : eSt} {z : Int64} {r : Int32} (h : fX4_fault σ = some r) : WX p l e rmX4_fault s m args below meth c (MQ below (cQ (dC, dI) (xW cI cZ ad) (xA ad) (some (.int r)) σ z) args s 0 0 (xA ad)) (dC, dI) (xW cI cZ ad) (xA ad) 1 σ z [(0, .ref (ad 0))] 0 [] := by
  unfold fX4_fault at h
  refine x_aload_n C dX4_fault_0 rfl 0 rfl ?_
  refine fg_4_0 C 0 rfl rfl k_1_127 dX4_fault_1 ?_
  obtain ⟨v1, hv, h⟩ := e_bind h
  refine x_callV_i C (ci := 3) 1 [] (tX3_firstFault hJ hv) k_1_180 k_1_181 k_1_182 k_1_2 k_1_183 hyX3_firstFault ⟨rfl, rfl⟩ (by decide) rfl rfl rfl rfl (Nat.le_of_ble_eq_true rfl) dX4_fault_4 ?_
  exact xr_i C h dX4_fault_7
set_option maxRecDepth 100000 in
set_option maxHeartbeats 4000000 in
theorem tX4_fault {l : Launch} {dC : Nat → ClassId} {dI : Nat → Nat → Nat} {cI cZ : ClassId} {ad : Nat → Nat} (hJ : eInj 21 ad) {σ : eSt} {z : Int64} {r : Int32} (h : fX4_fault σ = some r) : Con l yX4_fault cX4_fault 1 (some .int) rmX4_fault (dC, dI) (xW cI cZ ad) (xA ad) [(cI, .int), (cZ, .boolean)] (ExX ad) [.ref (ad 0)] σ z (some (.int r)) σ z :=
  x_con (by decide) (xW_D hJ) (ExX_ok ad) (Nat.le_of_ble_eq_true rfl) (fun p e s m args below meth c C => wX4_fault_0 hJ C h)
set_option maxRecDepth 100000 in
set_option maxHeartbeats 4000000 in
theorem wX4_river_0 (hJ : eInj 21 ad) (C : Cx p s m args meth c (dC, dI) (xW cI cZ ad) (xA ad) (ExX ad) [(cI, .int), (cZ, .boolean)] cX4_river 1 RX4 (some .int) yX4_river) {σ : eSt} {z : Int64} {r : Int32 × eSt} (h : fX4_river σ = some r) : WX p l e rmX4_river s m args below meth c (MQ below (cQ (dC, dI) (xW cI cZ ad) (xA ad) (some (.int r.1)) r.2 z) args s 0 0 (xA ad)) (dC, dI) (xW cI cZ ad) (xA ad) 1 σ z [(0, .ref (ad 0))] 0 [] := by
  unfold fX4_river at h
  refine x_aload_n C dX4_river_0 rfl 0 rfl ?_
  refine fg_4_0 C 0 rfl rfl k_1_127 dX4_river_1 ?_
  obtain ⟨v1, hv, h⟩ := e_bind h
  refine x_callV_i C (ci := 3) 1 [] (tX3_firstFault hJ hv) k_1_180 k_1_181 k_1_182 k_1_2 k_1_183 hyX3_firstFault ⟨rfl, rfl⟩ (by decide) rfl rfl rfl rfl (Nat.le_of_ble_eq_true rfl) dX4_river_4 ?_
  refine x_bipush (v := (-9)) C dX4_river_7 bi_m9 ?_
  refine x_icmp_eq (tgt := 15) C dX4_river_9 (by decide) h ?_ ?_
  · intro h
    refine x_aload_n C dX4_river_15 rfl 0 rfl ?_
    refine fg_4_1 C 0 rfl rfl k_1_128 dX4_river_16 ?_
    refine x_aload_n C dX4_river_19 rfl 0 rfl ?_
    refine fg_4_0 C 0 rfl rfl k_1_127 dX4_river_20 ?_
    obtain ⟨σ2, hv, h⟩ := e_bind h
    refine x_callV_v C (ci := 2) 3 [.ref (ad 1)] (tX2_take hJ hv) k_1_208 k_1_209 k_1_210 k_1_3 k_1_211 hyX2_take ⟨rfl, rfl⟩ (by decide) rfl rfl rfl rfl (Nat.le_of_ble_eq_true rfl) dX4_river_23 ?_
    refine x_aload_n C dX4_river_26 rfl 0 rfl ?_
    refine fg_4_2 C 0 rfl rfl k_1_129 dX4_river_27 ?_
    refine x_aload_n C dX4_river_30 rfl 0 rfl ?_
    refine fg_4_0 C 0 rfl rfl k_1_127 dX4_river_31 ?_
    refine x_iconst (v := 1) C dX4_river_34 ic_1 ?_
    obtain ⟨v3, hv, h⟩ := e_bind h
    refine x_callV_i C (ci := 3) 1 [.int 1] (tX3_digit hJ hv) k_1_219 k_1_197 k_1_198 k_1_2 k_1_199 hyX3_digit ⟨rfl, rfl⟩ (by decide) rfl rfl rfl rfl (Nat.le_of_ble_eq_true rfl) dX4_river_35 ?_
    refine x_aload_n C dX4_river_38 rfl 0 rfl ?_
    refine fg_4_0 C 0 rfl rfl k_1_127 dX4_river_39 ?_
    refine x_iconst (v := 2) C dX4_river_42 ic_2 ?_
    obtain ⟨v4, hv, h⟩ := e_bind h
    refine x_callV_i C (ci := 3) 1 [.int 2] (tX3_digit hJ hv) k_1_219 k_1_197 k_1_198 k_1_2 k_1_199 hyX3_digit ⟨rfl, rfl⟩ (by decide) rfl rfl rfl rfl (Nat.le_of_ble_eq_true rfl) dX4_river_43 ?_
    refine x_aload_n C dX4_river_46 rfl 0 rfl ?_
    refine fg_4_0 C 0 rfl rfl k_1_127 dX4_river_47 ?_
    refine x_iconst (v := 3) C dX4_river_50 ic_3 ?_
    obtain ⟨v5, hv, h⟩ := e_bind h
    refine x_callV_i C (ci := 3) 1 [.int 3] (tX3_digit hJ hv) k_1_219 k_1_197 k_1_198 k_1_2 k_1_199 hyX3_digit ⟨rfl, rfl⟩ (by decide) rfl rfl rfl rfl (Nat.le_of_ble_eq_true rfl) dX4_river_51 ?_
    obtain ⟨σ6, hv, h⟩ := e_bind h
    refine x_callV_v C (ci := 0) 9 [.int v3, .int v4, .int v5] (tX0_begin hJ hv) k_1_220 k_1_221 k_1_222 k_1_4 k_1_223 hyX0_begin ⟨rfl, rfl⟩ (by decide) rfl rfl rfl rfl (Nat.le_of_ble_eq_true rfl) dX4_river_54 ?_
    refine x_aload_n C dX4_river_57 rfl 0 rfl ?_
    refine x_iconst (v := 0) C dX4_river_58 ic_0 ?_
    refine fp_4_5 C 0 rfl (Nat.le_of_ble_eq_true rfl) k_1_132 h rfl dX4_river_59 ?_
    intro σ7 h
    refine x_aload_n C dX4_river_62 rfl 0 rfl ?_
    refine fg_4_6 C 0 rfl rfl k_1_133 dX4_river_63 ?_
    refine x_iconst (v := 0) C dX4_river_66 ic_0 ?_
    refine x_iconst (v := (-1)) C dX4_river_67 ic_m1 ?_
    refine x_iast_c C 16 0 0 rfl rfl dX4_river_68 (by decide) (by decide) h rfl ?_
    intro σ8 h
    refine x_aload_n C dX4_river_69 rfl 0 rfl ?_
    refine fg_4_6 C 0 rfl rfl k_1_133 dX4_river_70 ?_
    refine x_iconst (v := 1) C dX4_river_73 ic_1 ?_
    refine x_iconst (v := (-1)) C dX4_river_74 ic_m1 ?_
    refine x_iast_c C 16 0 1 rfl rfl dX4_river_75 (by decide) (by decide) h rfl ?_
    intro σ9 h
    refine x_aload_n C dX4_river_76 rfl 0 rfl ?_
    refine fg_4_1 C 0 rfl rfl k_1_128 dX4_river_77 ?_
    refine fg_2_5 C 3 rfl rfl k_1_50 dX4_river_80 ?_
    exact xr_wi C h dX4_river_83
  · intro h
    refine x_bipush (v := (-3)) C dX4_river_12 bi_m3 ?_
    exact xr_wi C h dX4_river_14
set_option maxRecDepth 100000 in
set_option maxHeartbeats 4000000 in
theorem tX4_river {l : Launch} {dC : Nat → ClassId} {dI : Nat → Nat → Nat} {cI cZ : ClassId} {ad : Nat → Nat} (hJ : eInj 21 ad) {σ : eSt} {z : Int64} {r : Int32 × eSt} (h : fX4_river σ = some r) : Con l yX4_river cX4_river 1 (some .int) rmX4_river (dC, dI) (xW cI cZ ad) (xA ad) [(cI, .int), (cZ, .boolean)] (ExX ad) [.ref (ad 0)] σ z (some (.int r.1)) r.2 z :=
  x_con (by decide) (xW_D hJ) (ExX_ok ad) (Nat.le_of_ble_eq_true rfl) (fun p e s m args below meth c C => wX4_river_0 hJ C h)
end WK

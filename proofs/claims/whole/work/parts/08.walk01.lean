section WK
variable {p : Program} {l : Launch} {e : Env} {s : State} {m : MethodId} {args : Array Value} {below : List Frame} {meth : Method} {c : Code} {dC : Nat → ClassId} {dI : Nat → Nat → Nat} {cI cZ : ClassId} {ad : Nat → Nat}
set_option maxRecDepth 100000 in
set_option maxHeartbeats 4000000 in
theorem wX4_toldCell_0 (hJ : eInj 21 ad) (C : Cx p s m args meth c (dC, dI) (xW cI cZ ad) (xA ad) (ExX ad) [(cI, .int), (cZ, .boolean)] cX4_toldCell 1 RX4 (some .int) yX4_toldCell) {σ : eSt} {a0 : Int32} {z : Int64} {r : Int32} (h : fX4_toldCell a0 = some r) : WX p l e rmX4_toldCell s m args below meth c (MQ below (cQ (dC, dI) (xW cI cZ ad) (xA ad) (some (.int r)) σ z) args s 0 0 (xA ad)) (dC, dI) (xW cI cZ ad) (xA ad) 1 σ z [(0, .int a0)] 0 [] := by
  unfold fX4_toldCell at h
  refine x_iload_n C dX4_toldCell_0 rfl 0 rfl ?_
  refine x_bipush (v := 10) C dX4_toldCell_1 bi_10 ?_
  refine x_icmp_ne (tgt := 11) C dX4_toldCell_3 (by decide) h ?_ ?_
  · intro h
    refine x_iload_n C dX4_toldCell_11 rfl 0 rfl ?_
    exact xr_i C h dX4_toldCell_12
  · intro h
    refine x_bipush (v := (-9)) C dX4_toldCell_6 bi_m9 ?_
    refine x_goto (tgt := 12) C dX4_toldCell_8 (by decide) ?_
    exact xr_i C h dX4_toldCell_12
set_option maxRecDepth 100000 in
set_option maxHeartbeats 4000000 in
theorem tX4_toldCell {l : Launch} {dC : Nat → ClassId} {dI : Nat → Nat → Nat} {cI cZ : ClassId} {ad : Nat → Nat} (hJ : eInj 21 ad) {a0 : Int32} {σ : eSt} {z : Int64} {r : Int32} (h : fX4_toldCell a0 = some r) : Con l yX4_toldCell cX4_toldCell 1 (some .int) rmX4_toldCell (dC, dI) (xW cI cZ ad) (xA ad) [(cI, .int), (cZ, .boolean)] (ExX ad) [.int a0] σ z (some (.int r)) σ z :=
  x_con (by decide) (xW_D hJ) (ExX_ok ad) (Nat.le_of_ble_eq_true rfl) (fun p e s m args below meth c C => wX4_toldCell_0 hJ C h)
set_option maxRecDepth 100000 in
set_option maxHeartbeats 4000000 in
theorem wX4_about_0 (hJ : eInj 21 ad) (C : Cx p s m args meth c (dC, dI) (xW cI cZ ad) (xA ad) (ExX ad) [(cI, .int), (cZ, .boolean)] cX4_about 2 RX4 (some .int) yX4_about) {σ : eSt} {a1 : Int32} {z : Int64} {r : Int32} (h : fX4_about σ a1 = some r) : WX p l e rmX4_about s m args below meth c (MQ below (cQ (dC, dI) (xW cI cZ ad) (xA ad) (some (.int r)) σ z) args s 0 0 (xA ad)) (dC, dI) (xW cI cZ ad) (xA ad) 2 σ z [(0, .ref (ad 0)), (1, .int a1)] 0 [] := by
  unfold fX4_about at h
  refine x_iload_n C dX4_about_0 rfl 1 rfl ?_
  refine x_tsw C dX4_about_1 (fun j => [64, 72, 80, 88, 96, 104, 112, 120, 131, 142, 147, 155].getD j 0) 163 12 (by decide) ?_ (by decide) ?_ ?_
  · intro j hj
    match j, hj with
    | 0, _ => exact ⟨63, rfl, by decide⟩
    | 1, _ => exact ⟨71, rfl, by decide⟩
    | 2, _ => exact ⟨79, rfl, by decide⟩
    | 3, _ => exact ⟨87, rfl, by decide⟩
    | 4, _ => exact ⟨95, rfl, by decide⟩
    | 5, _ => exact ⟨103, rfl, by decide⟩
    | 6, _ => exact ⟨111, rfl, by decide⟩
    | 7, _ => exact ⟨119, rfl, by decide⟩
    | 8, _ => exact ⟨130, rfl, by decide⟩
    | 9, _ => exact ⟨141, rfl, by decide⟩
    | 10, _ => exact ⟨146, rfl, by decide⟩
    | 11, _ => exact ⟨154, rfl, by decide⟩
    | j + 12, hj => exact absurd hj (by omega)
  · intro j hj ej
    match j, hj, ej with
    | 0, _, ej =>
      have ex : a1 = 0 := e_sw (by decide) ej
      rw [if_pos ex] at h
      refine x_aload_n C dX4_about_64 rfl 0 rfl ?_
      refine fg_4_1 C 0 rfl rfl k_1_128 dX4_about_65 ?_
      refine fg_2_5 C 3 rfl rfl k_1_50 dX4_about_68 ?_
      exact xr_i C h dX4_about_71
    | 1, _, ej =>
      have ex : a1 = 1 := e_sw (by decide) ej
      rw [if_neg (by rw [ex]; decide), if_pos ex] at h
      refine x_aload_n C dX4_about_72 rfl 0 rfl ?_
      refine fg_4_2 C 0 rfl rfl k_1_129 dX4_about_73 ?_
      refine fg_0_0 C 9 rfl rfl k_1_71 dX4_about_76 ?_
      exact xr_i C h dX4_about_79
    | 2, _, ej =>
      have ex : a1 = 2 := e_sw (by decide) ej
      rw [if_neg (by rw [ex]; decide), if_neg (by rw [ex]; decide), if_pos ex] at h
      refine x_aload_n C dX4_about_80 rfl 0 rfl ?_
      refine fg_4_2 C 0 rfl rfl k_1_129 dX4_about_81 ?_
      refine fg_0_1 C 9 rfl rfl k_1_73 dX4_about_84 ?_
      exact xr_i C h dX4_about_87
    | 3, _, ej =>
      have ex : a1 = 3 := e_sw (by decide) ej
      rw [if_neg (by rw [ex]; decide), if_neg (by rw [ex]; decide), if_neg (by rw [ex]; decide), if_pos ex] at h
      refine x_aload_n C dX4_about_88 rfl 0 rfl ?_
      refine fg_4_2 C 0 rfl rfl k_1_129 dX4_about_89 ?_
      refine fg_0_5 C 9 rfl rfl k_1_81 dX4_about_92 ?_
      exact xr_i C h dX4_about_95
    | 4, _, ej =>
      have ex : a1 = 4 := e_sw (by decide) ej
      rw [if_neg (by rw [ex]; decide), if_neg (by rw [ex]; decide), if_neg (by rw [ex]; decide), if_neg (by rw [ex]; decide), if_pos ex] at h
      refine x_aload_n C dX4_about_96 rfl 0 rfl ?_
      refine fg_4_2 C 0 rfl rfl k_1_129 dX4_about_97 ?_
      refine fg_0_6 C 9 rfl rfl k_1_83 dX4_about_100 ?_
      exact xr_i C h dX4_about_103
    | 5, _, ej =>
      have ex : a1 = 5 := e_sw (by decide) ej
      rw [if_neg (by rw [ex]; decide), if_neg (by rw [ex]; decide), if_neg (by rw [ex]; decide), if_neg (by rw [ex]; decide), if_neg (by rw [ex]; decide), if_pos ex] at h
      refine x_aload_n C dX4_about_104 rfl 0 rfl ?_
      refine fg_4_2 C 0 rfl rfl k_1_129 dX4_about_105 ?_
      refine fg_0_2 C 9 rfl rfl k_1_75 dX4_about_108 ?_
      exact xr_i C h dX4_about_111
    | 6, _, ej =>
      have ex : a1 = 6 := e_sw (by decide) ej
      rw [if_neg (by rw [ex]; decide), if_neg (by rw [ex]; decide), if_neg (by rw [ex]; decide), if_neg (by rw [ex]; decide), if_neg (by rw [ex]; decide), if_neg (by rw [ex]; decide), if_pos ex] at h
      refine x_aload_n C dX4_about_112 rfl 0 rfl ?_
      refine fg_4_2 C 0 rfl rfl k_1_129 dX4_about_113 ?_
      obtain ⟨v1, hv, h⟩ := e_bind h
      refine x_callV_i C (ci := 0) 9 [] (tX0_hammerCount hJ hv) k_1_228 k_1_229 k_1_230 k_1_4 k_1_231 hyX0_hammerCount ⟨rfl, rfl⟩ (by decide) rfl rfl rfl rfl (Nat.le_of_ble_eq_true rfl) dX4_about_116 ?_
      exact xr_i C h dX4_about_119
    | 7, _, ej =>
      have ex : a1 = 7 := e_sw (by decide) ej
      rw [if_neg (by rw [ex]; decide), if_neg (by rw [ex]; decide), if_neg (by rw [ex]; decide), if_neg (by rw [ex]; decide), if_neg (by rw [ex]; decide), if_neg (by rw [ex]; decide), if_neg (by rw [ex]; decide), if_pos ex] at h
      refine x_aload_n C dX4_about_120 rfl 0 rfl ?_
      refine fg_4_2 C 0 rfl rfl k_1_129 dX4_about_121 ?_
      refine fg_0_3 C 9 rfl rfl k_1_77 dX4_about_124 ?_
      obtain ⟨v2, hv, h⟩ := e_bind h
      refine x_callS_i C [.int (σ 9 3)] (tX4_toldCell hJ hv) k_1_232 k_1_233 k_1_1 k_1_234 hyX4_toldCell.2 ⟨rfl, rfl⟩ (by decide) rfl rfl (Nat.le_of_ble_eq_true rfl) dX4_about_127 ?_
      exact xr_i C h dX4_about_130
    | 8, _, ej =>
      have ex : a1 = 8 := e_sw (by decide) ej
      rw [if_neg (by rw [ex]; decide), if_neg (by rw [ex]; decide), if_neg (by rw [ex]; decide), if_neg (by rw [ex]; decide), if_neg (by rw [ex]; decide), if_neg (by rw [ex]; decide), if_neg (by rw [ex]; decide), if_neg (by rw [ex]; decide), if_pos ex] at h
      refine x_aload_n C dX4_about_131 rfl 0 rfl ?_
      refine fg_4_2 C 0 rfl rfl k_1_129 dX4_about_132 ?_
      refine fg_0_4 C 9 rfl rfl k_1_79 dX4_about_135 ?_
      obtain ⟨v3, hv, h⟩ := e_bind h
      refine x_callS_i C [.int (σ 9 4)] (tX4_toldCell hJ hv) k_1_232 k_1_233 k_1_1 k_1_234 hyX4_toldCell.2 ⟨rfl, rfl⟩ (by decide) rfl rfl (Nat.le_of_ble_eq_true rfl) dX4_about_138 ?_
      exact xr_i C h dX4_about_141
    | 9, _, ej =>
      have ex : a1 = 9 := e_sw (by decide) ej
      rw [if_neg (by rw [ex]; decide), if_neg (by rw [ex]; decide), if_neg (by rw [ex]; decide), if_neg (by rw [ex]; decide), if_neg (by rw [ex]; decide), if_neg (by rw [ex]; decide), if_neg (by rw [ex]; decide), if_neg (by rw [ex]; decide), if_neg (by rw [ex]; decide), if_pos ex] at h
      refine x_aload_n C dX4_about_142 rfl 0 rfl ?_
      refine fg_4_5 C 0 rfl rfl k_1_132 dX4_about_143 ?_
      exact xr_i C h dX4_about_146
    | 10, _, ej =>
      have ex : a1 = 10 := e_sw (by decide) ej
      rw [if_neg (by rw [ex]; decide), if_neg (by rw [ex]; decide), if_neg (by rw [ex]; decide), if_neg (by rw [ex]; decide), if_neg (by rw [ex]; decide), if_neg (by rw [ex]; decide), if_neg (by rw [ex]; decide), if_neg (by rw [ex]; decide), if_neg (by rw [ex]; decide), if_neg (by rw [ex]; decide), if_pos ex] at h
      refine x_aload_n C dX4_about_147 rfl 0 rfl ?_
      refine fg_4_3 C 0 rfl rfl k_1_130 dX4_about_148 ?_
      refine fg_1_4 C 10 rfl rfl k_1_114 dX4_about_151 ?_
      exact xr_i C h dX4_about_154
    | 11, _, ej =>
      have ex : a1 = 11 := e_sw (by decide) ej
      rw [if_neg (by rw [ex]; decide), if_neg (by rw [ex]; decide), if_neg (by rw [ex]; decide), if_neg (by rw [ex]; decide), if_neg (by rw [ex]; decide), if_neg (by rw [ex]; decide), if_neg (by rw [ex]; decide), if_neg (by rw [ex]; decide), if_neg (by rw [ex]; decide), if_neg (by rw [ex]; decide), if_neg (by rw [ex]; decide), if_pos ex] at h
      refine x_aload_n C dX4_about_155 rfl 0 rfl ?_
      refine fg_4_0 C 0 rfl rfl k_1_127 dX4_about_156 ?_
      refine fg_3_1 C 1 rfl rfl k_1_25 dX4_about_159 ?_
      exact xr_i C h dX4_about_162
    | j + 12, hj, _ => exact absurd hj (by omega)
  · intro hne
    rw [if_neg (e_sn (j := 0) (by decide) (hne 0 (by decide))), if_neg (e_sn (j := 1) (by decide) (hne 1 (by decide))), if_neg (e_sn (j := 2) (by decide) (hne 2 (by decide))), if_neg (e_sn (j := 3) (by decide) (hne 3 (by decide))), if_neg (e_sn (j := 4) (by decide) (hne 4 (by decide))), if_neg (e_sn (j := 5) (by decide) (hne 5 (by decide))), if_neg (e_sn (j := 6) (by decide) (hne 6 (by decide))), if_neg (e_sn (j := 7) (by decide) (hne 7 (by decide))), if_neg (e_sn (j := 8) (by decide) (hne 8 (by decide))), if_neg (e_sn (j := 9) (by decide) (hne 9 (by decide))), if_neg (e_sn (j := 10) (by decide) (hne 10 (by decide))), if_neg (e_sn (j := 11) (by decide) (hne 11 (by decide)))] at h
    refine x_bipush (v := (-2)) C dX4_about_163 bi_m2 ?_
    exact xr_i C h dX4_about_165
set_option maxRecDepth 100000 in
set_option maxHeartbeats 4000000 in
theorem tX4_about {l : Launch} {dC : Nat → ClassId} {dI : Nat → Nat → Nat} {cI cZ : ClassId} {ad : Nat → Nat} (hJ : eInj 21 ad) {σ : eSt} {a1 : Int32} {z : Int64} {r : Int32} (h : fX4_about σ a1 = some r) : Con l yX4_about cX4_about 2 (some .int) rmX4_about (dC, dI) (xW cI cZ ad) (xA ad) [(cI, .int), (cZ, .boolean)] (ExX ad) [.ref (ad 0), .int a1] σ z (some (.int r)) σ z :=
  x_con (by decide) (xW_D hJ) (ExX_ok ad) (Nat.le_of_ble_eq_true rfl) (fun p e s m args below meth c C => wX4_about_0 hJ C h)
set_option maxRecDepth 100000 in
set_option maxHeartbeats 4000000 in
theorem wX4_isHeard_0 (hJ : eInj 21 ad) (C : Cx p s m args meth c (dC, dI) (xW cI cZ ad) (xA ad) (ExX ad) [(cI, .int), (cZ, .boolean)] cX4_isHeard 6 RX4 (some .boolean) yX4_isHeard) {σ : eSt} {a1 : Int32} {a2 : Int32} {a3 : Int32} {a4 : Int32} {a5 : Int32} {z : Int64} {r : Int32} (h : fX4_isHeard σ a1 a2 a3 a4 a5 = some r) : WX p l e rmX4_isHeard s m args below meth c (MQ below (cQ (dC, dI) (xW cI cZ ad) (xA ad) (some (.int r)) σ z) args s 0 0 (xA ad)) (dC, dI) (xW cI cZ ad) (xA ad) 6 σ z [(0, .ref (ad 0)), (1, .int a1), (2, .int a2), (3, .int a3), (4, .int a4), (5, .int a5)] 0 [] := by
  unfold fX4_isHeard at h
  refine x_aload_n C dX4_isHeard_0 rfl 0 rfl ?_
  refine fg_4_2 C 0 rfl rfl k_1_129 dX4_isHeard_1 ?_
  refine fg_0_2 C 9 rfl rfl k_1_75 dX4_isHeard_4 ?_
  refine x_iconst (v := 1) C dX4_isHeard_7 ic_1 ?_
  refine x_iload_n C dX4_isHeard_8 rfl 1 rfl ?_
  refine x_ishl C dX4_isHeard_9 ?_
  refine x_iand C dX4_isHeard_10 ?_
  refine x_if_ne (tgt := 35) C dX4_isHeard_11 (by decide) h ?_ ?_
  · intro h
    refine x_iconst (v := 0) C dX4_isHeard_35 ic_0 ?_
    exact xr_z C h dX4_isHeard_36
  · intro h
    refine x_aload_n C dX4_isHeard_14 rfl 0 rfl ?_
    refine fg_4_1 C 0 rfl rfl k_1_128 dX4_isHeard_15 ?_
    refine x_iload_n C dX4_isHeard_18 rfl 1 rfl ?_
    refine x_iload_n C dX4_isHeard_19 rfl 2 rfl ?_
    refine x_iload_n C dX4_isHeard_20 rfl 3 rfl ?_
    refine x_iload C dX4_isHeard_21 4 rfl ?_
    refine x_iload C dX4_isHeard_23 5 rfl ?_
    obtain ⟨v1, hv, h⟩ := e_bind h
    refine x_callV_i C (ci := 2) 3 [.int a1, .int a2, .int a3, .int a4, .int a5] (tX2_carries hJ hv) k_2_11 k_2_12 k_2_13 k_1_3 k_2_14 hyX2_carries ⟨rfl, rfl⟩ (by decide) rfl rfl rfl rfl (Nat.le_of_ble_eq_true rfl) dX4_isHeard_25 ?_
    refine x_if_eq (tgt := 35) C dX4_isHeard_28 (by decide) h ?_ ?_
    · intro h
      refine x_iconst (v := 0) C dX4_isHeard_35 ic_0 ?_
      exact xr_z C h dX4_isHeard_36
    · intro h
      refine x_iconst (v := 1) C dX4_isHeard_31 ic_1 ?_
      refine x_goto (tgt := 36) C dX4_isHeard_32 (by decide) ?_
      exact xr_z C h dX4_isHeard_36
set_option maxRecDepth 100000 in
set_option maxHeartbeats 4000000 in
theorem tX4_isHeard {l : Launch} {dC : Nat → ClassId} {dI : Nat → Nat → Nat} {cI cZ : ClassId} {ad : Nat → Nat} (hJ : eInj 21 ad) {σ : eSt} {a1 : Int32} {a2 : Int32} {a3 : Int32} {a4 : Int32} {a5 : Int32} {z : Int64} {r : Int32} (h : fX4_isHeard σ a1 a2 a3 a4 a5 = some r) : Con l yX4_isHeard cX4_isHeard 6 (some .boolean) rmX4_isHeard (dC, dI) (xW cI cZ ad) (xA ad) [(cI, .int), (cZ, .boolean)] (ExX ad) [.ref (ad 0), .int a1, .int a2, .int a3, .int a4, .int a5] σ z (some (.int r)) σ z :=
  x_con (by decide) (xW_D hJ) (ExX_ok ad) (Nat.le_of_ble_eq_true rfl) (fun p e s m args below meth c C => wX4_isHeard_0 hJ C h)
set_option maxRecDepth 100000 in
set_option maxHeartbeats 4000000 in
theorem wX4_cellsThatHear_46 (hJ : eInj 21 ad) (C : Cx p s m args meth c (dC, dI) (xW cI cZ ad) (xA ad) (ExX ad) [(cI, .int), (cZ, .boolean)] cX4_cellsThatHear 4 RX4 (some .int) yX4_cellsThatHear) {σ : eSt} {a1 : Int32} {a2 : Int32} {a3 : Int32} {z : Int64} {r : Int32} {k4 : Int32 → Int32 → Option (Int32)} (hk4 : ∀ (a2 : Int32) (a3 : Int32), k4 a2 a3 = some r → WX p l e rmX4_cellsThatHear s m args below meth c (MQ below (cQ (dC, dI) (xW cI cZ ad) (xA ad) (some (.int r)) σ z) args s 0 0 (xA ad)) (dC, dI) (xW cI cZ ad) (xA ad) 4 σ z [(0, .ref (ad 0)), (1, .int a1), (2, .int a2), (3, .int a3)] 4 []) (h : fX4_cellsThatHear_46 k4 σ a1 a2 a3 = some r) : WX p l e rmX4_cellsThatHear s m args below meth c (MQ below (cQ (dC, dI) (xW cI cZ ad) (xA ad) (some (.int r)) σ z) args s 0 0 (xA ad)) (dC, dI) (xW cI cZ ad) (xA ad) 4 σ z [(0, .ref (ad 0)), (1, .int a1), (2, .int a2), (3, .int a3)] 46 [] := by
  unfold fX4_cellsThatHear_46 at h
  refine x_iinc_b (j := 3) (w := 1) C (fun v1 => [(3, .int v1), (0, .ref (ad 0)), (1, .int a1), (2, .int a2)]) dX4_cellsThatHear_46 ic_1 rfl (by decide) h (fun _ => rfl) ?_
  intro v1 h
  refine x_goto (tgt := 4) C dX4_cellsThatHear_49 (by decide) ?_
  refine x_sub (lv' := [(0, .ref (ad 0)), (1, .int a1), (2, .int a2), (3, .int v1)]) [1, 2, 3, 0] rfl ?_
  exact hk4 _ _ h
set_option maxRecDepth 100000 in
set_option maxHeartbeats 4000000 in
theorem wX4_cellsThatHear_4 (hJ : eInj 21 ad) (C : Cx p s m args meth c (dC, dI) (xW cI cZ ad) (xA ad) (ExX ad) [(cI, .int), (cZ, .boolean)] cX4_cellsThatHear 4 RX4 (some .int) yX4_cellsThatHear) {σ : eSt} {a1 : Int32} {z : Int64} {r : Int32} : ∀ (n : Nat) (a2 : Int32) (a3 : Int32), lo_2 (bX4_cellsThatHear_4 σ a1) n a2 a3 = some r → WX p l e rmX4_cellsThatHear s m args below meth c (MQ below (cQ (dC, dI) (xW cI cZ ad) (xA ad) (some (.int r)) σ z) args s 0 0 (xA ad)) (dC, dI) (xW cI cZ ad) (xA ad) 4 σ z [(0, .ref (ad 0)), (1, .int a1), (2, .int a2), (3, .int a3)] 4 [] := by
  refine lo_2_ind (P := fun a2 a3 => WX p l e rmX4_cellsThatHear s m args below meth c (MQ below (cQ (dC, dI) (xW cI cZ ad) (xA ad) (some (.int r)) σ z) args s 0 0 (xA ad)) (dC, dI) (xW cI cZ ad) (xA ad) 4 σ z [(0, .ref (ad 0)), (1, .int a1), (2, .int a2), (3, .int a3)] 4 []) ?_
  intro k4 hk4 a2 a3 h
  unfold bX4_cellsThatHear_4 at h
  refine x_iload_n C dX4_cellsThatHear_4 rfl 3 rfl ?_
  refine x_bipush (v := 10) C dX4_cellsThatHear_5 bi_10 ?_
  refine x_icmp_ge (tgt := 52) C dX4_cellsThatHear_7 (by decide) h ?_ ?_
  · intro h
    refine x_iload_n C dX4_cellsThatHear_52 rfl 2 rfl ?_
    exact xr_i C h dX4_cellsThatHear_53
  · intro h
    refine x_aload_n C dX4_cellsThatHear_10 rfl 0 rfl ?_
    refine x_iload_n C dX4_cellsThatHear_11 rfl 1 rfl ?_
    refine x_iload_n C dX4_cellsThatHear_12 rfl 3 rfl ?_
    refine x_aload_n C dX4_cellsThatHear_13 rfl 0 rfl ?_
    refine fg_4_2 C 0 rfl rfl k_1_129 dX4_cellsThatHear_14 ?_
    refine fg_0_1 C 9 rfl rfl k_1_73 dX4_cellsThatHear_17 ?_
    refine x_aload_n C dX4_cellsThatHear_20 rfl 0 rfl ?_
    refine fg_4_2 C 0 rfl rfl k_1_129 dX4_cellsThatHear_21 ?_
    refine fg_0_5 C 9 rfl rfl k_1_81 dX4_cellsThatHear_24 ?_
    refine x_aload_n C dX4_cellsThatHear_27 rfl 0 rfl ?_
    refine fg_4_2 C 0 rfl rfl k_1_129 dX4_cellsThatHear_28 ?_
    refine fg_0_6 C 9 rfl rfl k_1_83 dX4_cellsThatHear_31 ?_
    obtain ⟨v1, hv, h⟩ := e_bind h
    refine x_callV_i C (ci := 4) 0 [.int a1, .int a3, .int (σ 9 1), .int (σ 9 5), .int (σ 9 6)] (tX4_isHeard hJ hv) k_2_7 k_2_9 k_p_5 k_1_1 k_2_10 hyX4_isHeard ⟨rfl, rfl⟩ (by decide) rfl rfl rfl rfl (Nat.le_of_ble_eq_true rfl) dX4_cellsThatHear_34 ?_
    refine x_if_eq (tgt := 46) C dX4_cellsThatHear_37 (by decide) h ?_ ?_
    · intro h
      exact wX4_cellsThatHear_46 hJ C hk4 h
    · intro h
      refine x_iload_n C dX4_cellsThatHear_40 rfl 2 rfl ?_
      refine x_iconst (v := 1) C dX4_cellsThatHear_41 ic_1 ?_
      refine x_iload_n C dX4_cellsThatHear_42 rfl 3 rfl ?_
      refine x_ishl C dX4_cellsThatHear_43 ?_
      refine x_ior C dX4_cellsThatHear_44 ?_
      refine x_istore_n_b C (fun v2 => [(2, .int v2), (0, .ref (ad 0)), (1, .int a1), (3, .int a3)]) dX4_cellsThatHear_45 rfl (by decide) h (fun _ => rfl) ?_
      intro v2 h
      refine x_sub (lv' := [(0, .ref (ad 0)), (1, .int a1), (2, .int v2), (3, .int a3)]) [1, 2, 0, 3] rfl ?_
      exact wX4_cellsThatHear_46 hJ C hk4 h
set_option maxRecDepth 100000 in
set_option maxHeartbeats 4000000 in
theorem wX4_cellsThatHear_0 (hJ : eInj 21 ad) (C : Cx p s m args meth c (dC, dI) (xW cI cZ ad) (xA ad) (ExX ad) [(cI, .int), (cZ, .boolean)] cX4_cellsThatHear 4 RX4 (some .int) yX4_cellsThatHear) {σ : eSt} {a1 : Int32} {z : Int64} {r : Int32} (h : fX4_cellsThatHear σ a1 = some r) : WX p l e rmX4_cellsThatHear s m args below meth c (MQ below (cQ (dC, dI) (xW cI cZ ad) (xA ad) (some (.int r)) σ z) args s 0 0 (xA ad)) (dC, dI) (xW cI cZ ad) (xA ad) 4 σ z [(0, .ref (ad 0)), (1, .int a1)] 0 [] := by
  unfold fX4_cellsThatHear at h
  refine x_iconst (v := 0) C dX4_cellsThatHear_0 ic_0 ?_
  refine x_istore_n (lv' := [(2, .int 0), (0, .ref (ad 0)), (1, .int a1)]) C dX4_cellsThatHear_1 rfl (by decide) rfl ?_
  refine x_iconst (v := 0) C dX4_cellsThatHear_2 ic_0 ?_
  refine x_istore_n (lv' := [(3, .int 0), (2, .int 0), (0, .ref (ad 0)), (1, .int a1)]) C dX4_cellsThatHear_3 rfl (by decide) rfl ?_
  refine x_sub (lv' := [(0, .ref (ad 0)), (1, .int a1), (2, .int 0), (3, .int 0)]) [2, 3, 1, 0] rfl ?_
  exact wX4_cellsThatHear_4 hJ C _ _ _ h
set_option maxRecDepth 100000 in
set_option maxHeartbeats 4000000 in
theorem tX4_cellsThatHear {l : Launch} {dC : Nat → ClassId} {dI : Nat → Nat → Nat} {cI cZ : ClassId} {ad : Nat → Nat} (hJ : eInj 21 ad) {σ : eSt} {a1 : Int32} {z : Int64} {r : Int32} (h : fX4_cellsThatHear σ a1 = some r) : Con l yX4_cellsThatHear cX4_cellsThatHear 4 (some .int) rmX4_cellsThatHear (dC, dI) (xW cI cZ ad) (xA ad) [(cI, .int), (cZ, .boolean)] (ExX ad) [.ref (ad 0), .int a1] σ z (some (.int r)) σ z :=
  x_con (by decide) (xW_D hJ) (ExX_ok ad) (Nat.le_of_ble_eq_true rfl) (fun p e s m args below meth c C => wX4_cellsThatHear_0 hJ C h)
set_option maxRecDepth 100000 in
set_option maxHeartbeats 4000000 in
theorem wX4_sound_0 (hJ : eInj 21 ad) (C : Cx p s m args meth c (dC, dI) (xW cI cZ ad) (xA ad) (ExX ad) [(cI, .int), (cZ, .boolean)] cX4_sound 3 RX4 (some .int) yX4_sound) {σ : eSt} {a1 : Int32} {a2 : Int32} {z : Int64} {r : Int32} (h : fX4_sound σ a1 a2 = some r) : WX p l e rmX4_sound s m args below meth c (MQ below (cQ (dC, dI) (xW cI cZ ad) (xA ad) (some (.int r)) σ z) args s 0 0 (xA ad)) (dC, dI) (xW cI cZ ad) (xA ad) 3 σ z [(0, .ref (ad 0)), (1, .int a1), (2, .int a2)] 0 [] := by
  unfold fX4_sound at h
  refine x_aload_n C dX4_sound_0 rfl 0 rfl ?_
  refine fg_4_1 C 0 rfl rfl k_1_128 dX4_sound_1 ?_
  refine x_iload_n C dX4_sound_4 rfl 1 rfl ?_
  obtain ⟨v1, hv, h⟩ := e_bind h
  refine x_callV_i C (ci := 2) 3 [.int a1] (tX2_has hJ hv) k_1_239 k_2_0 k_2_1 k_1_3 k_2_2 hyX2_has ⟨rfl, rfl⟩ (by decide) rfl rfl rfl rfl (Nat.le_of_ble_eq_true rfl) dX4_sound_5 ?_
  refine x_if_ne (tgt := 13) C dX4_sound_8 (by decide) h ?_ ?_
  · intro h
    refine x_iload_n C dX4_sound_13 rfl 2 rfl ?_
    refine x_tsw C dX4_sound_14 (fun j => [52, 62, 72, 82, 92, 102].getD j 0) 108 6 (by decide) ?_ (by decide) ?_ ?_
    · intro j hj
      match j, hj with
      | 0, _ => exact ⟨38, rfl, by decide⟩
      | 1, _ => exact ⟨48, rfl, by decide⟩
      | 2, _ => exact ⟨58, rfl, by decide⟩
      | 3, _ => exact ⟨68, rfl, by decide⟩
      | 4, _ => exact ⟨78, rfl, by decide⟩
      | 5, _ => exact ⟨88, rfl, by decide⟩
      | j + 6, hj => exact absurd hj (by omega)
    · intro j hj ej
      match j, hj, ej with
      | 0, _, ej =>
        have ex : a2 = 0 := e_sw (by decide) ej
        rw [if_pos ex] at h
        refine x_aload_n C dX4_sound_52 rfl 0 rfl ?_
        refine fg_4_1 C 0 rfl rfl k_1_128 dX4_sound_53 ?_
        refine fg_2_0 C 3 rfl rfl k_1_40 dX4_sound_56 ?_
        refine x_iload_n C dX4_sound_59 rfl 1 rfl ?_
        refine x_iald C 4 0 rfl rfl dX4_sound_60 h ?_
        intro h
        exact xr_i C h dX4_sound_61
      | 1, _, ej =>
        have ex : a2 = 1 := e_sw (by decide) ej
        rw [if_neg (by rw [ex]; decide), if_pos ex] at h
        refine x_aload_n C dX4_sound_62 rfl 0 rfl ?_
        refine fg_4_1 C 0 rfl rfl k_1_128 dX4_sound_63 ?_
        refine fg_2_1 C 3 rfl rfl k_1_42 dX4_sound_66 ?_
        refine x_iload_n C dX4_sound_69 rfl 1 rfl ?_
        refine x_iald C 5 0 rfl rfl dX4_sound_70 h ?_
        intro h
        exact xr_i C h dX4_sound_71
      | 2, _, ej =>
        have ex : a2 = 2 := e_sw (by decide) ej
        rw [if_neg (by rw [ex]; decide), if_neg (by rw [ex]; decide), if_pos ex] at h
        refine x_aload_n C dX4_sound_72 rfl 0 rfl ?_
        refine fg_4_1 C 0 rfl rfl k_1_128 dX4_sound_73 ?_
        refine fg_2_2 C 3 rfl rfl k_1_44 dX4_sound_76 ?_
        refine x_iload_n C dX4_sound_79 rfl 1 rfl ?_
        refine x_iald C 6 0 rfl rfl dX4_sound_80 h ?_
        intro h
        exact xr_i C h dX4_sound_81
      | 3, _, ej =>
        have ex : a2 = 3 := e_sw (by decide) ej
        rw [if_neg (by rw [ex]; decide), if_neg (by rw [ex]; decide), if_neg (by rw [ex]; decide), if_pos ex] at h
        refine x_aload_n C dX4_sound_82 rfl 0 rfl ?_
        refine fg_4_1 C 0 rfl rfl k_1_128 dX4_sound_83 ?_
        refine fg_2_3 C 3 rfl rfl k_1_46 dX4_sound_86 ?_
        refine x_iload_n C dX4_sound_89 rfl 1 rfl ?_
        refine x_iald C 7 0 rfl rfl dX4_sound_90 h ?_
        intro h
        exact xr_i C h dX4_sound_91
      | 4, _, ej =>
        have ex : a2 = 4 := e_sw (by decide) ej
        rw [if_neg (by rw [ex]; decide), if_neg (by rw [ex]; decide), if_neg (by rw [ex]; decide), if_neg (by rw [ex]; decide), if_pos ex] at h
        refine x_aload_n C dX4_sound_92 rfl 0 rfl ?_
        refine fg_4_1 C 0 rfl rfl k_1_128 dX4_sound_93 ?_
        refine fg_2_4 C 3 rfl rfl k_1_48 dX4_sound_96 ?_
        refine x_iload_n C dX4_sound_99 rfl 1 rfl ?_
        refine x_iald C 8 0 rfl rfl dX4_sound_100 h ?_
        intro h
        exact xr_i C h dX4_sound_101
      | 5, _, ej =>
        have ex : a2 = 5 := e_sw (by decide) ej
        rw [if_neg (by rw [ex]; decide), if_neg (by rw [ex]; decide), if_neg (by rw [ex]; decide), if_neg (by rw [ex]; decide), if_neg (by rw [ex]; decide), if_pos ex] at h
        refine x_aload_n C dX4_sound_102 rfl 0 rfl ?_
        refine x_iload_n C dX4_sound_103 rfl 1 rfl ?_
        obtain ⟨v2, hv, h⟩ := e_bind h
        refine x_callV_i C (ci := 4) 0 [.int a1] (tX4_cellsThatHear hJ hv) k_2_3 k_2_5 k_p_4 k_1_1 k_2_6 hyX4_cellsThatHear ⟨rfl, rfl⟩ (by decide) rfl rfl rfl rfl (Nat.le_of_ble_eq_true rfl) dX4_sound_104 ?_
        exact xr_i C h dX4_sound_107
      | j + 6, hj, _ => exact absurd hj (by omega)
    · intro hne
      rw [if_neg (e_sn (j := 0) (by decide) (hne 0 (by decide))), if_neg (e_sn (j := 1) (by decide) (hne 1 (by decide))), if_neg (e_sn (j := 2) (by decide) (hne 2 (by decide))), if_neg (e_sn (j := 3) (by decide) (hne 3 (by decide))), if_neg (e_sn (j := 4) (by decide) (hne 4 (by decide))), if_neg (e_sn (j := 5) (by decide) (hne 5 (by decide)))] at h
      refine x_bipush (v := (-2)) C dX4_sound_108 bi_m2 ?_
      exact xr_i C h dX4_sound_110
  · intro h
    refine x_iconst (v := (-1)) C dX4_sound_11 ic_m1 ?_
    exact xr_i C h dX4_sound_12
set_option maxRecDepth 100000 in
set_option maxHeartbeats 4000000 in
theorem tX4_sound {l : Launch} {dC : Nat → ClassId} {dI : Nat → Nat → Nat} {cI cZ : ClassId} {ad : Nat → Nat} (hJ : eInj 21 ad) {σ : eSt} {a1 : Int32} {a2 : Int32} {z : Int64} {r : Int32} (h : fX4_sound σ a1 a2 = some r) : Con l yX4_sound cX4_sound 3 (some .int) rmX4_sound (dC, dI) (xW cI cZ ad) (xA ad) [(cI, .int), (cZ, .boolean)] (ExX ad) [.ref (ad 0), .int a1, .int a2] σ z (some (.int r)) σ z :=
  x_con (by decide) (xW_D hJ) (ExX_ok ad) (Nat.le_of_ble_eq_true rfl) (fun p e s m args below meth c C => wX4_sound_0 hJ C h)
set_option maxRecDepth 100000 in
set_option maxHeartbeats 4000000 in
theorem wX4_isCell_0 (hJ : eInj 21 ad) (C : Cx p s m args meth c (dC, dI) (xW cI cZ ad) (xA ad) (ExX ad) [(cI, .int), (cZ, .boolean)] cX4_isCell 1 RX4 (some .boolean) yX4_isCell) {σ : eSt} {a0 : Int32} {z : Int64} {r : Int32} (h : fX4_isCell a0 = some r) : WX p l e rmX4_isCell s m args below meth c (MQ below (cQ (dC, dI) (xW cI cZ ad) (xA ad) (some (.int r)) σ z) args s 0 0 (xA ad)) (dC, dI) (xW cI cZ ad) (xA ad) 1 σ z [(0, .int a0)] 0 [] := by
  unfold fX4_isCell at h
  refine x_iload_n C dX4_isCell_0 rfl 0 rfl ?_
  refine x_if_lt (tgt := 14) C dX4_isCell_1 (by decide) h ?_ ?_
  · intro h
    refine x_iconst (v := 0) C dX4_isCell_14 ic_0 ?_
    exact xr_z C h dX4_isCell_15
  · intro h
    refine x_iload_n C dX4_isCell_4 rfl 0 rfl ?_
    refine x_bipush (v := 10) C dX4_isCell_5 bi_10 ?_
    refine x_icmp_ge (tgt := 14) C dX4_isCell_7 (by decide) h ?_ ?_
    · intro h
      refine x_iconst (v := 0) C dX4_isCell_14 ic_0 ?_
      exact xr_z C h dX4_isCell_15
    · intro h
      refine x_iconst (v := 1) C dX4_isCell_10 ic_1 ?_
      refine x_goto (tgt := 15) C dX4_isCell_11 (by decide) ?_
      exact xr_z C h dX4_isCell_15
set_option maxRecDepth 100000 in
set_option maxHeartbeats 4000000 in
theorem tX4_isCell {l : Launch} {dC : Nat → ClassId} {dI : Nat → Nat → Nat} {cI cZ : ClassId} {ad : Nat → Nat} (hJ : eInj 21 ad) {a0 : Int32} {σ : eSt} {z : Int64} {r : Int32} (h : fX4_isCell a0 = some r) : Con l yX4_isCell cX4_isCell 1 (some .boolean) rmX4_isCell (dC, dI) (xW cI cZ ad) (xA ad) [(cI, .int), (cZ, .boolean)] (ExX ad) [.int a0] σ z (some (.int r)) σ z :=
  x_con (by decide) (xW_D hJ) (ExX_ok ad) (Nat.le_of_ble_eq_true rfl) (fun p e s m args below meth c C => wX4_isCell_0 hJ C h)
set_option maxRecDepth 100000 in
set_option maxHeartbeats 4000000 in
theorem wX4_rememberAct_43 (hJ : eInj 21 ad) (C : Cx p s m args meth c (dC, dI) (xW cI cZ ad) (xA ad) (ExX ad) [(cI, .int), (cZ, .boolean)] cX4_rememberAct 2 RX4 none yX4_rememberAct) {σ : eSt} {z : Int64} {r : eSt} (h : fX4_rememberAct_43 σ = some r) : WX p l e rmX4_rememberAct s m args below meth c (MQ below (cQ (dC, dI) (xW cI cZ ad) (xA ad) none r z) args s 0 0 (xA ad)) (dC, dI) (xW cI cZ ad) (xA ad) 2 σ z [(0, .ref (ad 0))] 43 [] := by
  unfold fX4_rememberAct_43 at h
  refine x_aload_n C dX4_rememberAct_43 rfl 0 rfl ?_
  refine fg_4_4 C 0 rfl rfl k_1_131 dX4_rememberAct_44 ?_
  refine x_aload_n C dX4_rememberAct_47 rfl 0 rfl ?_
  refine fg_4_5 C 0 rfl rfl k_1_132 dX4_rememberAct_48 ?_
  refine x_aload_n C dX4_rememberAct_51 rfl 0 rfl ?_
  refine fg_4_2 C 0 rfl rfl k_1_129 dX4_rememberAct_52 ?_
  obtain ⟨v1, hv, h⟩ := e_bind h
  refine x_callV_i C (ci := 0) 9 [] (tX0_packed hJ hv) k_2_33 k_2_34 k_2_35 k_1_4 k_2_36 hyX0_packed ⟨rfl, rfl⟩ (by decide) rfl rfl rfl rfl (Nat.le_of_ble_eq_true rfl) dX4_rememberAct_55 ?_
  refine x_iast C 15 0 rfl rfl dX4_rememberAct_58 h rfl ?_
  intro σ2 h
  refine x_aload_n C dX4_rememberAct_59 rfl 0 rfl ?_
  refine x_dup C dX4_rememberAct_60 rfl ?_
  refine fg_4_5 C 0 rfl rfl k_1_132 dX4_rememberAct_61 ?_
  refine x_iconst (v := 1) C dX4_rememberAct_64 ic_1 ?_
  refine x_iadd C dX4_rememberAct_65 ?_
  refine fp_4_5 C 0 rfl (Nat.le_of_ble_eq_true rfl) k_1_132 h rfl dX4_rememberAct_66 ?_
  intro σ3 h
  exact xr_wv C h dX4_rememberAct_69
set_option maxRecDepth 100000 in
set_option maxHeartbeats 4000000 in
theorem wX4_rememberAct_11 (hJ : eInj 21 ad) (C : Cx p s m args meth c (dC, dI) (xW cI cZ ad) (xA ad) (ExX ad) [(cI, .int), (cZ, .boolean)] cX4_rememberAct 2 RX4 none yX4_rememberAct) {z : Int64} {r : eSt} : ∀ (n : Nat) (a1 : Int32) (σ : eSt), lo_2 (bX4_rememberAct_11) n a1 σ = some r → WX p l e rmX4_rememberAct s m args below meth c (MQ below (cQ (dC, dI) (xW cI cZ ad) (xA ad) none r z) args s 0 0 (xA ad)) (dC, dI) (xW cI cZ ad) (xA ad) 2 σ z [(0, .ref (ad 0)), (1, .int a1)] 11 [] := by
  refine lo_2_ind (P := fun a1 σ => WX p l e rmX4_rememberAct s m args below meth c (MQ below (cQ (dC, dI) (xW cI cZ ad) (xA ad) none r z) args s 0 0 (xA ad)) (dC, dI) (xW cI cZ ad) (xA ad) 2 σ z [(0, .ref (ad 0)), (1, .int a1)] 11 []) ?_
  intro k11 hk11 a1 σ h
  unfold bX4_rememberAct_11 at h
  refine x_iload_n C dX4_rememberAct_11 rfl 1 rfl ?_
  refine x_bipush (v := 14) C dX4_rememberAct_12 bi_14 ?_
  refine x_icmp_ge (tgt := 37) C dX4_rememberAct_14 (by decide) h ?_ ?_
  · intro h
    refine x_aload_n C dX4_rememberAct_37 rfl 0 rfl ?_
    refine x_bipush (v := 13) C dX4_rememberAct_38 bi_13 ?_
    refine fp_4_5 C 0 rfl (Nat.le_of_ble_eq_true rfl) k_1_132 h rfl dX4_rememberAct_40 ?_
    intro σ1 h
    refine x_sub (lv' := [(0, .ref (ad 0))]) [0] rfl ?_
    exact wX4_rememberAct_43 hJ C h
  · intro h
    refine x_aload_n C dX4_rememberAct_17 rfl 0 rfl ?_
    refine fg_4_4 C 0 rfl rfl k_1_131 dX4_rememberAct_18 ?_
    refine x_iload_n C dX4_rememberAct_21 rfl 1 rfl ?_
    refine x_iconst (v := 1) C dX4_rememberAct_22 ic_1 ?_
    refine x_isub C dX4_rememberAct_23 ?_
    refine x_aload_n C dX4_rememberAct_24 rfl 0 rfl ?_
    refine fg_4_4 C 0 rfl rfl k_1_131 dX4_rememberAct_25 ?_
    refine x_iload_n C dX4_rememberAct_28 rfl 1 rfl ?_
    refine x_iald C 15 0 rfl rfl dX4_rememberAct_29 h ?_
    intro h
    refine x_iast C 15 0 rfl rfl dX4_rememberAct_30 h rfl ?_
    intro σ2 h
    refine x_iinc_b (j := 1) (w := 1) C (fun v3 => [(1, .int v3), (0, .ref (ad 0))]) dX4_rememberAct_31 ic_1 rfl (by decide) h (fun _ => rfl) ?_
    intro v3 h
    refine x_goto (tgt := 11) C dX4_rememberAct_34 (by decide) ?_
    refine x_sub (lv' := [(0, .ref (ad 0)), (1, .int v3)]) [1, 0] rfl ?_
    exact hk11 _ _ h
set_option maxRecDepth 100000 in
set_option maxHeartbeats 4000000 in
theorem wX4_rememberAct_0 (hJ : eInj 21 ad) (C : Cx p s m args meth c (dC, dI) (xW cI cZ ad) (xA ad) (ExX ad) [(cI, .int), (cZ, .boolean)] cX4_rememberAct 2 RX4 none yX4_rememberAct) {σ : eSt} {z : Int64} {r : eSt} (h : fX4_rememberAct σ = some r) : WX p l e rmX4_rememberAct s m args below meth c (MQ below (cQ (dC, dI) (xW cI cZ ad) (xA ad) none r z) args s 0 0 (xA ad)) (dC, dI) (xW cI cZ ad) (xA ad) 2 σ z [(0, .ref (ad 0))] 0 [] := by
  unfold fX4_rememberAct at h
  refine x_aload_n C dX4_rememberAct_0 rfl 0 rfl ?_
  refine fg_4_5 C 0 rfl rfl k_1_132 dX4_rememberAct_1 ?_
  refine x_bipush (v := 14) C dX4_rememberAct_4 bi_14 ?_
  refine x_icmp_lt (tgt := 43) C dX4_rememberAct_6 (by decide) h ?_ ?_
  · intro h
    exact wX4_rememberAct_43 hJ C h
  · intro h
    refine x_iconst (v := 1) C dX4_rememberAct_9 ic_1 ?_
    refine x_istore_n (lv' := [(1, .int 1), (0, .ref (ad 0))]) C dX4_rememberAct_10 rfl (by decide) rfl ?_
    refine x_sub (lv' := [(0, .ref (ad 0)), (1, .int 1)]) [1, 0] rfl ?_
    exact wX4_rememberAct_11 hJ C _ _ _ h
set_option maxRecDepth 100000 in
set_option maxHeartbeats 4000000 in
theorem tX4_rememberAct {l : Launch} {dC : Nat → ClassId} {dI : Nat → Nat → Nat} {cI cZ : ClassId} {ad : Nat → Nat} (hJ : eInj 21 ad) {σ : eSt} {z : Int64} {r : eSt} (h : fX4_rememberAct σ = some r) : Con l yX4_rememberAct cX4_rememberAct 2 none rmX4_rememberAct (dC, dI) (xW cI cZ ad) (xA ad) [(cI, .int), (cZ, .boolean)] (ExX ad) [.ref (ad 0)] σ z none r z :=
  x_con (by decide) (xW_D hJ) (ExX_ok ad) (Nat.le_of_ble_eq_true rfl) (fun p e s m args below meth c C => wX4_rememberAct_0 hJ C h)
set_option maxRecDepth 100000 in
set_option maxHeartbeats 4000000 in
theorem wX4_liveSounds_0 (hJ : eInj 21 ad) (C : Cx p s m args meth c (dC, dI) (xW cI cZ ad) (xA ad) (ExX ad) [(cI, .int), (cZ, .boolean)] cX4_liveSounds 1 RX4 (some .int) yX4_liveSounds) {σ : eSt} {z : Int64} {r : Int32} (h : fX4_liveSounds σ = some r) : WX p l e rmX4_liveSounds s m args below meth c (MQ below (cQ (dC, dI) (xW cI cZ ad) (xA ad) (some (.int r)) σ z) args s 0 0 (xA ad)) (dC, dI) (xW cI cZ ad) (xA ad) 1 σ z [(0, .ref (ad 0))] 0 [] := by
  unfold fX4_liveSounds at h
  refine x_iconst (v := 1) C dX4_liveSounds_0 ic_1 ?_
  refine x_aload_n C dX4_liveSounds_1 rfl 0 rfl ?_
  refine fg_4_1 C 0 rfl rfl k_1_128 dX4_liveSounds_2 ?_
  refine fg_2_5 C 3 rfl rfl k_1_50 dX4_liveSounds_5 ?_
  refine x_ishl C dX4_liveSounds_8 ?_
  refine x_iconst (v := 1) C dX4_liveSounds_9 ic_1 ?_
  refine x_isub C dX4_liveSounds_10 ?_
  refine x_aload_n C dX4_liveSounds_11 rfl 0 rfl ?_
  refine fg_4_2 C 0 rfl rfl k_1_129 dX4_liveSounds_12 ?_
  refine fg_0_2 C 9 rfl rfl k_1_75 dX4_liveSounds_15 ?_
  refine x_iconst (v := (-1)) C dX4_liveSounds_18 ic_m1 ?_
  refine x_ixor C dX4_liveSounds_19 ?_
  refine x_iand C dX4_liveSounds_20 ?_
  exact xr_i C h dX4_liveSounds_21
set_option maxRecDepth 100000 in
set_option maxHeartbeats 4000000 in
theorem tX4_liveSounds {l : Launch} {dC : Nat → ClassId} {dI : Nat → Nat → Nat} {cI cZ : ClassId} {ad : Nat → Nat} (hJ : eInj 21 ad) {σ : eSt} {z : Int64} {r : Int32} (h : fX4_liveSounds σ = some r) : Con l yX4_liveSounds cX4_liveSounds 1 (some .int) rmX4_liveSounds (dC, dI) (xW cI cZ ad) (xA ad) [(cI, .int), (cZ, .boolean)] (ExX ad) [.ref (ad 0)] σ z (some (.int r)) σ z :=
  x_con (by decide) (xW_D hJ) (ExX_ok ad) (Nat.le_of_ble_eq_true rfl) (fun p e s m args below meth c C => wX4_liveSounds_0 hJ C h)
set_option maxRecDepth 100000 in
set_option maxHeartbeats 4000000 in
theorem wX4_soundSet_71 (hJ : eInj 21 ad) (C : Cx p s m args meth c (dC, dI) (xW cI cZ ad) (xA ad) (ExX ad) [(cI, .int), (cZ, .boolean)] cX4_soundSet 7 RX4 (some .int) yX4_soundSet) {σ : eSt} {a1 : Int32} {a2 : Int32} {a3 : Int32} {a4 : Int32} {a5 : Int32} {z : Int64} {r : Int32} {k11 : Int32 → Int32 → Option (Int32)} (hk11 : ∀ (a4 : Int32) (a5 : Int32), k11 a4 a5 = some r → WX p l e rmX4_soundSet s m args below meth c (MQ below (cQ (dC, dI) (xW cI cZ ad) (xA ad) (some (.int r)) σ z) args s 0 0 (xA ad)) (dC, dI) (xW cI cZ ad) (xA ad) 7 σ z [(0, .ref (ad 0)), (1, .int a1), (2, .int a2), (3, .int a3), (4, .int a4), (5, .int a5)] 11 []) (h : fX4_soundSet_71 k11 σ a1 a2 a3 a4 a5 = some r) : WX p l e rmX4_soundSet s m args below meth c (MQ below (cQ (dC, dI) (xW cI cZ ad) (xA ad) (some (.int r)) σ z) args s 0 0 (xA ad)) (dC, dI) (xW cI cZ ad) (xA ad) 7 σ z [(0, .ref (ad 0)), (1, .int a1), (2, .int a2), (3, .int a3), (4, .int a4), (5, .int a5)] 71 [] := by
  unfold fX4_soundSet_71 at h
  refine x_iinc_b (j := 5) (w := 1) C (fun v1 => [(5, .int v1), (0, .ref (ad 0)), (1, .int a1), (2, .int a2), (3, .int a3), (4, .int a4)]) dX4_soundSet_71 ic_1 rfl (by decide) h (fun _ => rfl) ?_
  intro v1 h
  refine x_goto (tgt := 11) C dX4_soundSet_74 (by decide) ?_
  refine x_sub (lv' := [(0, .ref (ad 0)), (1, .int a1), (2, .int a2), (3, .int a3), (4, .int a4), (5, .int v1)]) [1, 2, 3, 4, 5, 0] rfl ?_
  exact hk11 _ _ h
set_option maxRecDepth 100000 in
set_option maxHeartbeats 4000000 in
theorem wX4_soundSet_11 (hJ : eInj 21 ad) (C : Cx p s m args meth c (dC, dI) (xW cI cZ ad) (xA ad) (ExX ad) [(cI, .int), (cZ, .boolean)] cX4_soundSet 7 RX4 (some .int) yX4_soundSet) {σ : eSt} {a1 : Int32} {a2 : Int32} {a3 : Int32} {z : Int64} {r : Int32} : ∀ (n : Nat) (a4 : Int32) (a5 : Int32), lo_2 (bX4_soundSet_11 σ a1 a2 a3) n a4 a5 = some r → WX p l e rmX4_soundSet s m args below meth c (MQ below (cQ (dC, dI) (xW cI cZ ad) (xA ad) (some (.int r)) σ z) args s 0 0 (xA ad)) (dC, dI) (xW cI cZ ad) (xA ad) 7 σ z [(0, .ref (ad 0)), (1, .int a1), (2, .int a2), (3, .int a3), (4, .int a4), (5, .int a5)] 11 [] := by
  refine lo_2_ind (P := fun a4 a5 => WX p l e rmX4_soundSet s m args below meth c (MQ below (cQ (dC, dI) (xW cI cZ ad) (xA ad) (some (.int r)) σ z) args s 0 0 (xA ad)) (dC, dI) (xW cI cZ ad) (xA ad) 7 σ z [(0, .ref (ad 0)), (1, .int a1), (2, .int a2), (3, .int a3), (4, .int a4), (5, .int a5)] 11 []) ?_
  intro k11 hk11 a4 a5 h
  unfold bX4_soundSet_11 at h
  refine x_iload C dX4_soundSet_11 5 rfl ?_
  refine x_aload_n C dX4_soundSet_13 rfl 0 rfl ?_
  refine fg_4_1 C 0 rfl rfl k_1_128 dX4_soundSet_14 ?_
  refine fg_2_5 C 3 rfl rfl k_1_50 dX4_soundSet_17 ?_
  refine x_icmp_ge (tgt := 77) C dX4_soundSet_20 (by decide) h ?_ ?_
  · intro h
    refine x_iload C dX4_soundSet_77 4 rfl ?_
    exact xr_i C h dX4_soundSet_79
  · intro h
    refine x_iconst (v := 1) C dX4_soundSet_23 ic_1 ?_
    refine x_iload C dX4_soundSet_24 5 rfl ?_
    refine x_ishl C dX4_soundSet_26 ?_
    refine x_istore_b C (fun v1 => [(6, .int v1), (0, .ref (ad 0)), (1, .int a1), (2, .int a2), (3, .int a3), (4, .int a4), (5, .int a5)]) dX4_soundSet_27 (by decide) h (fun _ => rfl) ?_
    intro v1 h
    refine x_iload_n C dX4_soundSet_29 rfl 4 rfl ?_
    refine x_iload C dX4_soundSet_30 0 rfl ?_
    refine x_iand C dX4_soundSet_32 ?_
    refine x_if_eq (tgt := 71) C dX4_soundSet_33 (by decide) h ?_ ?_
    · intro h
      refine x_sub (lv' := [(0, .ref (ad 0)), (1, .int a1), (2, .int a2), (3, .int a3), (4, .int a4), (5, .int a5)]) [1, 2, 3, 4, 5, 6] rfl ?_
      exact wX4_soundSet_71 hJ C hk11 h
    · intro h
      refine x_aload_n C dX4_soundSet_36 rfl 1 rfl ?_
      refine fg_4_1 C 0 rfl rfl k_1_128 dX4_soundSet_37 ?_
      refine x_iload C dX4_soundSet_40 6 rfl ?_
      refine x_iload_n C dX4_soundSet_42 rfl 2 rfl ?_
      refine x_iload_n C dX4_soundSet_43 rfl 3 rfl ?_
      refine x_aload_n C dX4_soundSet_44 rfl 1 rfl ?_
      refine fg_4_2 C 0 rfl rfl k_1_129 dX4_soundSet_45 ?_
      refine fg_0_5 C 9 rfl rfl k_1_81 dX4_soundSet_48 ?_
      refine x_aload_n C dX4_soundSet_51 rfl 1 rfl ?_
      refine fg_4_2 C 0 rfl rfl k_1_129 dX4_soundSet_52 ?_
      refine fg_0_6 C 9 rfl rfl k_1_83 dX4_soundSet_55 ?_
      obtain ⟨v2, hv, h⟩ := e_bind h
      refine x_callV_i C (ci := 2) 3 [.int a5, .int a1, .int a2, .int (σ 9 5), .int (σ 9 6)] (tX2_carries hJ hv) k_2_11 k_2_12 k_2_13 k_1_3 k_2_14 hyX2_carries ⟨rfl, rfl⟩ (by decide) rfl rfl rfl rfl (Nat.le_of_ble_eq_true rfl) dX4_soundSet_58 ?_
      refine x_if_eq (tgt := 71) C dX4_soundSet_61 (by decide) h ?_ ?_
      · intro h
        refine x_sub (lv' := [(0, .ref (ad 0)), (1, .int a1), (2, .int a2), (3, .int a3), (4, .int a4), (5, .int a5)]) [1, 2, 3, 4, 5, 6] rfl ?_
        exact wX4_soundSet_71 hJ C hk11 h
      · intro h
        refine x_iload C dX4_soundSet_64 5 rfl ?_
        refine x_iload C dX4_soundSet_66 0 rfl ?_
        refine x_ior C dX4_soundSet_68 ?_
        refine x_istore_b C (fun v3 => [(4, .int v3), (6, .int v1), (0, .ref (ad 0)), (1, .int a1), (2, .int a2), (3, .int a3), (5, .int a5)]) dX4_soundSet_69 (by decide) h (fun _ => rfl) ?_
        intro v3 h
        refine x_sub (lv' := [(0, .ref (ad 0)), (1, .int a1), (2, .int a2), (3, .int a3), (4, .int v3), (5, .int a5)]) [2, 3, 4, 5, 0, 6] rfl ?_
        exact wX4_soundSet_71 hJ C hk11 h
set_option maxRecDepth 100000 in
set_option maxHeartbeats 4000000 in
theorem wX4_soundSet_0 (hJ : eInj 21 ad) (C : Cx p s m args meth c (dC, dI) (xW cI cZ ad) (xA ad) (ExX ad) [(cI, .int), (cZ, .boolean)] cX4_soundSet 7 RX4 (some .int) yX4_soundSet) {σ : eSt} {a1 : Int32} {a2 : Int32} {z : Int64} {r : Int32} (h : fX4_soundSet σ a1 a2 = some r) : WX p l e rmX4_soundSet s m args below meth c (MQ below (cQ (dC, dI) (xW cI cZ ad) (xA ad) (some (.int r)) σ z) args s 0 0 (xA ad)) (dC, dI) (xW cI cZ ad) (xA ad) 7 σ z [(0, .ref (ad 0)), (1, .int a1), (2, .int a2)] 0 [] := by
  unfold fX4_soundSet at h
  refine x_aload_n C dX4_soundSet_0 rfl 0 rfl ?_
  obtain ⟨v1, hv, h⟩ := e_bind h
  refine x_callV_i C (ci := 4) 0 [] (tX4_liveSounds hJ hv) k_2_45 k_2_47 k_p_9 k_1_1 k_2_48 hyX4_liveSounds ⟨rfl, rfl⟩ (by decide) rfl rfl rfl rfl (Nat.le_of_ble_eq_true rfl) dX4_soundSet_1 ?_
  refine x_istore_n (lv' := [(3, .int v1), (0, .ref (ad 0)), (1, .int a1), (2, .int a2)]) C dX4_soundSet_4 rfl (by decide) rfl ?_
  refine x_iconst (v := 0) C dX4_soundSet_5 ic_0 ?_
  refine x_istore (lv' := [(4, .int 0), (3, .int v1), (0, .ref (ad 0)), (1, .int a1), (2, .int a2)]) C dX4_soundSet_6 (by decide) rfl ?_
  refine x_iconst (v := 0) C dX4_soundSet_8 ic_0 ?_
  refine x_istore (lv' := [(5, .int 0), (4, .int 0), (3, .int v1), (0, .ref (ad 0)), (1, .int a1), (2, .int a2)]) C dX4_soundSet_9 (by decide) rfl ?_
  refine x_sub (lv' := [(0, .ref (ad 0)), (1, .int a1), (2, .int a2), (3, .int v1), (4, .int 0), (5, .int 0)]) [3, 4, 5, 2, 1, 0] rfl ?_
  exact wX4_soundSet_11 hJ C _ _ _ h
set_option maxRecDepth 100000 in
set_option maxHeartbeats 4000000 in
theorem tX4_soundSet {l : Launch} {dC : Nat → ClassId} {dI : Nat → Nat → Nat} {cI cZ : ClassId} {ad : Nat → Nat} (hJ : eInj 21 ad) {σ : eSt} {a1 : Int32} {a2 : Int32} {z : Int64} {r : Int32} (h : fX4_soundSet σ a1 a2 = some r) : Con l yX4_soundSet cX4_soundSet 7 (some .int) rmX4_soundSet (dC, dI) (xW cI cZ ad) (xA ad) [(cI, .int), (cZ, .boolean)] (ExX ad) [.ref (ad 0), .int a1, .int a2] σ z (some (.int r)) σ z :=
  x_con (by decide) (xW_D hJ) (ExX_ok ad) (Nat.le_of_ble_eq_true rfl) (fun p e s m args below meth c C => wX4_soundSet_0 hJ C h)
set_option maxRecDepth 100000 in
set_option maxHeartbeats 4000000 in
theorem wX4_hammerSet_40 (hJ : eInj 21 ad) (C : Cx p s m args meth c (dC, dI) (xW cI cZ ad) (xA ad) (ExX ad) [(cI, .int), (cZ, .boolean)] cX4_hammerSet 5 RX4 (some .int) yX4_hammerSet) {σ : eSt} {a1 : Int32} {a3 : Int32} {a4 : Int32} {z : Int64} {r : Int32} (h : fX4_hammerSet_40 σ a1 a3 a4 = some r) : WX p l e rmX4_hammerSet s m args below meth c (MQ below (cQ (dC, dI) (xW cI cZ ad) (xA ad) (some (.int r)) σ z) args s 0 0 (xA ad)) (dC, dI) (xW cI cZ ad) (xA ad) 5 σ z [(0, .ref (ad 0)), (1, .int a1), (3, .int a3), (4, .int a4)] 40 [] := by
  unfold fX4_hammerSet_40 at h
  refine x_iload_n C dX4_hammerSet_40 rfl 2 rfl ?_
  refine x_bipush (v := 10) C dX4_hammerSet_41 bi_10 ?_
  refine x_icmp_eq (tgt := 78) C dX4_hammerSet_43 (by decide) h ?_ ?_
  · intro h
    refine x_iload C dX4_hammerSet_78 3 rfl ?_
    exact xr_i C h dX4_hammerSet_80
  · intro h
    refine x_iconst (v := 0) C dX4_hammerSet_46 ic_0 ?_
    refine x_iconst (v := 3) C dX4_hammerSet_47 ic_3 ?_
    refine x_iload_n C dX4_hammerSet_48 rfl 2 rfl ?_
    refine x_iload_n C dX4_hammerSet_49 rfl 1 rfl ?_
    refine x_aload_n C dX4_hammerSet_50 rfl 0 rfl ?_
    refine fg_4_2 C 0 rfl rfl k_1_129 dX4_hammerSet_51 ?_
    refine fg_0_5 C 9 rfl rfl k_1_81 dX4_hammerSet_54 ?_
    refine x_aload_n C dX4_hammerSet_57 rfl 0 rfl ?_
    refine fg_4_2 C 0 rfl rfl k_1_129 dX4_hammerSet_58 ?_
    refine fg_0_6 C 9 rfl rfl k_1_83 dX4_hammerSet_61 ?_
    obtain ⟨v1, hv, h⟩ := e_bind h
    refine x_callS_i C [.int 0, .int 3, .int a3, .int a1, .int (σ 9 5), .int (σ 9 6)] (tX4_reaches hJ hv) k_2_53 k_2_17 k_1_1 k_2_18 hyX4_reaches.2 ⟨rfl, rfl⟩ (by decide) rfl rfl (Nat.le_of_ble_eq_true rfl) dX4_hammerSet_64 ?_
    refine x_if_eq (tgt := 78) C dX4_hammerSet_67 (by decide) h ?_ ?_
    · intro h
      refine x_iload C dX4_hammerSet_78 3 rfl ?_
      exact xr_i C h dX4_hammerSet_80
    · intro h
      refine x_iload C dX4_hammerSet_70 3 rfl ?_
      refine x_sipush (v := 128) C dX4_hammerSet_72 si_128 ?_
      refine x_ior C dX4_hammerSet_75 ?_
      refine x_istore_b C (fun v2 => [(4, .int v2), (0, .ref (ad 0)), (1, .int a1), (3, .int a3)]) dX4_hammerSet_76 (by decide) h (fun _ => rfl) ?_
      intro v2 h
      refine x_iload C dX4_hammerSet_78 0 rfl ?_
      exact xr_i C h dX4_hammerSet_80
set_option maxRecDepth 100000 in
set_option maxHeartbeats 4000000 in
theorem wX4_hammerSet_0 (hJ : eInj 21 ad) (C : Cx p s m args meth c (dC, dI) (xW cI cZ ad) (xA ad) (ExX ad) [(cI, .int), (cZ, .boolean)] cX4_hammerSet 5 RX4 (some .int) yX4_hammerSet) {σ : eSt} {a1 : Int32} {a2 : Int32} {a3 : Int32} {z : Int64} {r : Int32} (h : fX4_hammerSet σ a1 a2 a3 = some r) : WX p l e rmX4_hammerSet s m args below meth c (MQ below (cQ (dC, dI) (xW cI cZ ad) (xA ad) (some (.int r)) σ z) args s 0 0 (xA ad)) (dC, dI) (xW cI cZ ad) (xA ad) 5 σ z [(0, .ref (ad 0)), (1, .int a1), (2, .int a2), (3, .int a3)] 0 [] := by
  unfold fX4_hammerSet at h
  refine x_iconst (v := 0) C dX4_hammerSet_0 ic_0 ?_
  refine x_istore (lv' := [(4, .int 0), (0, .ref (ad 0)), (1, .int a1), (2, .int a2), (3, .int a3)]) C dX4_hammerSet_1 (by decide) rfl ?_
  refine x_iload_n C dX4_hammerSet_3 rfl 3 rfl ?_
  refine x_bipush (v := 10) C dX4_hammerSet_4 bi_10 ?_
  refine x_icmp_eq (tgt := 40) C dX4_hammerSet_6 (by decide) h ?_ ?_
  · intro h
    refine x_sub (lv' := [(0, .ref (ad 0)), (1, .int a1), (3, .int a3), (4, .int 0)]) [1, 2, 4, 0] rfl ?_
    exact wX4_hammerSet_40 hJ C h
  · intro h
    refine x_iconst (v := 0) C dX4_hammerSet_9 ic_0 ?_
    refine x_iconst (v := 3) C dX4_hammerSet_10 ic_3 ?_
    refine x_iload_n C dX4_hammerSet_11 rfl 3 rfl ?_
    refine x_iload_n C dX4_hammerSet_12 rfl 2 rfl ?_
    refine x_aload_n C dX4_hammerSet_13 rfl 1 rfl ?_
    refine fg_4_2 C 0 rfl rfl k_1_129 dX4_hammerSet_14 ?_
    refine fg_0_5 C 9 rfl rfl k_1_81 dX4_hammerSet_17 ?_
    refine x_aload_n C dX4_hammerSet_20 rfl 1 rfl ?_
    refine fg_4_2 C 0 rfl rfl k_1_129 dX4_hammerSet_21 ?_
    refine fg_0_6 C 9 rfl rfl k_1_83 dX4_hammerSet_24 ?_
    obtain ⟨v1, hv, h⟩ := e_bind h
    refine x_callS_i C [.int 0, .int 3, .int a2, .int a1, .int (σ 9 5), .int (σ 9 6)] (tX4_reaches hJ hv) k_2_53 k_2_17 k_1_1 k_2_18 hyX4_reaches.2 ⟨rfl, rfl⟩ (by decide) rfl rfl (Nat.le_of_ble_eq_true rfl) dX4_hammerSet_27 ?_
    refine x_if_eq (tgt := 40) C dX4_hammerSet_30 (by decide) h ?_ ?_
    · intro h
      refine x_sub (lv' := [(0, .ref (ad 0)), (1, .int a1), (3, .int a3), (4, .int 0)]) [1, 2, 4, 0] rfl ?_
      exact wX4_hammerSet_40 hJ C h
    · intro h
      refine x_iload C dX4_hammerSet_33 0 rfl ?_
      refine x_bipush (v := 64) C dX4_hammerSet_35 bi_64 ?_
      refine x_ior C dX4_hammerSet_37 ?_
      refine x_istore_b C (fun v2 => [(4, .int v2), (0, .ref (ad 0)), (1, .int a1), (2, .int a2), (3, .int a3)]) dX4_hammerSet_38 (by decide) h (fun _ => rfl) ?_
      intro v2 h
      refine x_sub (lv' := [(0, .ref (ad 0)), (1, .int a1), (3, .int a3), (4, .int v2)]) [1, 2, 4, 0] rfl ?_
      exact wX4_hammerSet_40 hJ C h
set_option maxRecDepth 100000 in
set_option maxHeartbeats 4000000 in
theorem tX4_hammerSet {l : Launch} {dC : Nat → ClassId} {dI : Nat → Nat → Nat} {cI cZ : ClassId} {ad : Nat → Nat} (hJ : eInj 21 ad) {σ : eSt} {a1 : Int32} {a2 : Int32} {a3 : Int32} {z : Int64} {r : Int32} (h : fX4_hammerSet σ a1 a2 a3 = some r) : Con l yX4_hammerSet cX4_hammerSet 5 (some .int) rmX4_hammerSet (dC, dI) (xW cI cZ ad) (xA ad) [(cI, .int), (cZ, .boolean)] (ExX ad) [.ref (ad 0), .int a1, .int a2, .int a3] σ z (some (.int r)) σ z :=
  x_con (by decide) (xW_D hJ) (ExX_ok ad) (Nat.le_of_ble_eq_true rfl) (fun p e s m args below meth c C => wX4_hammerSet_0 hJ C h)
set_option maxRecDepth 100000 in
set_option maxHeartbeats 4000000 in
theorem wX4_setNow_0 (hJ : eInj 21 ad) (C : Cx p s m args meth c (dC, dI) (xW cI cZ ad) (xA ad) (ExX ad) [(cI, .int), (cZ, .boolean)] cX4_setNow 3 RX4 (some .int) yX4_setNow) {σ : eSt} {a1 : Int32} {a2 : Int32} {z : Int64} {r : Int32} (h : fX4_setNow σ a1 a2 = some r) : WX p l e rmX4_setNow s m args below meth c (MQ below (cQ (dC, dI) (xW cI cZ ad) (xA ad) (some (.int r)) σ z) args s 0 0 (xA ad)) (dC, dI) (xW cI cZ ad) (xA ad) 3 σ z [(0, .ref (ad 0)), (1, .int a1), (2, .int a2)] 0 [] := by
  unfold fX4_setNow at h
  refine x_aload_n C dX4_setNow_0 rfl 0 rfl ?_
  refine x_iload_n C dX4_setNow_1 rfl 1 rfl ?_
  refine x_iload_n C dX4_setNow_2 rfl 2 rfl ?_
  obtain ⟨v1, hv, h⟩ := e_bind h
  refine x_callV_i C (ci := 4) 0 [.int a1, .int a2] (tX4_soundSet hJ hv) k_2_41 k_2_43 k_p_8 k_1_1 k_2_44 hyX4_soundSet ⟨rfl, rfl⟩ (by decide) rfl rfl rfl rfl (Nat.le_of_ble_eq_true rfl) dX4_setNow_3 ?_
  refine x_aload_n C dX4_setNow_6 rfl 0 rfl ?_
  refine x_iload_n C dX4_setNow_7 rfl 1 rfl ?_
  refine x_aload_n C dX4_setNow_8 rfl 0 rfl ?_
  refine fg_4_2 C 0 rfl rfl k_1_129 dX4_setNow_9 ?_
  refine fg_0_3 C 9 rfl rfl k_1_77 dX4_setNow_12 ?_
  refine x_aload_n C dX4_setNow_15 rfl 0 rfl ?_
  refine fg_4_2 C 0 rfl rfl k_1_129 dX4_setNow_16 ?_
  refine fg_0_4 C 9 rfl rfl k_1_79 dX4_setNow_19 ?_
  obtain ⟨v2, hv, h⟩ := e_bind h
  refine x_callV_i C (ci := 4) 0 [.int a1, .int (σ 9 3), .int (σ 9 4)] (tX4_hammerSet hJ hv) k_2_49 k_2_51 k_p_10 k_1_1 k_2_52 hyX4_hammerSet ⟨rfl, rfl⟩ (by decide) rfl rfl rfl rfl (Nat.le_of_ble_eq_true rfl) dX4_setNow_22 ?_
  refine x_ior C dX4_setNow_25 ?_
  exact xr_i C h dX4_setNow_26
set_option maxRecDepth 100000 in
set_option maxHeartbeats 4000000 in
theorem tX4_setNow {l : Launch} {dC : Nat → ClassId} {dI : Nat → Nat → Nat} {cI cZ : ClassId} {ad : Nat → Nat} (hJ : eInj 21 ad) {σ : eSt} {a1 : Int32} {a2 : Int32} {z : Int64} {r : Int32} (h : fX4_setNow σ a1 a2 = some r) : Con l yX4_setNow cX4_setNow 3 (some .int) rmX4_setNow (dC, dI) (xW cI cZ ad) (xA ad) [(cI, .int), (cZ, .boolean)] (ExX ad) [.ref (ad 0), .int a1, .int a2] σ z (some (.int r)) σ z :=
  x_con (by decide) (xW_D hJ) (ExX_ok ad) (Nat.le_of_ble_eq_true rfl) (fun p e s m args below meth c C => wX4_setNow_0 hJ C h)
set_option maxRecDepth 100000 in
set_option maxHeartbeats 4000000 in
theorem wX4_row_39 (hJ : eInj 21 ad) (C : Cx p s m args meth c (dC, dI) (xW cI cZ ad) (xA ad) (ExX ad) [(cI, .int), (cZ, .boolean)] cX4_row 3 RX4 (some .int) yX4_row) {σ : eSt} {s0 : Int32} {z : Int64} {r : Int32 × eSt} (h : fX4_row_39 σ s0 = some r) : WX p l e rmX4_row s m args below meth c (MQ below (cQ (dC, dI) (xW cI cZ ad) (xA ad) (some (.int r.1)) r.2 z) args s 0 0 (xA ad)) (dC, dI) (xW cI cZ ad) (xA ad) 3 σ z [(0, .ref (ad 0))] 39 [.int s0] := by
  unfold fX4_row_39 at h
  refine x_istore_n (lv' := [(2, .int s0), (0, .ref (ad 0))]) C dX4_row_39 rfl (by decide) rfl ?_
  refine x_iload_n C dX4_row_40 rfl 0 rfl ?_
  obtain ⟨v1, hv, h⟩ := e_bind h
  refine x_callS_i C [.int s0] (tX4_isCell hJ hv) k_2_26 k_2_27 k_1_1 k_2_28 hyX4_isCell.2 ⟨rfl, rfl⟩ (by decide) rfl rfl (Nat.le_of_ble_eq_true rfl) dX4_row_41 ?_
  refine x_if_ne (tgt := 50) C dX4_row_44 (by decide) h ?_ ?_
  · intro h
    refine x_aload_n C dX4_row_50 rfl 1 rfl ?_
    obtain ⟨σ2, hv, h⟩ := e_bind h
    refine x_callV_v C (ci := 4) 0 [] (tX4_rememberAct hJ hv) k_2_29 k_2_31 k_p_6 k_1_1 k_2_32 hyX4_rememberAct ⟨rfl, rfl⟩ (by decide) rfl rfl rfl rfl (Nat.le_of_ble_eq_true rfl) dX4_row_51 ?_
    refine x_aload_n C dX4_row_54 rfl 1 rfl ?_
    refine fg_4_2 C 0 rfl rfl k_1_129 dX4_row_55 ?_
    refine x_iload_n C dX4_row_58 rfl 0 rfl ?_
    refine fp_0_0 C 9 rfl (Nat.le_of_ble_eq_true rfl) k_1_71 h rfl dX4_row_59 ?_
    intro σ3 h
    refine x_aload_n C dX4_row_62 rfl 1 rfl ?_
    refine x_iload_n C dX4_row_63 rfl 0 rfl ?_
    refine x_aload_n C dX4_row_64 rfl 1 rfl ?_
    refine fg_4_2 C 0 rfl rfl k_1_129 dX4_row_65 ?_
    refine fg_0_1 C 9 rfl rfl k_1_73 dX4_row_68 ?_
    obtain ⟨v4, hv, h⟩ := e_bind h
    refine x_callV_i C (ci := 4) 0 [.int s0, .int (σ3 9 1)] (tX4_setNow hJ hv) k_2_37 k_2_39 k_p_7 k_1_1 k_2_40 hyX4_setNow ⟨rfl, rfl⟩ (by decide) rfl rfl rfl rfl (Nat.le_of_ble_eq_true rfl) dX4_row_71 ?_
    exact xr_wi C h dX4_row_74
  · intro h
    refine x_bipush (v := (-3)) C dX4_row_47 bi_m3 ?_
    exact xr_wi C h dX4_row_49
set_option maxRecDepth 100000 in
set_option maxHeartbeats 4000000 in
theorem wX4_row_13 (hJ : eInj 21 ad) (C : Cx p s m args meth c (dC, dI) (xW cI cZ ad) (xA ad) (ExX ad) [(cI, .int), (cZ, .boolean)] cX4_row 3 RX4 (some .int) yX4_row) {σ : eSt} {a1 : Int32} {z : Int64} {r : Int32 × eSt} (h : fX4_row_13 σ a1 = some r) : WX p l e rmX4_row s m args below meth c (MQ below (cQ (dC, dI) (xW cI cZ ad) (xA ad) (some (.int r.1)) r.2 z) args s 0 0 (xA ad)) (dC, dI) (xW cI cZ ad) (xA ad) 3 σ z [(0, .ref (ad 0)), (1, .int a1)] 13 [] := by
  unfold fX4_row_13 at h
  refine x_iload_n C dX4_row_13 rfl 1 rfl ?_
  refine x_iconst (v := 1) C dX4_row_14 ic_1 ?_
  refine x_icmp_ne (tgt := 30) C dX4_row_15 (by decide) h ?_ ?_
  · intro h
    refine x_aload_n C dX4_row_30 rfl 0 rfl ?_
    refine fg_4_2 C 0 rfl rfl k_1_129 dX4_row_31 ?_
    refine fg_0_0 C 9 rfl rfl k_1_71 dX4_row_34 ?_
    refine x_iconst (v := 1) C dX4_row_37 ic_1 ?_
    refine x_isub C dX4_row_38 ?_
    refine x_sub (lv' := [(0, .ref (ad 0))]) [0] rfl ?_
    exact wX4_row_39 hJ C h
  · intro h
    refine x_aload_n C dX4_row_18 rfl 0 rfl ?_
    refine fg_4_2 C 0 rfl rfl k_1_129 dX4_row_19 ?_
    refine fg_0_0 C 9 rfl rfl k_1_71 dX4_row_22 ?_
    refine x_iconst (v := 1) C dX4_row_25 ic_1 ?_
    refine x_iadd C dX4_row_26 ?_
    refine x_goto (tgt := 39) C dX4_row_27 (by decide) ?_
    refine x_sub (lv' := [(0, .ref (ad 0))]) [0] rfl ?_
    exact wX4_row_39 hJ C h
set_option maxRecDepth 100000 in
set_option maxHeartbeats 4000000 in
theorem wX4_row_0 (hJ : eInj 21 ad) (C : Cx p s m args meth c (dC, dI) (xW cI cZ ad) (xA ad) (ExX ad) [(cI, .int), (cZ, .boolean)] cX4_row 3 RX4 (some .int) yX4_row) {σ : eSt} {a1 : Int32} {z : Int64} {r : Int32 × eSt} (h : fX4_row σ a1 = some r) : WX p l e rmX4_row s m args below meth c (MQ below (cQ (dC, dI) (xW cI cZ ad) (xA ad) (some (.int r.1)) r.2 z) args s 0 0 (xA ad)) (dC, dI) (xW cI cZ ad) (xA ad) 3 σ z [(0, .ref (ad 0)), (1, .int a1)] 0 [] := by
  unfold fX4_row at h
  refine x_iload_n C dX4_row_0 rfl 1 rfl ?_
  refine x_iconst (v := 1) C dX4_row_1 ic_1 ?_
  refine x_icmp_eq (tgt := 13) C dX4_row_2 (by decide) h ?_ ?_
  · intro h
    exact wX4_row_13 hJ C h
  · intro h
    refine x_iload_n C dX4_row_5 rfl 1 rfl ?_
    refine x_iconst (v := 2) C dX4_row_6 ic_2 ?_
    refine x_icmp_eq (tgt := 13) C dX4_row_7 (by decide) h ?_ ?_
    · intro h
      exact wX4_row_13 hJ C h
    · intro h
      refine x_bipush (v := (-2)) C dX4_row_10 bi_m2 ?_
      exact xr_wi C h dX4_row_12
set_option maxRecDepth 100000 in
set_option maxHeartbeats 4000000 in
theorem tX4_row {l : Launch} {dC : Nat → ClassId} {dI : Nat → Nat → Nat} {cI cZ : ClassId} {ad : Nat → Nat} (hJ : eInj 21 ad) {σ : eSt} {a1 : Int32} {z : Int64} {r : Int32 × eSt} (h : fX4_row σ a1 = some r) : Con l yX4_row cX4_row 3 (some .int) rmX4_row (dC, dI) (xW cI cZ ad) (xA ad) [(cI, .int), (cZ, .boolean)] (ExX ad) [.ref (ad 0), .int a1] σ z (some (.int r.1)) r.2 z :=
  x_con (by decide) (xW_D hJ) (ExX_ok ad) (Nat.le_of_ble_eq_true rfl) (fun p e s m args below meth c C => wX4_row_0 hJ C h)
set_option maxRecDepth 100000 in
set_option maxHeartbeats 4000000 in
theorem wX4_hush_0 (hJ : eInj 21 ad) (C : Cx p s m args meth c (dC, dI) (xW cI cZ ad) (xA ad) (ExX ad) [(cI, .int), (cZ, .boolean)] cX4_hush 2 RX4 (some .int) yX4_hush) {σ : eSt} {a1 : Int32} {z : Int64} {r : Int32 × eSt} (h : fX4_hush σ a1 = some r) : WX p l e rmX4_hush s m args below meth c (MQ below (cQ (dC, dI) (xW cI cZ ad) (xA ad) (some (.int r.1)) r.2 z) args s 0 0 (xA ad)) (dC, dI) (xW cI cZ ad) (xA ad) 2 σ z [(0, .ref (ad 0)), (1, .int a1)] 0 [] := by
  unfold fX4_hush at h
  refine x_aload_n C dX4_hush_0 rfl 0 rfl ?_
  refine fg_4_1 C 0 rfl rfl k_1_128 dX4_hush_1 ?_
  refine x_iload_n C dX4_hush_4 rfl 1 rfl ?_
  obtain ⟨v1, hv, h⟩ := e_bind h
  refine x_callV_i C (ci := 2) 3 [.int a1] (tX2_has hJ hv) k_1_239 k_2_0 k_2_1 k_1_3 k_2_2 hyX2_has ⟨rfl, rfl⟩ (by decide) rfl rfl rfl rfl (Nat.le_of_ble_eq_true rfl) dX4_hush_5 ?_
  refine x_if_ne (tgt := 13) C dX4_hush_8 (by decide) h ?_ ?_
  · intro h
    refine x_aload_n C dX4_hush_13 rfl 0 rfl ?_
    obtain ⟨σ2, hv, h⟩ := e_bind h
    refine x_callV_v C (ci := 4) 0 [] (tX4_rememberAct hJ hv) k_2_29 k_2_31 k_p_6 k_1_1 k_2_32 hyX4_rememberAct ⟨rfl, rfl⟩ (by decide) rfl rfl rfl rfl (Nat.le_of_ble_eq_true rfl) dX4_hush_14 ?_
    refine x_aload_n C dX4_hush_17 rfl 0 rfl ?_
    refine fg_4_2 C 0 rfl rfl k_1_129 dX4_hush_18 ?_
    refine x_aload_n C dX4_hush_21 rfl 0 rfl ?_
    refine fg_4_2 C 0 rfl rfl k_1_129 dX4_hush_22 ?_
    refine fg_0_2 C 9 rfl rfl k_1_75 dX4_hush_25 ?_
    refine x_iconst (v := 1) C dX4_hush_28 ic_1 ?_
    refine x_iload_n C dX4_hush_29 rfl 1 rfl ?_
    refine x_ishl C dX4_hush_30 ?_
    refine x_ixor C dX4_hush_31 ?_
    refine fp_0_2 C 9 rfl (Nat.le_of_ble_eq_true rfl) k_1_75 h rfl dX4_hush_32 ?_
    intro σ3 h
    refine x_aload_n C dX4_hush_35 rfl 0 rfl ?_
    refine fg_4_2 C 0 rfl rfl k_1_129 dX4_hush_36 ?_
    refine fg_0_2 C 9 rfl rfl k_1_75 dX4_hush_39 ?_
    refine x_iload_n C dX4_hush_42 rfl 1 rfl ?_
    refine x_ishr C dX4_hush_43 ?_
    refine x_iconst (v := 1) C dX4_hush_44 ic_1 ?_
    refine x_iand C dX4_hush_45 ?_
    exact xr_wi C h dX4_hush_46
  · intro h
    refine x_iconst (v := (-1)) C dX4_hush_11 ic_m1 ?_
    exact xr_wi C h dX4_hush_12
set_option maxRecDepth 100000 in
set_option maxHeartbeats 4000000 in
theorem tX4_hush {l : Launch} {dC : Nat → ClassId} {dI : Nat → Nat → Nat} {cI cZ : ClassId} {ad : Nat → Nat} (hJ : eInj 21 ad) {σ : eSt} {a1 : Int32} {z : Int64} {r : Int32 × eSt} (h : fX4_hush σ a1 = some r) : Con l yX4_hush cX4_hush 2 (some .int) rmX4_hush (dC, dI) (xW cI cZ ad) (xA ad) [(cI, .int), (cZ, .boolean)] (ExX ad) [.ref (ad 0), .int a1] σ z (some (.int r.1)) r.2 z :=
  x_con (by decide) (xW_D hJ) (ExX_ok ad) (Nat.le_of_ble_eq_true rfl) (fun p e s m args below meth c C => wX4_hush_0 hJ C h)
set_option maxRecDepth 100000 in
set_option maxHeartbeats 4000000 in
theorem wX4_hammer_83 (hJ : eInj 21 ad) (C : Cx p s m args meth c (dC, dI) (xW cI cZ ad) (xA ad) (ExX ad) [(cI, .int), (cZ, .boolean)] cX4_hammer 3 RX4 (some .int) yX4_hammer) {σ : eSt} {z : Int64} {r : Int32 × eSt} (h : fX4_hammer_83 σ = some r) : WX p l e rmX4_hammer s m args below meth c (MQ below (cQ (dC, dI) (xW cI cZ ad) (xA ad) (some (.int r.1)) r.2 z) args s 0 0 (xA ad)) (dC, dI) (xW cI cZ ad) (xA ad) 3 σ z [(0, .ref (ad 0))] 83 [] := by
  unfold fX4_hammer_83 at h
  refine x_aload_n C dX4_hammer_83 rfl 0 rfl ?_
  refine fg_4_2 C 0 rfl rfl k_1_129 dX4_hammer_84 ?_
  obtain ⟨v1, hv, h⟩ := e_bind h
  refine x_callV_i C (ci := 0) 9 [] (tX0_hammerCount hJ hv) k_1_228 k_1_229 k_1_230 k_1_4 k_1_231 hyX0_hammerCount ⟨rfl, rfl⟩ (by decide) rfl rfl rfl rfl (Nat.le_of_ble_eq_true rfl) dX4_hammer_87 ?_
  exact xr_wi C h dX4_hammer_90
set_option maxRecDepth 100000 in
set_option maxHeartbeats 4000000 in
theorem wX4_hammer_56 (hJ : eInj 21 ad) (C : Cx p s m args meth c (dC, dI) (xW cI cZ ad) (xA ad) (ExX ad) [(cI, .int), (cZ, .boolean)] cX4_hammer 3 RX4 (some .int) yX4_hammer) {σ : eSt} {a1 : Int32} {a2 : Int32} {z : Int64} {r : Int32 × eSt} (h : fX4_hammer_56 σ a1 a2 = some r) : WX p l e rmX4_hammer s m args below meth c (MQ below (cQ (dC, dI) (xW cI cZ ad) (xA ad) (some (.int r.1)) r.2 z) args s 0 0 (xA ad)) (dC, dI) (xW cI cZ ad) (xA ad) 3 σ z [(0, .ref (ad 0)), (1, .int a1), (2, .int a2)] 56 [] := by
  unfold fX4_hammer_56 at h
  refine x_aload_n C dX4_hammer_56 rfl 0 rfl ?_
  obtain ⟨σ1, hv, h⟩ := e_bind h
  refine x_callV_v C (ci := 4) 0 [] (tX4_rememberAct hJ hv) k_2_29 k_2_31 k_p_6 k_1_1 k_2_32 hyX4_rememberAct ⟨rfl, rfl⟩ (by decide) rfl rfl rfl rfl (Nat.le_of_ble_eq_true rfl) dX4_hammer_57 ?_
  refine x_iload_n C dX4_hammer_60 rfl 2 rfl ?_
  refine x_if_eq (tgt := 75) C dX4_hammer_61 (by decide) h ?_ ?_
  · intro h
    refine x_aload_n C dX4_hammer_75 rfl 0 rfl ?_
    refine fg_4_2 C 0 rfl rfl k_1_129 dX4_hammer_76 ?_
    refine x_iload_n C dX4_hammer_79 rfl 1 rfl ?_
    obtain ⟨σ2, hv, h⟩ := e_bind h
    refine x_callV_v C (ci := 0) 9 [.int a1] (tX0_putHammer hJ hv) k_2_66 k_2_67 k_2_68 k_1_4 k_2_69 hyX0_putHammer ⟨rfl, rfl⟩ (by decide) rfl rfl rfl rfl (Nat.le_of_ble_eq_true rfl) dX4_hammer_80 ?_
    refine x_sub (lv' := [(0, .ref (ad 0))]) [0] rfl ?_
    exact wX4_hammer_83 hJ C h
  · intro h
    refine x_aload_n C dX4_hammer_64 rfl 0 rfl ?_
    refine fg_4_2 C 0 rfl rfl k_1_129 dX4_hammer_65 ?_
    refine x_iload_n C dX4_hammer_68 rfl 1 rfl ?_
    obtain ⟨σ3, hv, h⟩ := e_bind h
    refine x_callV_v C (ci := 0) 9 [.int a1] (tX0_takeHammer hJ hv) k_2_62 k_2_63 k_2_64 k_1_4 k_2_65 hyX0_takeHammer ⟨rfl, rfl⟩ (by decide) rfl rfl rfl rfl (Nat.le_of_ble_eq_true rfl) dX4_hammer_69 ?_
    refine x_goto (tgt := 83) C dX4_hammer_72 (by decide) ?_
    refine x_sub (lv' := [(0, .ref (ad 0))]) [0] rfl ?_
    exact wX4_hammer_83 hJ C h
set_option maxRecDepth 100000 in
set_option maxHeartbeats 4000000 in
theorem wX4_hammer_37 (hJ : eInj 21 ad) (C : Cx p s m args meth c (dC, dI) (xW cI cZ ad) (xA ad) (ExX ad) [(cI, .int), (cZ, .boolean)] cX4_hammer 3 RX4 (some .int) yX4_hammer) {σ : eSt} {a1 : Int32} {s0 : Int32} {z : Int64} {r : Int32 × eSt} (h : fX4_hammer_37 σ a1 s0 = some r) : WX p l e rmX4_hammer s m args below meth c (MQ below (cQ (dC, dI) (xW cI cZ ad) (xA ad) (some (.int r.1)) r.2 z) args s 0 0 (xA ad)) (dC, dI) (xW cI cZ ad) (xA ad) 3 σ z [(0, .ref (ad 0)), (1, .int a1)] 37 [.int s0] := by
  unfold fX4_hammer_37 at h
  refine x_istore_n (lv' := [(2, .int s0), (0, .ref (ad 0)), (1, .int a1)]) C dX4_hammer_37 rfl (by decide) rfl ?_
  refine x_iload_n C dX4_hammer_38 rfl 0 rfl ?_
  refine x_if_ne (tgt := 56) C dX4_hammer_39 (by decide) h ?_ ?_
  · intro h
    refine x_sub (lv' := [(0, .ref (ad 0)), (1, .int a1), (2, .int s0)]) [1, 2, 0] rfl ?_
    exact wX4_hammer_56 hJ C h
  · intro h
    refine x_aload_n C dX4_hammer_42 rfl 1 rfl ?_
    refine fg_4_2 C 0 rfl rfl k_1_129 dX4_hammer_43 ?_
    obtain ⟨v1, hv, h⟩ := e_bind h
    refine x_callV_i C (ci := 0) 9 [] (tX0_hammerCount hJ hv) k_1_228 k_1_229 k_1_230 k_1_4 k_1_231 hyX0_hammerCount ⟨rfl, rfl⟩ (by decide) rfl rfl rfl rfl (Nat.le_of_ble_eq_true rfl) dX4_hammer_46 ?_
    refine x_iconst (v := 2) C dX4_hammer_49 ic_2 ?_
    refine x_icmp_ne (tgt := 56) C dX4_hammer_50 (by decide) h ?_ ?_
    · intro h
      refine x_sub (lv' := [(0, .ref (ad 0)), (1, .int a1), (2, .int s0)]) [1, 2, 0] rfl ?_
      exact wX4_hammer_56 hJ C h
    · intro h
      refine x_bipush (v := (-4)) C dX4_hammer_53 bi_m4 ?_
      exact xr_wi C h dX4_hammer_55
set_option maxRecDepth 100000 in
set_option maxHeartbeats 4000000 in
theorem wX4_hammer_32 (hJ : eInj 21 ad) (C : Cx p s m args meth c (dC, dI) (xW cI cZ ad) (xA ad) (ExX ad) [(cI, .int), (cZ, .boolean)] cX4_hammer 3 RX4 (some .int) yX4_hammer) {σ : eSt} {a1 : Int32} {z : Int64} {r : Int32 × eSt} (h : fX4_hammer_32 σ a1 = some r) : WX p l e rmX4_hammer s m args below meth c (MQ below (cQ (dC, dI) (xW cI cZ ad) (xA ad) (some (.int r.1)) r.2 z) args s 0 0 (xA ad)) (dC, dI) (xW cI cZ ad) (xA ad) 3 σ z [(0, .ref (ad 0)), (1, .int a1)] 32 [] := by
  unfold fX4_hammer_32 at h
  refine x_iconst (v := 1) C dX4_hammer_32 ic_1 ?_
  refine x_goto (tgt := 37) C dX4_hammer_33 (by decide) ?_
  exact wX4_hammer_37 hJ C h
set_option maxRecDepth 100000 in
set_option maxHeartbeats 4000000 in
theorem wX4_hammer_0 (hJ : eInj 21 ad) (C : Cx p s m args meth c (dC, dI) (xW cI cZ ad) (xA ad) (ExX ad) [(cI, .int), (cZ, .boolean)] cX4_hammer 3 RX4 (some .int) yX4_hammer) {σ : eSt} {a1 : Int32} {z : Int64} {r : Int32 × eSt} (h : fX4_hammer σ a1 = some r) : WX p l e rmX4_hammer s m args below meth c (MQ below (cQ (dC, dI) (xW cI cZ ad) (xA ad) (some (.int r.1)) r.2 z) args s 0 0 (xA ad)) (dC, dI) (xW cI cZ ad) (xA ad) 3 σ z [(0, .ref (ad 0)), (1, .int a1)] 0 [] := by
  unfold fX4_hammer at h
  refine x_iload_n C dX4_hammer_0 rfl 1 rfl ?_
  obtain ⟨v1, hv, h⟩ := e_bind h
  refine x_callS_i C [.int a1] (tX4_isCell hJ hv) k_2_26 k_2_27 k_1_1 k_2_28 hyX4_isCell.2 ⟨rfl, rfl⟩ (by decide) rfl rfl (Nat.le_of_ble_eq_true rfl) dX4_hammer_1 ?_
  refine x_if_ne (tgt := 10) C dX4_hammer_4 (by decide) h ?_ ?_
  · intro h
    refine x_aload_n C dX4_hammer_10 rfl 0 rfl ?_
    refine fg_4_2 C 0 rfl rfl k_1_129 dX4_hammer_11 ?_
    refine fg_0_3 C 9 rfl rfl k_1_77 dX4_hammer_14 ?_
    refine x_iload_n C dX4_hammer_17 rfl 1 rfl ?_
    refine x_icmp_eq (tgt := 32) C dX4_hammer_18 (by decide) h ?_ ?_
    · intro h
      exact wX4_hammer_32 hJ C h
    · intro h
      refine x_aload_n C dX4_hammer_21 rfl 0 rfl ?_
      refine fg_4_2 C 0 rfl rfl k_1_129 dX4_hammer_22 ?_
      refine fg_0_4 C 9 rfl rfl k_1_79 dX4_hammer_25 ?_
      refine x_iload_n C dX4_hammer_28 rfl 1 rfl ?_
      refine x_icmp_ne (tgt := 36) C dX4_hammer_29 (by decide) h ?_ ?_
      · intro h
        refine x_iconst (v := 0) C dX4_hammer_36 ic_0 ?_
        exact wX4_hammer_37 hJ C h
      · intro h
        exact wX4_hammer_32 hJ C h
  · intro h
    refine x_bipush (v := (-2)) C dX4_hammer_7 bi_m2 ?_
    exact xr_wi C h dX4_hammer_9
set_option maxRecDepth 100000 in
set_option maxHeartbeats 4000000 in
theorem tX4_hammer {l : Launch} {dC : Nat → ClassId} {dI : Nat → Nat → Nat} {cI cZ : ClassId} {ad : Nat → Nat} (hJ : eInj 21 ad) {σ : eSt} {a1 : Int32} {z : Int64} {r : Int32 × eSt} (h : fX4_hammer σ a1 = some r) : Con l yX4_hammer cX4_hammer 3 (some .int) rmX4_hammer (dC, dI) (xW cI cZ ad) (xA ad) [(cI, .int), (cZ, .boolean)] (ExX ad) [.ref (ad 0), .int a1] σ z (some (.int r.1)) r.2 z :=
  x_con (by decide) (xW_D hJ) (ExX_ok ad) (Nat.le_of_ble_eq_true rfl) (fun p e s m args below meth c C => wX4_hammer_0 hJ C h)
set_option maxRecDepth 100000 in
set_option maxHeartbeats 4000000 in
theorem wX4_change_46 (hJ : eInj 21 ad) (C : Cx p s m args meth c (dC, dI) (xW cI cZ ad) (xA ad) (ExX ad) [(cI, .int), (cZ, .boolean)] cX4_change 4 RX4 (some .int) yX4_change) {σ : eSt} {a1 : Int32} {a2 : Int32} {z : Int64} {r : Int32 × eSt} (h : fX4_change_46 σ a1 a2 = some r) : WX p l e rmX4_change s m args below meth c (MQ below (cQ (dC, dI) (xW cI cZ ad) (xA ad) (some (.int r.1)) r.2 z) args s 0 0 (xA ad)) (dC, dI) (xW cI cZ ad) (xA ad) 4 σ z [(0, .ref (ad 0)), (1, .int a1), (2, .int a2)] 46 [] := by
  unfold fX4_change_46 at h
  refine x_aload_n C dX4_change_46 rfl 0 rfl ?_
  obtain ⟨σ1, hv, h⟩ := e_bind h
  refine x_callV_v C (ci := 4) 0 [] (tX4_rememberAct hJ hv) k_2_29 k_2_31 k_p_6 k_1_1 k_2_32 hyX4_rememberAct ⟨rfl, rfl⟩ (by decide) rfl rfl rfl rfl (Nat.le_of_ble_eq_true rfl) dX4_change_47 ?_
  refine x_bipush (v := 10) C dX4_change_50 bi_10 ?_
  refine x_aload_n C dX4_change_52 rfl 0 rfl ?_
  refine fg_4_2 C 0 rfl rfl k_1_129 dX4_change_53 ?_
  refine fg_0_5 C 9 rfl rfl k_1_81 dX4_change_56 ?_
  refine x_imul C dX4_change_59 ?_
  refine x_aload_n C dX4_change_60 rfl 0 rfl ?_
  refine fg_4_2 C 0 rfl rfl k_1_129 dX4_change_61 ?_
  refine fg_0_6 C 9 rfl rfl k_1_83 dX4_change_64 ?_
  refine x_iadd C dX4_change_67 ?_
  refine x_istore_n_b C (fun v2 => [(3, .int v2), (0, .ref (ad 0)), (1, .int a1), (2, .int a2)]) dX4_change_68 rfl (by decide) h (fun _ => rfl) ?_
  intro v2 h
  refine x_aload_n C dX4_change_69 rfl 1 rfl ?_
  refine fg_4_2 C 0 rfl rfl k_1_129 dX4_change_70 ?_
  refine x_iload_n C dX4_change_73 rfl 2 rfl ?_
  refine fp_0_5 C 9 rfl (Nat.le_of_ble_eq_true rfl) k_1_81 h rfl dX4_change_74 ?_
  intro σ3 h
  refine x_aload_n C dX4_change_77 rfl 1 rfl ?_
  refine fg_4_2 C 0 rfl rfl k_1_129 dX4_change_78 ?_
  refine x_iload_n C dX4_change_81 rfl 3 rfl ?_
  refine fp_0_6 C 9 rfl (Nat.le_of_ble_eq_true rfl) k_1_83 h rfl dX4_change_82 ?_
  intro σ4 h
  refine x_iload_n C dX4_change_85 rfl 0 rfl ?_
  exact xr_wi C h dX4_change_86
set_option maxRecDepth 100000 in
set_option maxHeartbeats 4000000 in
theorem wX4_change_0 (hJ : eInj 21 ad) (C : Cx p s m args meth c (dC, dI) (xW cI cZ ad) (xA ad) (ExX ad) [(cI, .int), (cZ, .boolean)] cX4_change 4 RX4 (some .int) yX4_change) {σ : eSt} {a1 : Int32} {a2 : Int32} {z : Int64} {r : Int32 × eSt} (h : fX4_change σ a1 a2 = some r) : WX p l e rmX4_change s m args below meth c (MQ below (cQ (dC, dI) (xW cI cZ ad) (xA ad) (some (.int r.1)) r.2 z) args s 0 0 (xA ad)) (dC, dI) (xW cI cZ ad) (xA ad) 4 σ z [(0, .ref (ad 0)), (1, .int a1), (2, .int a2)] 0 [] := by
  unfold fX4_change at h
  refine x_iload_n C dX4_change_0 rfl 1 rfl ?_
  refine x_if_lt (tgt := 18) C dX4_change_1 (by decide) h ?_ ?_
  · intro h
    refine x_bipush (v := (-2)) C dX4_change_18 bi_m2 ?_
    exact xr_wi C h dX4_change_20
  · intro h
    refine x_iload_n C dX4_change_4 rfl 1 rfl ?_
    refine x_iconst (v := 4) C dX4_change_5 ic_4 ?_
    refine x_icmp_gt (tgt := 18) C dX4_change_6 (by decide) h ?_ ?_
    · intro h
      refine x_bipush (v := (-2)) C dX4_change_18 bi_m2 ?_
      exact xr_wi C h dX4_change_20
    · intro h
      refine x_iload_n C dX4_change_9 rfl 2 rfl ?_
      refine x_if_lt (tgt := 18) C dX4_change_10 (by decide) h ?_ ?_
      · intro h
        refine x_bipush (v := (-2)) C dX4_change_18 bi_m2 ?_
        exact xr_wi C h dX4_change_20
      · intro h
        refine x_iload_n C dX4_change_13 rfl 2 rfl ?_
        refine x_iconst (v := 2) C dX4_change_14 ic_2 ?_
        refine x_icmp_le (tgt := 21) C dX4_change_15 (by decide) h ?_ ?_
        · intro h
          refine x_iload_n C dX4_change_21 rfl 1 rfl ?_
          refine x_aload_n C dX4_change_22 rfl 0 rfl ?_
          refine fg_4_2 C 0 rfl rfl k_1_129 dX4_change_23 ?_
          refine fg_0_5 C 9 rfl rfl k_1_81 dX4_change_26 ?_
          refine x_icmp_ne (tgt := 46) C dX4_change_29 (by decide) h ?_ ?_
          · intro h
            exact wX4_change_46 hJ C h
          · intro h
            refine x_iload_n C dX4_change_32 rfl 2 rfl ?_
            refine x_aload_n C dX4_change_33 rfl 0 rfl ?_
            refine fg_4_2 C 0 rfl rfl k_1_129 dX4_change_34 ?_
            refine fg_0_6 C 9 rfl rfl k_1_83 dX4_change_37 ?_
            refine x_icmp_ne (tgt := 46) C dX4_change_40 (by decide) h ?_ ?_
            · intro h
              exact wX4_change_46 hJ C h
            · intro h
              refine x_bipush (v := (-3)) C dX4_change_43 bi_m3 ?_
              exact xr_wi C h dX4_change_45
        · intro h
          refine x_bipush (v := (-2)) C dX4_change_18 bi_m2 ?_
          exact xr_wi C h dX4_change_20
set_option maxRecDepth 100000 in
set_option maxHeartbeats 4000000 in
theorem tX4_change {l : Launch} {dC : Nat → ClassId} {dI : Nat → Nat → Nat} {cI cZ : ClassId} {ad : Nat → Nat} (hJ : eInj 21 ad) {σ : eSt} {a1 : Int32} {a2 : Int32} {z : Int64} {r : Int32 × eSt} (h : fX4_change σ a1 a2 = some r) : Con l yX4_change cX4_change 4 (some .int) rmX4_change (dC, dI) (xW cI cZ ad) (xA ad) [(cI, .int), (cZ, .boolean)] (ExX ad) [.ref (ad 0), .int a1, .int a2] σ z (some (.int r.1)) r.2 z :=
  x_con (by decide) (xW_D hJ) (ExX_ok ad) (Nat.le_of_ble_eq_true rfl) (fun p e s m args below meth c C => wX4_change_0 hJ C h)
set_option maxRecDepth 100000 in
set_option maxHeartbeats 4000000 in
theorem wX4_hourBehind_0 (hJ : eInj 21 ad) (C : Cx p s m args meth c (dC, dI) (xW cI cZ ad) (xA ad) (ExX ad) [(cI, .int), (cZ, .boolean)] cX4_hourBehind 1 RX4 (some .int) yX4_hourBehind) {σ : eSt} {a0 : Int32} {z : Int64} {r : Int32} (h : fX4_hourBehind a0 = some r) : WX p l e rmX4_hourBehind s m args below meth c (MQ below (cQ (dC, dI) (xW cI cZ ad) (xA ad) (some (.int r)) σ z) args s 0 0 (xA ad)) (dC, dI) (xW cI cZ ad) (xA ad) 1 σ z [(0, .int a0)] 0 [] := by
  unfold fX4_hourBehind at h
  refine x_iload_n C dX4_hourBehind_0 rfl 0 rfl ?_
  refine x_iconst (v := 1) C dX4_hourBehind_1 ic_1 ?_
  refine x_iadd C dX4_hourBehind_2 ?_
  refine x_bipush (v := 10) C dX4_hourBehind_3 bi_10 ?_
  refine x_irem_c C dX4_hourBehind_5 (by decide) ?_
  exact xr_i C h dX4_hourBehind_6
set_option maxRecDepth 100000 in
set_option maxHeartbeats 4000000 in
theorem tX4_hourBehind {l : Launch} {dC : Nat → ClassId} {dI : Nat → Nat → Nat} {cI cZ : ClassId} {ad : Nat → Nat} (hJ : eInj 21 ad) {a0 : Int32} {σ : eSt} {z : Int64} {r : Int32} (h : fX4_hourBehind a0 = some r) : Con l yX4_hourBehind cX4_hourBehind 1 (some .int) rmX4_hourBehind (dC, dI) (xW cI cZ ad) (xA ad) [(cI, .int), (cZ, .boolean)] (ExX ad) [.int a0] σ z (some (.int r)) σ z :=
  x_con (by decide) (xW_D hJ) (ExX_ok ad) (Nat.le_of_ble_eq_true rfl) (fun p e s m args below meth c C => wX4_hourBehind_0 hJ C h)
set_option maxRecDepth 100000 in
set_option maxHeartbeats 4000000 in
theorem wX4_hour_0 (hJ : eInj 21 ad) (C : Cx p s m args meth c (dC, dI) (xW cI cZ ad) (xA ad) (ExX ad) [(cI, .int), (cZ, .boolean)] cX4_hour 1 RX4 (some .int) yX4_hour) {σ : eSt} {z : Int64} {r : Int32 × eSt} (h : fX4_hour σ = some r) : WX p l e rmX4_hour s m args below meth c (MQ below (cQ (dC, dI) (xW cI cZ ad) (xA ad) (some (.int r.1)) r.2 z) args s 0 0 (xA ad)) (dC, dI) (xW cI cZ ad) (xA ad) 1 σ z [(0, .ref (ad 0))] 0 [] := by
  unfold fX4_hour at h
  refine x_aload_n C dX4_hour_0 rfl 0 rfl ?_
  obtain ⟨σ1, hv, h⟩ := e_bind h
  refine x_callV_v C (ci := 4) 0 [] (tX4_rememberAct hJ hv) k_2_29 k_2_31 k_p_6 k_1_1 k_2_32 hyX4_rememberAct ⟨rfl, rfl⟩ (by decide) rfl rfl rfl rfl (Nat.le_of_ble_eq_true rfl) dX4_hour_1 ?_
  refine x_aload_n C dX4_hour_4 rfl 0 rfl ?_
  refine fg_4_2 C 0 rfl rfl k_1_129 dX4_hour_5 ?_
  refine x_aload_n C dX4_hour_8 rfl 0 rfl ?_
  refine fg_4_2 C 0 rfl rfl k_1_129 dX4_hour_9 ?_
  refine fg_0_1 C 9 rfl rfl k_1_73 dX4_hour_12 ?_
  obtain ⟨v2, hv, h⟩ := e_bind h
  refine x_callS_i C [.int (σ1 9 1)] (tX4_hourBehind hJ hv) k_2_78 k_2_79 k_1_1 k_2_80 hyX4_hourBehind.2 ⟨rfl, rfl⟩ (by decide) rfl rfl (Nat.le_of_ble_eq_true rfl) dX4_hour_15 ?_
  refine fp_0_1 C 9 rfl (Nat.le_of_ble_eq_true rfl) k_1_73 h rfl dX4_hour_18 ?_
  intro σ3 h
  refine x_aload_n C dX4_hour_21 rfl 0 rfl ?_
  refine fg_4_2 C 0 rfl rfl k_1_129 dX4_hour_22 ?_
  refine fg_0_1 C 9 rfl rfl k_1_73 dX4_hour_25 ?_
  exact xr_wi C h dX4_hour_28
set_option maxRecDepth 100000 in
set_option maxHeartbeats 4000000 in
theorem tX4_hour {l : Launch} {dC : Nat → ClassId} {dI : Nat → Nat → Nat} {cI cZ : ClassId} {ad : Nat → Nat} (hJ : eInj 21 ad) {σ : eSt} {z : Int64} {r : Int32 × eSt} (h : fX4_hour σ = some r) : Con l yX4_hour cX4_hour 1 (some .int) rmX4_hour (dC, dI) (xW cI cZ ad) (xA ad) [(cI, .int), (cZ, .boolean)] (ExX ad) [.ref (ad 0)] σ z (some (.int r.1)) r.2 z :=
  x_con (by decide) (xW_D hJ) (ExX_ok ad) (Nat.le_of_ble_eq_true rfl) (fun p e s m args below meth c C => wX4_hour_0 hJ C h)
set_option maxRecDepth 100000 in
set_option maxHeartbeats 4000000 in
theorem wX4_undo_0 (hJ : eInj 21 ad) (C : Cx p s m args meth c (dC, dI) (xW cI cZ ad) (xA ad) (ExX ad) [(cI, .int), (cZ, .boolean)] cX4_undo 1 RX4 (some .int) yX4_undo) {σ : eSt} {z : Int64} {r : Int32 × eSt} (h : fX4_undo σ = some r) : WX p l e rmX4_undo s m args below meth c (MQ below (cQ (dC, dI) (xW cI cZ ad) (xA ad) (some (.int r.1)) r.2 z) args s 0 0 (xA ad)) (dC, dI) (xW cI cZ ad) (xA ad) 1 σ z [(0, .ref (ad 0))] 0 [] := by
  unfold fX4_undo at h
  refine x_aload_n C dX4_undo_0 rfl 0 rfl ?_
  refine fg_4_5 C 0 rfl rfl k_1_132 dX4_undo_1 ?_
  refine x_iconst (v := 1) C dX4_undo_4 ic_1 ?_
  refine x_icmp_ge (tgt := 11) C dX4_undo_5 (by decide) h ?_ ?_
  · intro h
    refine x_aload_n C dX4_undo_11 rfl 0 rfl ?_
    refine x_dup C dX4_undo_12 rfl ?_
    refine fg_4_5 C 0 rfl rfl k_1_132 dX4_undo_13 ?_
    refine x_iconst (v := 1) C dX4_undo_16 ic_1 ?_
    refine x_isub C dX4_undo_17 ?_
    refine fp_4_5 C 0 rfl (Nat.le_of_ble_eq_true rfl) k_1_132 h rfl dX4_undo_18 ?_
    intro σ1 h
    refine x_aload_n C dX4_undo_21 rfl 0 rfl ?_
    refine fg_4_2 C 0 rfl rfl k_1_129 dX4_undo_22 ?_
    refine x_aload_n C dX4_undo_25 rfl 0 rfl ?_
    refine fg_4_4 C 0 rfl rfl k_1_131 dX4_undo_26 ?_
    refine x_aload_n C dX4_undo_29 rfl 0 rfl ?_
    refine fg_4_5 C 0 rfl rfl k_1_132 dX4_undo_30 ?_
    refine x_iald C 15 0 rfl rfl dX4_undo_33 h ?_
    intro h
    obtain ⟨σ2, hv, h⟩ := e_bind h
    refine x_callV_v C (ci := 0) 9 [.int (σ1 15 (σ1 0 5).toNatClampNeg)] (tX0_unpack hJ hv) k_2_85 k_2_86 k_2_87 k_1_4 k_2_88 hyX0_unpack ⟨rfl, rfl⟩ (by decide) rfl rfl rfl rfl (Nat.le_of_ble_eq_true rfl) dX4_undo_34 ?_
    refine x_aload_n C dX4_undo_37 rfl 0 rfl ?_
    refine fg_4_5 C 0 rfl rfl k_1_132 dX4_undo_38 ?_
    exact xr_wi C h dX4_undo_41
  · intro h
    refine x_bipush (v := (-3)) C dX4_undo_8 bi_m3 ?_
    exact xr_wi C h dX4_undo_10
set_option maxRecDepth 100000 in
set_option maxHeartbeats 4000000 in
theorem tX4_undo {l : Launch} {dC : Nat → ClassId} {dI : Nat → Nat → Nat} {cI cZ : ClassId} {ad : Nat → Nat} (hJ : eInj 21 ad) {σ : eSt} {z : Int64} {r : Int32 × eSt} (h : fX4_undo σ = some r) : Con l yX4_undo cX4_undo 1 (some .int) rmX4_undo (dC, dI) (xW cI cZ ad) (xA ad) [(cI, .int), (cZ, .boolean)] (ExX ad) [.ref (ad 0)] σ z (some (.int r.1)) r.2 z :=
  x_con (by decide) (xW_D hJ) (ExX_ok ad) (Nat.le_of_ble_eq_true rfl) (fun p e s m args below meth c C => wX4_undo_0 hJ C h)
set_option maxRecDepth 100000 in
set_option maxHeartbeats 4000000 in
theorem wX4_isHour_0 (hJ : eInj 21 ad) (C : Cx p s m args meth c (dC, dI) (xW cI cZ ad) (xA ad) (ExX ad) [(cI, .int), (cZ, .boolean)] cX4_isHour 1 RX4 (some .boolean) yX4_isHour) {σ : eSt} {a0 : Int32} {z : Int64} {r : Int32} (h : fX4_isHour a0 = some r) : WX p l e rmX4_isHour s m args below meth c (MQ below (cQ (dC, dI) (xW cI cZ ad) (xA ad) (some (.int r)) σ z) args s 0 0 (xA ad)) (dC, dI) (xW cI cZ ad) (xA ad) 1 σ z [(0, .int a0)] 0 [] := by
  unfold fX4_isHour at h
  refine x_iload_n C dX4_isHour_0 rfl 0 rfl ?_
  refine x_if_lt (tgt := 14) C dX4_isHour_1 (by decide) h ?_ ?_
  · intro h
    refine x_iconst (v := 0) C dX4_isHour_14 ic_0 ?_
    exact xr_z C h dX4_isHour_15
  · intro h
    refine x_iload_n C dX4_isHour_4 rfl 0 rfl ?_
    refine x_bipush (v := 10) C dX4_isHour_5 bi_10 ?_
    refine x_icmp_ge (tgt := 14) C dX4_isHour_7 (by decide) h ?_ ?_
    · intro h
      refine x_iconst (v := 0) C dX4_isHour_14 ic_0 ?_
      exact xr_z C h dX4_isHour_15
    · intro h
      refine x_iconst (v := 1) C dX4_isHour_10 ic_1 ?_
      refine x_goto (tgt := 15) C dX4_isHour_11 (by decide) ?_
      exact xr_z C h dX4_isHour_15
set_option maxRecDepth 100000 in
set_option maxHeartbeats 4000000 in
theorem tX4_isHour {l : Launch} {dC : Nat → ClassId} {dI : Nat → Nat → Nat} {cI cZ : ClassId} {ad : Nat → Nat} (hJ : eInj 21 ad) {a0 : Int32} {σ : eSt} {z : Int64} {r : Int32} (h : fX4_isHour a0 = some r) : Con l yX4_isHour cX4_isHour 1 (some .boolean) rmX4_isHour (dC, dI) (xW cI cZ ad) (xA ad) [(cI, .int), (cZ, .boolean)] (ExX ad) [.int a0] σ z (some (.int r)) σ z :=
  x_con (by decide) (xW_D hJ) (ExX_ok ad) (Nat.le_of_ble_eq_true rfl) (fun p e s m args below meth c C => wX4_isHour_0 hJ C h)
end WK

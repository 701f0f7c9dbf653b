set_option maxHeartbeats 2000000 in
theorem k_X3_init {κ : Nat → Nat} {w : gWd} {μ : gMem} (hwa : w 8 = .inr (3, [.null, .int 0, .int 0, .int 0, .int 0])) (hz : ∀ q, 8 ≤ q → q < 10 → μ q = fun _ => 0) : CT κ 1 yX3_init iX3_init [.ref (κ 0 + 8)] 9 w 1 160 (qD 10 (pw κ 8 w μ)) := by
  have hfs : ([.ref (κ 0 + 9), .int 0, .int 0, .int 0, .int 0] : List Value) = gFs κ μ 8 3 := by
    show _ = ([.ref (κ 0 + 9), .int (μ 8 1), .int (μ 8 2), .int (μ 8 3), .int (μ 8 4)] : List Value)
    rw [hz 8 (by omega) (by omega)]
  refine CT.of (by decide) rfl rfl (Nat.le_of_ble_eq_true rfl) ?_
  show G κ 1 iX3_init 0 [(0, .ref (κ 0 + 8))] [] 9 w 1 160 _
  refine g_wc (xW_start (κ := κ) (μ := μ) hwa) ?_
  refine g_aload_n (pc := 0) dX3_init_0 rfl rfl ?_
  refine g_objInit (pc := 1) dX3_init_1 mL_X3_3 mObj (Nat.le_of_ble_eq_true rfl) (Nat.le_of_ble_eq_true rfl) ?_
  refine g_aload_n (pc := 4) dX3_init_4 rfl rfl ?_
  refine g_sipush (pc := 5) (v := (160 : Int32)) dX3_init_5 rfl ?_
  refine x_int (pc := 8) (n := 9) (cr := 0) (sr := 0) 160 dX3_init_8 aK_int (by decide) rfl (by decide) (by decide) kd_9 ln_9 (hz 9 (by omega) (by omega)) ?_
  refine x_putF (pc := 10) 0 dX3_init_10 gC3 wF_X3_9 (by decide) (by decide) rfl rfl rfl rfl rfl (Nat.le_of_ble_eq_true rfl) (fs' := [.ref (κ 0 + 9), .int 0, .int 0, .int 0, .int 0]) rfl ?_
  exact g_vret (pc := 13) dX3_init_13 rfl ⟨rfl, rfl, fun q hq => by rw [xW_end kd_8 (by decide) hfs]⟩
set_option maxHeartbeats 2000000 in
theorem k_X0_init {κ : Nat → Nat} {w : gWd} {μ : gMem} (hwa : w 10 = .inr (0, [.null, .null, .null, .null, .null, .int 0, .int 0])) (hz : ∀ q, 10 ≤ q → q < 16 → μ q = fun _ => 0) : CT κ 2 yX0_init iX0_init [.ref (κ 0 + 10)] 11 w 5 68 (qD 16 (pw κ 10 w μ)) := by
  have hfs : ([.ref (κ 0 + 11), .ref (κ 0 + 12), .ref (κ 0 + 13), .ref (κ 0 + 14), .ref (κ 0 + 15), .int 0, .int 0] : List Value) = gFs κ μ 10 0 := by
    show _ = ([.ref (κ 0 + 11), .ref (κ 0 + 12), .ref (κ 0 + 13), .ref (κ 0 + 14), .ref (κ 0 + 15), .int (μ 10 5), .int (μ 10 6)] : List Value)
    rw [hz 10 (by omega) (by omega)]
  refine CT.of (by decide) rfl rfl (Nat.le_of_ble_eq_true rfl) ?_
  show G κ 2 iX0_init 0 [(0, .ref (κ 0 + 10))] [] 11 w 5 68 _
  refine g_wc (xW_start (κ := κ) (μ := μ) hwa) ?_
  refine g_aload_n (pc := 0) dX0_init_0 rfl rfl ?_
  refine g_objInit (pc := 1) dX0_init_1 mL_X0_3 mObj (Nat.le_of_ble_eq_true rfl) (Nat.le_of_ble_eq_true rfl) ?_
  refine g_aload_n (pc := 4) dX0_init_4 rfl rfl ?_
  refine g_callS (pc := 5) (As := []) (cr := 5) (sr := 68) k_X9_values dX0_init_5 yS_X9_values mL_X0_9 (Nat.le_of_ble_eq_true rfl) pX9_values (Nat.le_of_ble_eq_true rfl) (by decide) (by decide) (fun v n' w' h => ?_)
  obtain ⟨rfl, rfl, rfl⟩ := h
  rw [xW_new (by decide) (show wOf κ μ 11 = .inl (κ 36, xWd κ) from wOf_word kd_11)]
  refine g_room (cr' := 4) (sr' := 56) (by decide) (by decide) ?_
  refine x_putF (pc := 8) 0 dX0_init_8 gC0 wF_X0_15 (by decide) (by decide) rfl rfl rfl rfl rfl (Nat.le_of_ble_eq_true rfl) (fs' := [.ref (κ 0 + 11), .null, .null, .null, .null, .int 0, .int 0]) rfl ?_
  refine g_aload_n (pc := 11) dX0_init_11 rfl rfl ?_
  refine g_bipush (pc := 12) (v := (14 : Int32)) dX0_init_12 rfl ?_
  refine x_int (pc := 14) (n := 12) (cr := 3) (sr := 42) 14 dX0_init_14 aK_int (by decide) rfl (by decide) (by decide) kd_12 ln_12 (hz 12 (by omega) (by omega)) ?_
  refine x_putF (pc := 16) 1 dX0_init_16 gC0 wF_X0_21 (by decide) (by decide) rfl rfl rfl rfl rfl (Nat.le_of_ble_eq_true rfl) (fs' := [.ref (κ 0 + 11), .ref (κ 0 + 12), .null, .null, .null, .int 0, .int 0]) rfl ?_
  refine g_aload_n (pc := 19) dX0_init_19 rfl rfl ?_
  refine g_bipush (pc := 20) (v := (14 : Int32)) dX0_init_20 rfl ?_
  refine x_int (pc := 22) (n := 13) (cr := 2) (sr := 28) 14 dX0_init_22 aK_int (by decide) rfl (by decide) (by decide) kd_13 ln_13 (hz 13 (by omega) (by omega)) ?_
  refine x_putF (pc := 24) 2 dX0_init_24 gC0 wF_X0_25 (by decide) (by decide) rfl rfl rfl rfl rfl (Nat.le_of_ble_eq_true rfl) (fs' := [.ref (κ 0 + 11), .ref (κ 0 + 12), .ref (κ 0 + 13), .null, .null, .int 0, .int 0]) rfl ?_
  refine g_aload_n (pc := 27) dX0_init_27 rfl rfl ?_
  refine g_bipush (pc := 28) (v := (14 : Int32)) dX0_init_28 rfl ?_
  refine x_int (pc := 30) (n := 14) (cr := 1) (sr := 14) 14 dX0_init_30 aK_int (by decide) rfl (by decide) (by decide) kd_14 ln_14 (hz 14 (by omega) (by omega)) ?_
  refine x_putF (pc := 32) 3 dX0_init_32 gC0 wF_X0_28 (by decide) (by decide) rfl rfl rfl rfl rfl (Nat.le_of_ble_eq_true rfl) (fs' := [.ref (κ 0 + 11), .ref (κ 0 + 12), .ref (κ 0 + 13), .ref (κ 0 + 14), .null, .int 0, .int 0]) rfl ?_
  refine g_aload_n (pc := 35) dX0_init_35 rfl rfl ?_
  refine g_bipush (pc := 36) (v := (14 : Int32)) dX0_init_36 rfl ?_
  refine x_int (pc := 38) (n := 15) (cr := 0) (sr := 0) 14 dX0_init_38 aK_int (by decide) rfl (by decide) (by decide) kd_15 ln_15 (hz 15 (by omega) (by omega)) ?_
  refine x_putF (pc := 40) 4 dX0_init_40 gC0 wF_X0_31 (by decide) (by decide) rfl rfl rfl rfl rfl (Nat.le_of_ble_eq_true rfl) (fs' := [.ref (κ 0 + 11), .ref (κ 0 + 12), .ref (κ 0 + 13), .ref (κ 0 + 14), .ref (κ 0 + 15), .int 0, .int 0]) rfl ?_
  exact g_vret (pc := 43) dX0_init_43 rfl ⟨rfl, rfl, fun q hq => by rw [xW_end kd_10 (by decide) hfs]⟩
set_option maxHeartbeats 2000000 in
theorem k_X2_init {κ : Nat → Nat} {w : gWd} {μ : gMem} (hwa : w 97 = .inr (2, [.null, .null, .null, .null, .int 0, .int 0, .int 0])) (hz : ∀ q, 97 ≤ q → q < 106 → μ q = fun _ => 0) : CT κ 2 yX2_init iX2_init [.ref (κ 0 + 97), .ref (κ 0 + 1)] 98 w 8 605 (qD 106 (pw κ 97 w μ)) := by
  have hfs : ([.ref (κ 0 + 1), .ref (κ 0 + 98), .ref (κ 0 + 104), .ref (κ 0 + 105), .int 0, .int 0, .int 0] : List Value) = gFs κ μ 97 2 := by
    show _ = ([.ref (κ 0 + 1), .ref (κ 0 + 98), .ref (κ 0 + 104), .ref (κ 0 + 105), .int (μ 97 4), .int (μ 97 5), .int (μ 97 6)] : List Value)
    rw [hz 97 (by omega) (by omega)]
  refine CT.of (by decide) rfl rfl (Nat.le_of_ble_eq_true rfl) ?_
  show G κ 2 iX2_init 0 [(0, .ref (κ 0 + 97)), (1, .ref (κ 0 + 1))] [] 98 w 8 605 _
  refine g_wc (xW_start (κ := κ) (μ := μ) hwa) ?_
  refine g_aload_n (pc := 0) dX2_init_0 rfl rfl ?_
  refine g_objInit (pc := 1) dX2_init_1 mL_X2_3 mObj (Nat.le_of_ble_eq_true rfl) (Nat.le_of_ble_eq_true rfl) ?_
  refine g_aload_n (pc := 4) dX2_init_4 rfl rfl ?_
  refine g_aload_n (pc := 5) dX2_init_5 rfl rfl ?_
  refine x_putF (pc := 6) 0 dX2_init_6 gC2 wF_X2_9 (by decide) (by decide) rfl rfl rfl rfl rfl (Nat.le_of_ble_eq_true rfl) (fs' := [.ref (κ 0 + 1), .null, .null, .null, .int 0, .int 0, .int 0]) rfl ?_
  refine g_aload_n (pc := 9) dX2_init_9 rfl rfl ?_
  refine g_iconst (pc := 10) (v := (5 : Int32)) dX2_init_10 rfl ?_
  refine g_bipush (pc := 11) (v := (99 : Int32)) dX2_init_11 rfl ?_
  refine x_mna (pc := 13) (n := 98) (cr := 2) (sr := 105) 5 99 dX2_init_13 cK_X2_15 aK_int (by decide) (by decide) rfl rfl (by decide) (by decide) (by decide) kd_98 ln_98 (fun j hj => ⟨(kd_r98 hj).1, (kd_r98 hj).2.1⟩) (fun q h1 h2 => hz q (by omega) (by omega)) ?_
  refine x_putF (pc := 17) 1 dX2_init_17 gC2 wF_X2_17 (by decide) (by decide) rfl rfl rfl rfl rfl (Nat.le_of_ble_eq_true rfl) (fs' := [.ref (κ 0 + 1), .ref (κ 0 + 98), .null, .null, .int 0, .int 0, .int 0]) rfl ?_
  refine g_aload_n (pc := 20) dX2_init_20 rfl rfl ?_
  refine g_new (pc := 21) (n := 104) (cr := 1) (sr := 100) (fs := [.int 0, .int 0, .int 0, .int 0, .int 0]) dX2_init_21 gC8 cK_X2_20 nK_X8 (fun j hj => by match j, hj with | 0, _ | 1, _ | 2, _ | 3, _ | 4, _ => rfl) ?_
  rw [xW_new (by decide) (wOf_w0 kd_104 (hz 104 (by omega) (by omega)))]
  refine g_dup (pc := 24) dX2_init_24 rfl ?_
  refine g_callIN (pc := 25) (As := []) (cr := 1) (sr := 100) (k_X8_init (b := κ 0 + 104)) dX2_init_25 yI_X8_init (fun U h => h.1.2.2.1) (Nat.le_of_ble_eq_true rfl) pX8_init (Nat.le_of_ble_eq_true rfl) (Nat.zero_le _) (Nat.zero_le _) (fun v n' w' h => ?_)
  obtain ⟨rfl, rfl, rfl⟩ := h
  refine g_room (cr' := 1) (sr' := 100) (by decide) (by decide) ?_
  refine x_putF (pc := 28) 2 dX2_init_28 gC2 wF_X2_23 (by decide) (by decide) rfl rfl rfl rfl rfl (Nat.le_of_ble_eq_true rfl) (fs' := [.ref (κ 0 + 1), .ref (κ 0 + 98), .ref (κ 0 + 104), .null, .int 0, .int 0, .int 0]) rfl ?_
  refine g_aload_n (pc := 31) dX2_init_31 rfl rfl ?_
  refine g_bipush (pc := 32) (v := (100 : Int32)) dX2_init_32 rfl ?_
  refine x_int (pc := 34) (n := 105) (cr := 0) (sr := 0) 100 dX2_init_34 aK_int (by decide) rfl (by decide) (by decide) kd_105 ln_105 (hz 105 (by omega) (by omega)) ?_
  refine x_putF (pc := 36) 3 dX2_init_36 gC2 wF_X2_27 (by decide) (by decide) rfl rfl rfl rfl rfl (Nat.le_of_ble_eq_true rfl) (fs' := [.ref (κ 0 + 1), .ref (κ 0 + 98), .ref (κ 0 + 104), .ref (κ 0 + 105), .int 0, .int 0, .int 0]) rfl ?_
  exact g_vret (pc := 39) dX2_init_39 rfl ⟨rfl, rfl, fun q hq => by rw [xW_end kd_97 (by decide) hfs]⟩
set_option maxHeartbeats 2000000 in
theorem k_X1_init {κ : Nat → Nat} {w : gWd} {μ : gMem} (hwa : w 106 = .inr (1, [.null, .null, .null, .null, .null, .null, .int 0, .int 0, .int 0, .int 0])) (hz : ∀ q, 106 ≤ q → q < 138 → μ q = fun _ => 0) : CT κ 2 yX1_init iX1_init [.ref (κ 0 + 106), .ref (κ 0 + 1)] 107 w 31 1081 (qD 138 (pw κ 106 w μ)) := by
  have hfs : ([.ref (κ 0 + 1), .ref (κ 0 + 107), .ref (κ 0 + 128), .ref (κ 0 + 135), .ref (κ 0 + 136), .ref (κ 0 + 137), .int 0, .int 0, .int 0, .int 0] : List Value) = gFs κ μ 106 1 := by
    show _ = ([.ref (κ 0 + 1), .ref (κ 0 + 107), .ref (κ 0 + 128), .ref (κ 0 + 135), .ref (κ 0 + 136), .ref (κ 0 + 137), .int (μ 106 6), .int (μ 106 7), .int (μ 106 8), .int (μ 106 9)] : List Value)
    rw [hz 106 (by omega) (by omega)]
  refine CT.of (by decide) rfl rfl (Nat.le_of_ble_eq_true rfl) ?_
  show G κ 2 iX1_init 0 [(0, .ref (κ 0 + 106)), (1, .ref (κ 0 + 1))] [] 107 w 31 1081 _
  refine g_wc (xW_start (κ := κ) (μ := μ) hwa) ?_
  refine g_aload_n (pc := 0) dX1_init_0 rfl rfl ?_
  refine g_objInit (pc := 1) dX1_init_1 mL_X1_3 mObj (Nat.le_of_ble_eq_true rfl) (Nat.le_of_ble_eq_true rfl) ?_
  refine g_aload_n (pc := 4) dX1_init_4 rfl rfl ?_
  refine g_aload_n (pc := 5) dX1_init_5 rfl rfl ?_
  refine x_putF (pc := 6) 0 dX1_init_6 gC1 wF_X1_9 (by decide) (by decide) rfl rfl rfl rfl rfl (Nat.le_of_ble_eq_true rfl) (fs' := [.ref (κ 0 + 1), .null, .null, .null, .null, .null, .int 0, .int 0, .int 0, .int 0]) rfl ?_
  refine g_aload_n (pc := 9) dX1_init_9 rfl rfl ?_
  refine g_bipush (pc := 10) (v := (20 : Int32)) dX1_init_10 rfl ?_
  refine g_bipush (pc := 12) (v := (40 : Int32)) dX1_init_12 rfl ?_
  refine x_mna (pc := 14) (n := 107) (cr := 10) (sr := 261) 20 40 dX1_init_14 cK_X1_15 aK_int (by decide) (by decide) rfl rfl (by decide) (by decide) (by decide) kd_107 ln_107 (fun j hj => ⟨(kd_r107 hj).1, (kd_r107 hj).2.1⟩) (fun q h1 h2 => hz q (by omega) (by omega)) ?_
  refine x_putF (pc := 18) 1 dX1_init_18 gC1 wF_X1_17 (by decide) (by decide) rfl rfl rfl rfl rfl (Nat.le_of_ble_eq_true rfl) (fs' := [.ref (κ 0 + 1), .ref (κ 0 + 107), .null, .null, .null, .null, .int 0, .int 0, .int 0, .int 0]) rfl ?_
  refine g_aload_n (pc := 21) dX1_init_21 rfl rfl ?_
  refine g_bipush (pc := 22) (v := (6 : Int32)) dX1_init_22 rfl ?_
  refine g_bipush (pc := 24) (v := (40 : Int32)) dX1_init_24 rfl ?_
  refine x_mna (pc := 26) (n := 128) (cr := 3) (sr := 15) 6 40 dX1_init_26 cK_X1_15 aK_int (by decide) (by decide) rfl rfl (by decide) (by decide) (by decide) kd_128 ln_128 (fun j hj => ⟨(kd_r128 hj).1, (kd_r128 hj).2.1⟩) (fun q h1 h2 => hz q (by omega) (by omega)) ?_
  refine x_putF (pc := 30) 2 dX1_init_30 gC1 wF_X1_20 (by decide) (by decide) rfl rfl rfl rfl rfl (Nat.le_of_ble_eq_true rfl) (fs' := [.ref (κ 0 + 1), .ref (κ 0 + 107), .ref (κ 0 + 128), .null, .null, .null, .int 0, .int 0, .int 0, .int 0]) rfl ?_
  refine g_aload_n (pc := 33) dX1_init_33 rfl rfl ?_
  refine g_iconst (pc := 34) (v := (5 : Int32)) dX1_init_34 rfl ?_
  refine x_int (pc := 35) (n := 135) (cr := 2) (sr := 10) 5 dX1_init_35 aK_int (by decide) rfl (by decide) (by decide) kd_135 ln_135 (hz 135 (by omega) (by omega)) ?_
  refine x_putF (pc := 37) 3 dX1_init_37 gC1 wF_X1_23 (by decide) (by decide) rfl rfl rfl rfl rfl (Nat.le_of_ble_eq_true rfl) (fs' := [.ref (κ 0 + 1), .ref (κ 0 + 107), .ref (κ 0 + 128), .ref (κ 0 + 135), .null, .null, .int 0, .int 0, .int 0, .int 0]) rfl ?_
  refine g_aload_n (pc := 40) dX1_init_40 rfl rfl ?_
  refine g_new (pc := 41) (n := 136) (cr := 1) (sr := 5) (fs := [.int 0, .int 0, .int 0, .int 0, .int 0]) dX1_init_41 gC8 cK_X1_27 nK_X8 (fun j hj => by match j, hj with | 0, _ | 1, _ | 2, _ | 3, _ | 4, _ => rfl) ?_
  rw [xW_new (by decide) (wOf_w0 kd_136 (hz 136 (by omega) (by omega)))]
  refine g_dup (pc := 44) dX1_init_44 rfl ?_
  refine g_callIN (pc := 45) (As := []) (cr := 1) (sr := 5) (k_X8_init (b := κ 0 + 136)) dX1_init_45 yI_X8_init (fun U h => h.1.2.2.2) (Nat.le_of_ble_eq_true rfl) pX8_init (Nat.le_of_ble_eq_true rfl) (Nat.zero_le _) (Nat.zero_le _) (fun v n' w' h => ?_)
  obtain ⟨rfl, rfl, rfl⟩ := h
  refine g_room (cr' := 1) (sr' := 5) (by decide) (by decide) ?_
  refine x_putF (pc := 48) 4 dX1_init_48 gC1 wF_X1_30 (by decide) (by decide) rfl rfl rfl rfl rfl (Nat.le_of_ble_eq_true rfl) (fs' := [.ref (κ 0 + 1), .ref (κ 0 + 107), .ref (κ 0 + 128), .ref (κ 0 + 135), .ref (κ 0 + 136), .null, .int 0, .int 0, .int 0, .int 0]) rfl ?_
  refine g_aload_n (pc := 51) dX1_init_51 rfl rfl ?_
  refine g_iconst (pc := 52) (v := (5 : Int32)) dX1_init_52 rfl ?_
  refine x_int (pc := 53) (n := 137) (cr := 0) (sr := 0) 5 dX1_init_53 aK_int (by decide) rfl (by decide) (by decide) kd_137 ln_137 (hz 137 (by omega) (by omega)) ?_
  refine x_putF (pc := 55) 5 dX1_init_55 gC1 wF_X1_34 (by decide) (by decide) rfl rfl rfl rfl rfl (Nat.le_of_ble_eq_true rfl) (fs' := [.ref (κ 0 + 1), .ref (κ 0 + 107), .ref (κ 0 + 128), .ref (κ 0 + 135), .ref (κ 0 + 136), .ref (κ 0 + 137), .int 0, .int 0, .int 0, .int 0]) rfl ?_
  exact g_vret (pc := 58) dX1_init_58 rfl ⟨rfl, rfl, fun q hq => by rw [xW_end kd_106 (by decide) hfs]⟩

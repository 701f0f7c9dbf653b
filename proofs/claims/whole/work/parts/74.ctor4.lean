set_option maxRecDepth 100000 in
set_option maxHeartbeats 4000000 in
theorem k_X11_init {κ : Nat → Nat} {w : gWd} {μ μ1 : gMem} (hw0 : ∀ q, q < 140 → w q = wOf κ μ q) (hwa : w 140 = .inr (10, [.null, .int 0, .null, .null, .int 0, .int 0, .int 0, .int 0, .int 0, .null, .int 0, .int 0, .null, .int 0, .null, .null, .null, .null, .null, .int 0])) (hz : ∀ q, 140 ≤ q → q < 151 → μ q = fun _ => 0) (h1 : f_X11_asAtFirst 141 μ = some μ1) : CT κ 2 yX11_init iX11_init [.ref (κ 0 + 140)] 141 w 10 661 (fun v n' w' => v = none ∧ n' = 151 ∧ w' = wOf κ (st μ1 142 32 2)) := by
  have hfs : ([.ref (κ 0 + 141), .int 0, .ref (κ 0 + 142), .ref (κ 0 + 143), .int 0, .int 0, .int 0, .int 0, .int 0, .ref (κ 0 + 144), .int 0, .int 0, .ref (κ 0 + 145), .int 0, .ref (κ 0 + 146), .ref (κ 0 + 147), .ref (κ 0 + 148), .ref (κ 0 + 149), .ref (κ 0 + 150), .int 0] : List Value) = gFs κ μ 140 10 := by
    show _ = ([.ref (κ 0 + 141), .int (μ 140 1), .ref (κ 0 + 142), .ref (κ 0 + 143), .int (μ 140 4), .int (μ 140 5), .int (μ 140 6), .int (μ 140 7), .int (μ 140 8), .ref (κ 0 + 144), .int (μ 140 10), .int (μ 140 11), .ref (κ 0 + 145), .int (μ 140 13), .ref (κ 0 + 146), .ref (κ 0 + 147), .ref (κ 0 + 148), .ref (κ 0 + 149), .ref (κ 0 + 150), .int (μ 140 19)] : List Value)
    rw [hz 140 (by omega) (by omega)]
  refine CT.of (by decide) rfl rfl (Nat.le_of_ble_eq_true rfl) ?_
  show G κ 2 iX11_init 0 [(0, .ref (κ 0 + 140))] [] 141 w 10 661 _
  refine g_wc (xW_start (κ := κ) (μ := μ) hwa) ?_
  refine g_aload_n (pc := 0) dX11_init_0 rfl rfl ?_
  refine g_objInit (pc := 1) dX11_init_1 mL_X11_1 mObj (Nat.le_of_ble_eq_true rfl) (Nat.le_of_ble_eq_true rfl) ?_
  refine g_aload_n (pc := 4) dX11_init_4 rfl rfl ?_
  refine g_bipush (pc := 5) (v := (31 : Int32)) dX11_init_5 rfl ?_
  refine x_int (pc := 7) (n := 141) (cr := 9) (sr := 630) 31 dX11_init_7 aK_int (by decide) rfl (by decide) (by decide) kd_141 ln_141 (hz 141 (by omega) (by omega)) ?_
  refine x_putF (pc := 9) 0 dX11_init_9 gC10 wF_X11_7 (by decide) (by decide) rfl rfl rfl rfl rfl (Nat.le_of_ble_eq_true rfl) (fs' := [.ref (κ 0 + 141), .int 0, .null, .null, .int 0, .int 0, .int 0, .int 0, .int 0, .null, .int 0, .int 0, .null, .int 0, .null, .null, .null, .null, .null, .int 0]) rfl ?_
  refine g_aload_n (pc := 12) dX11_init_12 rfl rfl ?_
  refine g_bipush (pc := 13) (v := (35 : Int32)) dX11_init_13 rfl ?_
  refine x_int (pc := 15) (n := 142) (cr := 8) (sr := 595) 35 dX11_init_15 aK_int (by decide) rfl (by decide) (by decide) kd_142 ln_142 (hz 142 (by omega) (by omega)) ?_
  refine x_putF (pc := 17) 2 dX11_init_17 gC10 wF_X11_13 (by decide) (by decide) rfl rfl rfl rfl rfl (Nat.le_of_ble_eq_true rfl) (fs' := [.ref (κ 0 + 141), .int 0, .ref (κ 0 + 142), .null, .int 0, .int 0, .int 0, .int 0, .int 0, .null, .int 0, .int 0, .null, .int 0, .null, .null, .null, .null, .null, .int 0]) rfl ?_
  refine g_aload_n (pc := 20) dX11_init_20 rfl rfl ?_
  refine g_sipush (pc := 21) (v := (160 : Int32)) dX11_init_21 rfl ?_
  refine x_int (pc := 24) (n := 143) (cr := 7) (sr := 435) 160 dX11_init_24 aK_int (by decide) rfl (by decide) (by decide) kd_143 ln_143 (hz 143 (by omega) (by omega)) ?_
  refine x_putF (pc := 26) 3 dX11_init_26 gC10 wF_X11_16 (by decide) (by decide) rfl rfl rfl rfl rfl (Nat.le_of_ble_eq_true rfl) (fs' := [.ref (κ 0 + 141), .int 0, .ref (κ 0 + 142), .ref (κ 0 + 143), .int 0, .int 0, .int 0, .int 0, .int 0, .null, .int 0, .int 0, .null, .int 0, .null, .null, .null, .null, .null, .int 0]) rfl ?_
  refine g_aload_n (pc := 29) dX11_init_29 rfl rfl ?_
  refine g_bipush (pc := 30) (v := (31 : Int32)) dX11_init_30 rfl ?_
  refine x_int (pc := 32) (n := 144) (cr := 6) (sr := 404) 31 dX11_init_32 aK_int (by decide) rfl (by decide) (by decide) kd_144 ln_144 (hz 144 (by omega) (by omega)) ?_
  refine x_putF (pc := 34) 9 dX11_init_34 gC10 wF_X11_19 (by decide) (by decide) rfl rfl rfl rfl rfl (Nat.le_of_ble_eq_true rfl) (fs' := [.ref (κ 0 + 141), .int 0, .ref (κ 0 + 142), .ref (κ 0 + 143), .int 0, .int 0, .int 0, .int 0, .int 0, .ref (κ 0 + 144), .int 0, .int 0, .null, .int 0, .null, .null, .null, .null, .null, .int 0]) rfl ?_
  refine g_aload_n (pc := 37) dX11_init_37 rfl rfl ?_
  refine g_sipush (pc := 38) (v := (280 : Int32)) dX11_init_38 rfl ?_
  refine x_int (pc := 41) (n := 145) (cr := 5) (sr := 124) 280 dX11_init_41 aK_int (by decide) rfl (by decide) (by decide) kd_145 ln_145 (hz 145 (by omega) (by omega)) ?_
  refine x_putF (pc := 43) 12 dX11_init_43 gC10 wF_X11_22 (by decide) (by decide) rfl rfl rfl rfl rfl (Nat.le_of_ble_eq_true rfl) (fs' := [.ref (κ 0 + 141), .int 0, .ref (κ 0 + 142), .ref (κ 0 + 143), .int 0, .int 0, .int 0, .int 0, .int 0, .ref (κ 0 + 144), .int 0, .int 0, .ref (κ 0 + 145), .int 0, .null, .null, .null, .null, .null, .int 0]) rfl ?_
  refine g_aload_n (pc := 46) dX11_init_46 rfl rfl ?_
  refine g_iconst (pc := 47) (v := (2 : Int32)) dX11_init_47 rfl ?_
  refine x_bool (pc := 48) (n := 146) (cr := 4) (sr := 122) 2 dX11_init_48 aK_bool (by decide) rfl (by decide) (by decide) kd_146 ln_146 (hz 146 (by omega) (by omega)) ?_
  refine x_putF (pc := 50) 14 dX11_init_50 gC10 wF_X11_25 (by decide) (by decide) rfl rfl rfl rfl rfl (Nat.le_of_ble_eq_true rfl) (fs' := [.ref (κ 0 + 141), .int 0, .ref (κ 0 + 142), .ref (κ 0 + 143), .int 0, .int 0, .int 0, .int 0, .int 0, .ref (κ 0 + 144), .int 0, .int 0, .ref (κ 0 + 145), .int 0, .ref (κ 0 + 146), .null, .null, .null, .null, .int 0]) rfl ?_
  refine g_aload_n (pc := 53) dX11_init_53 rfl rfl ?_
  refine g_bipush (pc := 54) (v := (70 : Int32)) dX11_init_54 rfl ?_
  refine x_int (pc := 56) (n := 147) (cr := 3) (sr := 52) 70 dX11_init_56 aK_int (by decide) rfl (by decide) (by decide) kd_147 ln_147 (hz 147 (by omega) (by omega)) ?_
  refine x_putF (pc := 58) 15 dX11_init_58 gC10 wF_X11_29 (by decide) (by decide) rfl rfl rfl rfl rfl (Nat.le_of_ble_eq_true rfl) (fs' := [.ref (κ 0 + 141), .int 0, .ref (κ 0 + 142), .ref (κ 0 + 143), .int 0, .int 0, .int 0, .int 0, .int 0, .ref (κ 0 + 144), .int 0, .int 0, .ref (κ 0 + 145), .int 0, .ref (κ 0 + 146), .ref (κ 0 + 147), .null, .null, .null, .int 0]) rfl ?_
  refine g_aload_n (pc := 61) dX11_init_61 rfl rfl ?_
  refine g_bipush (pc := 62) (v := (35 : Int32)) dX11_init_62 rfl ?_
  refine x_int (pc := 64) (n := 148) (cr := 2) (sr := 17) 35 dX11_init_64 aK_int (by decide) rfl (by decide) (by decide) kd_148 ln_148 (hz 148 (by omega) (by omega)) ?_
  refine x_putF (pc := 66) 16 dX11_init_66 gC10 wF_X11_32 (by decide) (by decide) rfl rfl rfl rfl rfl (Nat.le_of_ble_eq_true rfl) (fs' := [.ref (κ 0 + 141), .int 0, .ref (κ 0 + 142), .ref (κ 0 + 143), .int 0, .int 0, .int 0, .int 0, .int 0, .ref (κ 0 + 144), .int 0, .int 0, .ref (κ 0 + 145), .int 0, .ref (κ 0 + 146), .ref (κ 0 + 147), .ref (κ 0 + 148), .null, .null, .int 0]) rfl ?_
  refine g_aload_n (pc := 69) dX11_init_69 rfl rfl ?_
  refine g_iconst (pc := 70) (v := (5 : Int32)) dX11_init_70 rfl ?_
  refine x_int (pc := 71) (n := 149) (cr := 1) (sr := 12) 5 dX11_init_71 aK_int (by decide) rfl (by decide) (by decide) kd_149 ln_149 (hz 149 (by omega) (by omega)) ?_
  refine x_putF (pc := 73) 17 dX11_init_73 gC10 wF_X11_35 (by decide) (by decide) rfl rfl rfl rfl rfl (Nat.le_of_ble_eq_true rfl) (fs' := [.ref (κ 0 + 141), .int 0, .ref (κ 0 + 142), .ref (κ 0 + 143), .int 0, .int 0, .int 0, .int 0, .int 0, .ref (κ 0 + 144), .int 0, .int 0, .ref (κ 0 + 145), .int 0, .ref (κ 0 + 146), .ref (κ 0 + 147), .ref (κ 0 + 148), .ref (κ 0 + 149), .null, .int 0]) rfl ?_
  refine g_aload_n (pc := 76) dX11_init_76 rfl rfl ?_
  refine g_bipush (pc := 77) (v := (12 : Int32)) dX11_init_77 rfl ?_
  refine x_int (pc := 79) (n := 150) (cr := 0) (sr := 0) 12 dX11_init_79 aK_int (by decide) rfl (by decide) (by decide) kd_150 ln_150 (hz 150 (by omega) (by omega)) ?_
  refine x_putF (pc := 81) 18 dX11_init_81 gC10 wF_X11_38 (by decide) (by decide) rfl rfl rfl rfl rfl (Nat.le_of_ble_eq_true rfl) (fs' := [.ref (κ 0 + 141), .int 0, .ref (κ 0 + 142), .ref (κ 0 + 143), .int 0, .int 0, .int 0, .int 0, .int 0, .ref (κ 0 + 144), .int 0, .int 0, .ref (κ 0 + 145), .int 0, .ref (κ 0 + 146), .ref (κ 0 + 147), .ref (κ 0 + 148), .ref (κ 0 + 149), .ref (κ 0 + 150), .int 0]) rfl ?_
  refine g_wc (w' := wOf κ μ) (fun q hq => ?_) ?_
  · rw [xW_end kd_140 (by decide) hfs]
    unfold pw
    by_cases h1 : q < 140
    · rw [if_pos h1, hw0 q h1]
    · rw [if_neg h1]
  refine g_aload_n (pc := 84) dX11_init_84 rfl rfl ?_
  refine g_get (pc := 85) 0 dX11_init_85 gC10 wF_X11_7 (by decide) (wOf_obj kd_140 (by decide)) (by decide) rfl ?_
  refine g_callS (pc := 88) (As := [.ref (κ 0 + 141)]) (c_X11_asAtFirst (Nat.le_refl 151) 141 kd_141 (by decide) ln_141 μ h1) dX11_init_88 yS_X11_asAtFirst mL_X11_41 (Nat.le_of_ble_eq_true rfl) pX11_asAtFirst (Nat.le_of_ble_eq_true rfl) (Nat.zero_le _) (Nat.zero_le _) (fun v n' w' h => ?_)
  obtain ⟨m, rfl, rfl, rfl, rfl⟩ := h
  refine g_aload_n (pc := 91) dX11_init_91 rfl rfl ?_
  refine g_get (pc := 92) 2 dX11_init_92 gC10 wF_X11_13 (by decide) (wOf_obj kd_140 (by decide)) (by decide) rfl ?_
  refine g_bipush (pc := 95) (v := (32 : Int32)) dX11_init_95 rfl ?_
  refine g_iconst (pc := 97) (v := (2 : Int32)) dX11_init_97 rfl ?_
  refine g_iast (pc := 98) (a := 142) dX11_init_98 (by decide) (wOf_int kd_142) (by rw [ln_142]; exact inb_in (by decide)) ?_
  rw [wOf_stI kd_142]
  exact g_vret (pc := 99) dX11_init_99 rfl ⟨rfl, rfl, rfl⟩

def f_X8_startAnew (a0 : Nat) (μ : gMem) : Option (gMem) :=
  (f_X8_sitDown a0 μ).bind (fun m2 =>
  lt (st m2 a0 3 (0 : Int32)) (fun m3 =>
  lt (st m3 a0 4 (0 : Int32)) (fun m5 =>
  some m5)))
set_option maxRecDepth 100000 in
set_option maxHeartbeats 4000000 in
theorem c_X8_startAnew {κ : Nat → Nat} {N : Nat} (hN : 140 ≤ N) (a0 : Nat) (h0 : kd a0 = 8) (μ : gMem) {μ' : gMem} (h : f_X8_startAnew a0 μ = some μ') : CT2 κ N 2 yX8_startAnew iX8_startAnew [.ref (κ 0 + a0)] μ (qV μ') := by
  refine CT2.of (by decide) rfl rfl (Nat.le_of_ble_eq_true rfl) ?_
  unfold f_X8_startAnew at h
  show RR κ N 2 iX8_startAnew 0 [(0, .ref (κ 0 + a0))] [] μ _
  refine g_aload_n (pc := 0) dX8_startAnew_0 rfl rfl ?_
  obtain ⟨m2, hp1, h⟩ := Option.bind_eq_some_iff.mp h
  refine r_callV (ci := 8) (pc := 1) (c_X8_sitDown hN a0 h0 μ hp1) yV_X8_sitDown ⟨rfl, by decide⟩ pX8_sitDown mL_X8_27 dX8_startAnew_1 (Nat.le_of_ble_eq_true rfl) (Nat.le_of_ble_eq_true rfl) (Nat.lt_of_lt_of_le (kd_obj h0 (by decide)) hN) h0 rfl (rK_v ?_)
  refine g_aload_n (pc := 4) dX8_startAnew_4 rfl rfl ?_
  refine g_iconst (pc := 5) (v := (0 : Int32)) dX8_startAnew_5 rfl ?_
  refine pf_X8_21 (pc := 6) rfl dX8_startAnew_6 (Nat.lt_of_lt_of_le (kd_obj h0 (by decide)) hN) h0 (fun m3 e4 => ?_)
  rw [lt_of e4] at h
  refine g_aload_n (pc := 9) dX8_startAnew_9 rfl rfl ?_
  refine g_iconst (pc := 10) (v := (0 : Int32)) dX8_startAnew_10 rfl ?_
  refine pf_X8_24 (pc := 11) rfl dX8_startAnew_11 (Nat.lt_of_lt_of_le (kd_obj h0 (by decide)) hN) h0 (fun m5 e6 => ?_)
  rw [lt_of e6] at h
  cases h
  exact r_vret dX8_startAnew_14 rfl rfl

def f_X8_passMinute (a0 : Nat) (a1 : Nat) (i2 : Int32) (μ : gMem) : Option (Int32 × gMem) :=
  if i2 = 0 then
  ((f_X6_drip a1 μ).bind (fun p3 =>
  lt p3.1 (fun x4 =>
  if (p3.2 a0 4) ≤ 0 then
  (if (p3.2 a0 0) = 0 then
  (some ((0 : Int32), p3.2))
else
  (lt (st p3.2 a0 2 (if (0 : Int32) < ((p3.2 a0 2) - x4) then ((p3.2 a0 2) - x4) else (0 : Int32))) (fun m8 =>
  lt (st m8 a0 1 ((m8 a0 1) - (1 : Int32))) (fun m10 =>
  if (m10 a0 1) ≤ 0 then
  (if (m10 a0 0) = (1 : Int32) then
  ((f_X8_pour a0 a1 m10).bind (fun p19 =>
  some (p19.1, p19.2)))
else
  (lt (st m10 a0 3 ((m10 a0 3) + (1 : Int32))) (fun m14 =>
  (f_X8_draw a0 a1 m14).bind (fun m17 =>
  some ((0 : Int32), m17)))))
else
  (some ((0 : Int32), m10))))))
else
  (lt (x4 / (2 : Int32)) (fun x20 =>
  lt (st p3.2 a0 4 ((p3.2 a0 4) - (1 : Int32))) (fun m22 =>
  if (m22 a0 0) = 0 then
  (some ((0 : Int32), m22))
else
  (lt (st m22 a0 2 (if (0 : Int32) < ((m22 a0 2) - x20) then ((m22 a0 2) - x20) else (0 : Int32))) (fun m25 =>
  lt (st m25 a0 1 ((m25 a0 1) - (1 : Int32))) (fun m27 =>
  if (m27 a0 1) ≤ 0 then
  (if (m27 a0 0) = (1 : Int32) then
  ((f_X8_pour a0 a1 m27).bind (fun p36 =>
  some (p36.1, p36.2)))
else
  (lt (st m27 a0 3 ((m27 a0 3) + (1 : Int32))) (fun m31 =>
  (f_X8_draw a0 a1 m31).bind (fun m34 =>
  some ((0 : Int32), m34)))))
else
  (some ((0 : Int32), m27)))))))))))
else
  (if (μ a0 4) ≤ 0 then
  (if (μ a0 0) = 0 then
  (some ((0 : Int32), μ))
else
  (lt (st μ a0 2 (if (0 : Int32) < ((μ a0 2) - (0 : Int32)) then ((μ a0 2) - (0 : Int32)) else (0 : Int32))) (fun m41 =>
  lt (st m41 a0 1 ((m41 a0 1) - (1 : Int32))) (fun m43 =>
  if (m43 a0 1) ≤ 0 then
  (if (m43 a0 0) = (1 : Int32) then
  ((f_X8_pour a0 a1 m43).bind (fun p52 =>
  some (p52.1, p52.2)))
else
  (lt (st m43 a0 3 ((m43 a0 3) + (1 : Int32))) (fun m47 =>
  (f_X8_draw a0 a1 m47).bind (fun m50 =>
  some ((0 : Int32), m50)))))
else
  (some ((0 : Int32), m43))))))
else
  (lt ((0 : Int32) / (2 : Int32)) (fun x53 =>
  lt (st μ a0 4 ((μ a0 4) - (1 : Int32))) (fun m55 =>
  if (m55 a0 0) = 0 then
  (some ((0 : Int32), m55))
else
  (lt (st m55 a0 2 (if (0 : Int32) < ((m55 a0 2) - x53) then ((m55 a0 2) - x53) else (0 : Int32))) (fun m58 =>
  lt (st m58 a0 1 ((m58 a0 1) - (1 : Int32))) (fun m60 =>
  if (m60 a0 1) ≤ 0 then
  (if (m60 a0 0) = (1 : Int32) then
  ((f_X8_pour a0 a1 m60).bind (fun p69 =>
  some (p69.1, p69.2)))
else
  (lt (st m60 a0 3 ((m60 a0 3) + (1 : Int32))) (fun m64 =>
  (f_X8_draw a0 a1 m64).bind (fun m67 =>
  some ((0 : Int32), m67)))))
else
  (some ((0 : Int32), m60)))))))))
set_option maxRecDepth 100000 in
set_option maxHeartbeats 4000000 in
theorem c_X8_passMinute {κ : Nat → Nat} {N : Nat} (hN : 140 ≤ N) (a0 : Nat) (a1 : Nat) (i2 : Int32) (h0 : kd a0 = 8) (h1 : kd a1 = 6) (μ : gMem) {r : Int32} {μ' : gMem} (h : f_X8_passMinute a0 a1 i2 μ = some (r, μ')) : CT2 κ N 4 yX8_passMinute iX8_passMinute [.ref (κ 0 + a0), .ref (κ 0 + a1), .int i2] μ (qI r μ') := by
  refine CT2.of (by decide) rfl rfl (Nat.le_of_ble_eq_true rfl) ?_
  unfold f_X8_passMinute at h
  show RR κ N 4 iX8_passMinute 0 [(0, .ref (κ 0 + a0)), (1, .ref (κ 0 + a1)), (2, .int i2)] [] μ _
  refine g_iload_n (pc := 0) dX8_passMinute_0 rfl rfl ?_
  refine g_if_eq (pc := 1) 8 dX8_passMinute_1 (by decide) (fun hc1 => ?_) (fun hc1 => ?_)
  · rw [if_pos hc1] at h
    refine g_aload_n (pc := 8) dX8_passMinute_8 rfl rfl ?_
    obtain ⟨p3, hp2, h⟩ := Option.bind_eq_some_iff.mp h
    refine r_callV (ci := 6) (pc := 9) (c_X6_drip hN a1 h1 μ hp2) yV_X6_drip ⟨rfl, by decide⟩ pX6_drip mL_X8_39 dX8_passMinute_9 (Nat.le_of_ble_eq_true rfl) (Nat.le_of_ble_eq_true rfl) (Nat.lt_of_lt_of_le (kd_obj h1 (by decide)) hN) h1 rfl (rK_i ?_)
    refine g_istore_n (pc := 12) (lv' := fun y => [(0, .ref (κ 0 + a0)), (1, .ref (κ 0 + a1)), (2, .int i2), (3, .int y)]) dX8_passMinute_12 rfl (Nat.le_of_ble_eq_true rfl) (fun _ => rfl) (fun x4 e5 => ?_)
    rw [lt_of e5] at h
    refine g_aload_n (pc := 13) dX8_passMinute_13 rfl rfl ?_
    refine gf_X8_24 (pc := 14) rfl dX8_passMinute_14 (Nat.lt_of_lt_of_le (kd_obj h0 (by decide)) hN) h0 ?_
    refine g_if_le (pc := 17) 34 dX8_passMinute_17 (by decide) (fun hc6 => ?_) (fun hc6 => ?_)
    · rw [if_pos hc6] at h
      refine g_aload_n (pc := 34) dX8_passMinute_34 rfl rfl ?_
      refine gf_X8_9 (pc := 35) rfl dX8_passMinute_35 (Nat.lt_of_lt_of_le (kd_obj h0 (by decide)) hN) h0 ?_
      refine g_if_ne (pc := 38) 43 dX8_passMinute_38 (by decide) (fun hc7 => ?_) (fun hc7 => ?_)
      · rw [if_neg hc7] at h
        refine g_aload_n (pc := 43) dX8_passMinute_43 rfl rfl ?_
        refine g_iconst (pc := 44) (v := (0 : Int32)) dX8_passMinute_44 rfl ?_
        refine g_aload_n (pc := 45) dX8_passMinute_45 rfl rfl ?_
        refine gf_X8_18 (pc := 46) rfl dX8_passMinute_46 (Nat.lt_of_lt_of_le (kd_obj h0 (by decide)) hN) h0 ?_
        refine g_iload_n (pc := 49) dX8_passMinute_49 rfl rfl ?_
        refine g_isub (pc := 50) dX8_passMinute_50 ?_
        refine g_mmax (pc := 51) dX8_passMinute_51 mL_X8_43 mMax (Nat.le_of_ble_eq_true rfl) (by decide) ?_
        refine pf_X8_18 (pc := 54) rfl dX8_passMinute_54 (Nat.lt_of_lt_of_le (kd_obj h0 (by decide)) hN) h0 (fun m8 e9 => ?_)
        rw [lt_of e9] at h
        refine g_aload_n (pc := 57) dX8_passMinute_57 rfl rfl ?_
        refine g_dup (pc := 58) dX8_passMinute_58 rfl ?_
        refine gf_X8_15 (pc := 59) rfl dX8_passMinute_59 (Nat.lt_of_lt_of_le (kd_obj h0 (by decide)) hN) h0 ?_
        refine g_iconst (pc := 62) (v := (1 : Int32)) dX8_passMinute_62 rfl ?_
        refine g_isub (pc := 63) dX8_passMinute_63 ?_
        refine pf_X8_15 (pc := 64) rfl dX8_passMinute_64 (Nat.lt_of_lt_of_le (kd_obj h0 (by decide)) hN) h0 (fun m10 e11 => ?_)
        rw [lt_of e11] at h
        refine g_aload_n (pc := 67) dX8_passMinute_67 rfl rfl ?_
        refine gf_X8_15 (pc := 68) rfl dX8_passMinute_68 (Nat.lt_of_lt_of_le (kd_obj h0 (by decide)) hN) h0 ?_
        refine g_if_le (pc := 71) 76 dX8_passMinute_71 (by decide) (fun hc12 => ?_) (fun hc12 => ?_)
        · rw [if_pos hc12] at h
          refine g_aload_n (pc := 76) dX8_passMinute_76 rfl rfl ?_
          refine gf_X8_9 (pc := 77) rfl dX8_passMinute_77 (Nat.lt_of_lt_of_le (kd_obj h0 (by decide)) hN) h0 ?_
          refine g_iconst (pc := 80) (v := (1 : Int32)) dX8_passMinute_80 rfl ?_
          refine g_icmp_ne (pc := 81) 90 dX8_passMinute_81 (by decide) (fun hc13 => ?_) (fun hc13 => ?_)
          · rw [if_neg hc13] at h
            refine g_aload_n (pc := 90) dX8_passMinute_90 rfl rfl ?_
            refine g_dup (pc := 91) dX8_passMinute_91 rfl ?_
            refine gf_X8_21 (pc := 92) rfl dX8_passMinute_92 (Nat.lt_of_lt_of_le (kd_obj h0 (by decide)) hN) h0 ?_
            refine g_iconst (pc := 95) (v := (1 : Int32)) dX8_passMinute_95 rfl ?_
            refine g_iadd (pc := 96) dX8_passMinute_96 ?_
            refine pf_X8_21 (pc := 97) rfl dX8_passMinute_97 (Nat.lt_of_lt_of_le (kd_obj h0 (by decide)) hN) h0 (fun m14 e15 => ?_)
            rw [lt_of e15] at h
            refine g_aload_n (pc := 100) dX8_passMinute_100 rfl rfl ?_
            refine g_aload_n (pc := 101) dX8_passMinute_101 rfl rfl ?_
            obtain ⟨m17, hp16, h⟩ := Option.bind_eq_some_iff.mp h
            refine r_callV (ci := 8) (pc := 102) (c_X8_draw hN a0 a1 h0 h1 m14 hp16) yV_X8_draw ⟨rfl, by decide⟩ pX8_draw mL_X8_53 dX8_passMinute_102 (Nat.le_of_ble_eq_true rfl) (Nat.le_of_ble_eq_true rfl) (Nat.lt_of_lt_of_le (kd_obj h0 (by decide)) hN) h0 rfl (rK_v ?_)
            refine g_iconst (pc := 105) (v := (0 : Int32)) dX8_passMinute_105 rfl ?_
            cases h
            exact r_iret dX8_passMinute_106 rfl rfl rfl
          · rw [if_pos hc13] at h
            refine g_aload_n (pc := 84) dX8_passMinute_84 rfl rfl ?_
            refine g_aload_n (pc := 85) dX8_passMinute_85 rfl rfl ?_
            obtain ⟨p19, hp18, h⟩ := Option.bind_eq_some_iff.mp h
            refine r_callV (ci := 8) (pc := 86) (c_X8_pour hN a0 a1 h0 h1 m10 hp18) yV_X8_pour ⟨rfl, by decide⟩ pX8_pour mL_X8_49 dX8_passMinute_86 (Nat.le_of_ble_eq_true rfl) (Nat.le_of_ble_eq_true rfl) (Nat.lt_of_lt_of_le (kd_obj h0 (by decide)) hN) h0 rfl (rK_i ?_)
            cases h
            exact r_iret dX8_passMinute_89 rfl rfl rfl
        · rw [if_neg hc12] at h
          refine g_iconst (pc := 74) (v := (0 : Int32)) dX8_passMinute_74 rfl ?_
          cases h
          exact r_iret dX8_passMinute_75 rfl rfl rfl
      · rw [if_pos hc7] at h
        refine g_iconst (pc := 41) (v := (0 : Int32)) dX8_passMinute_41 rfl ?_
        cases h
        exact r_iret dX8_passMinute_42 rfl rfl rfl
    · rw [if_neg hc6] at h
      refine g_iload_n (pc := 20) dX8_passMinute_20 rfl rfl ?_
      refine g_iconst (pc := 21) (v := (2 : Int32)) dX8_passMinute_21 rfl ?_
      refine g_idiv (pc := 22) dX8_passMinute_22 (by decide) ?_
      refine g_istore_n (pc := 23) (lv' := fun y => [(0, .ref (κ 0 + a0)), (1, .ref (κ 0 + a1)), (2, .int i2), (3, .int y)]) dX8_passMinute_23 rfl (Nat.le_of_ble_eq_true rfl) (fun _ => rfl) (fun x20 e21 => ?_)
      rw [lt_of e21] at h
      refine g_aload_n (pc := 24) dX8_passMinute_24 rfl rfl ?_
      refine g_dup (pc := 25) dX8_passMinute_25 rfl ?_
      refine gf_X8_24 (pc := 26) rfl dX8_passMinute_26 (Nat.lt_of_lt_of_le (kd_obj h0 (by decide)) hN) h0 ?_
      refine g_iconst (pc := 29) (v := (1 : Int32)) dX8_passMinute_29 rfl ?_
      refine g_isub (pc := 30) dX8_passMinute_30 ?_
      refine pf_X8_24 (pc := 31) rfl dX8_passMinute_31 (Nat.lt_of_lt_of_le (kd_obj h0 (by decide)) hN) h0 (fun m22 e23 => ?_)
      rw [lt_of e23] at h
      refine g_aload_n (pc := 34) dX8_passMinute_34 rfl rfl ?_
      refine gf_X8_9 (pc := 35) rfl dX8_passMinute_35 (Nat.lt_of_lt_of_le (kd_obj h0 (by decide)) hN) h0 ?_
      refine g_if_ne (pc := 38) 43 dX8_passMinute_38 (by decide) (fun hc24 => ?_) (fun hc24 => ?_)
      · rw [if_neg hc24] at h
        refine g_aload_n (pc := 43) dX8_passMinute_43 rfl rfl ?_
        refine g_iconst (pc := 44) (v := (0 : Int32)) dX8_passMinute_44 rfl ?_
        refine g_aload_n (pc := 45) dX8_passMinute_45 rfl rfl ?_
        refine gf_X8_18 (pc := 46) rfl dX8_passMinute_46 (Nat.lt_of_lt_of_le (kd_obj h0 (by decide)) hN) h0 ?_
        refine g_iload_n (pc := 49) dX8_passMinute_49 rfl rfl ?_
        refine g_isub (pc := 50) dX8_passMinute_50 ?_
        refine g_mmax (pc := 51) dX8_passMinute_51 mL_X8_43 mMax (Nat.le_of_ble_eq_true rfl) (by decide) ?_
        refine pf_X8_18 (pc := 54) rfl dX8_passMinute_54 (Nat.lt_of_lt_of_le (kd_obj h0 (by decide)) hN) h0 (fun m25 e26 => ?_)
        rw [lt_of e26] at h
        refine g_aload_n (pc := 57) dX8_passMinute_57 rfl rfl ?_
        refine g_dup (pc := 58) dX8_passMinute_58 rfl ?_
        refine gf_X8_15 (pc := 59) rfl dX8_passMinute_59 (Nat.lt_of_lt_of_le (kd_obj h0 (by decide)) hN) h0 ?_
        refine g_iconst (pc := 62) (v := (1 : Int32)) dX8_passMinute_62 rfl ?_
        refine g_isub (pc := 63) dX8_passMinute_63 ?_
        refine pf_X8_15 (pc := 64) rfl dX8_passMinute_64 (Nat.lt_of_lt_of_le (kd_obj h0 (by decide)) hN) h0 (fun m27 e28 => ?_)
        rw [lt_of e28] at h
        refine g_aload_n (pc := 67) dX8_passMinute_67 rfl rfl ?_
        refine gf_X8_15 (pc := 68) rfl dX8_passMinute_68 (Nat.lt_of_lt_of_le (kd_obj h0 (by decide)) hN) h0 ?_
        refine g_if_le (pc := 71) 76 dX8_passMinute_71 (by decide) (fun hc29 => ?_) (fun hc29 => ?_)
        · rw [if_pos hc29] at h
          refine g_aload_n (pc := 76) dX8_passMinute_76 rfl rfl ?_
          refine gf_X8_9 (pc := 77) rfl dX8_passMinute_77 (Nat.lt_of_lt_of_le (kd_obj h0 (by decide)) hN) h0 ?_
          refine g_iconst (pc := 80) (v := (1 : Int32)) dX8_passMinute_80 rfl ?_
          refine g_icmp_ne (pc := 81) 90 dX8_passMinute_81 (by decide) (fun hc30 => ?_) (fun hc30 => ?_)
          · rw [if_neg hc30] at h
            refine g_aload_n (pc := 90) dX8_passMinute_90 rfl rfl ?_
            refine g_dup (pc := 91) dX8_passMinute_91 rfl ?_
            refine gf_X8_21 (pc := 92) rfl dX8_passMinute_92 (Nat.lt_of_lt_of_le (kd_obj h0 (by decide)) hN) h0 ?_
            refine g_iconst (pc := 95) (v := (1 : Int32)) dX8_passMinute_95 rfl ?_
            refine g_iadd (pc := 96) dX8_passMinute_96 ?_
            refine pf_X8_21 (pc := 97) rfl dX8_passMinute_97 (Nat.lt_of_lt_of_le (kd_obj h0 (by decide)) hN) h0 (fun m31 e32 => ?_)
            rw [lt_of e32] at h
            refine g_aload_n (pc := 100) dX8_passMinute_100 rfl rfl ?_
            refine g_aload_n (pc := 101) dX8_passMinute_101 rfl rfl ?_
            obtain ⟨m34, hp33, h⟩ := Option.bind_eq_some_iff.mp h
            refine r_callV (ci := 8) (pc := 102) (c_X8_draw hN a0 a1 h0 h1 m31 hp33) yV_X8_draw ⟨rfl, by decide⟩ pX8_draw mL_X8_53 dX8_passMinute_102 (Nat.le_of_ble_eq_true rfl) (Nat.le_of_ble_eq_true rfl) (Nat.lt_of_lt_of_le (kd_obj h0 (by decide)) hN) h0 rfl (rK_v ?_)
            refine g_iconst (pc := 105) (v := (0 : Int32)) dX8_passMinute_105 rfl ?_
            cases h
            exact r_iret dX8_passMinute_106 rfl rfl rfl
          · rw [if_pos hc30] at h
            refine g_aload_n (pc := 84) dX8_passMinute_84 rfl rfl ?_
            refine g_aload_n (pc := 85) dX8_passMinute_85 rfl rfl ?_
            obtain ⟨p36, hp35, h⟩ := Option.bind_eq_some_iff.mp h
            refine r_callV (ci := 8) (pc := 86) (c_X8_pour hN a0 a1 h0 h1 m27 hp35) yV_X8_pour ⟨rfl, by decide⟩ pX8_pour mL_X8_49 dX8_passMinute_86 (Nat.le_of_ble_eq_true rfl) (Nat.le_of_ble_eq_true rfl) (Nat.lt_of_lt_of_le (kd_obj h0 (by decide)) hN) h0 rfl (rK_i ?_)
            cases h
            exact r_iret dX8_passMinute_89 rfl rfl rfl
        · rw [if_neg hc29] at h
          refine g_iconst (pc := 74) (v := (0 : Int32)) dX8_passMinute_74 rfl ?_
          cases h
          exact r_iret dX8_passMinute_75 rfl rfl rfl
      · rw [if_pos hc24] at h
        refine g_iconst (pc := 41) (v := (0 : Int32)) dX8_passMinute_41 rfl ?_
        cases h
        exact r_iret dX8_passMinute_42 rfl rfl rfl
  · rw [if_neg hc1] at h
    refine g_iconst (pc := 4) (v := (0 : Int32)) dX8_passMinute_4 rfl ?_
    refine g_goto (pc := 5) 12 dX8_passMinute_5 (by decide) ?_
    refine g_istore_n (pc := 12) (lv' := fun y => [(0, .ref (κ 0 + a0)), (1, .ref (κ 0 + a1)), (2, .int i2), (3, .int y)]) dX8_passMinute_12 rfl (Nat.le_of_ble_eq_true rfl) (fun _ => rfl) (fun y37 e38 => ?_)
    rw [e38]
    refine g_aload_n (pc := 13) dX8_passMinute_13 rfl rfl ?_
    refine gf_X8_24 (pc := 14) rfl dX8_passMinute_14 (Nat.lt_of_lt_of_le (kd_obj h0 (by decide)) hN) h0 ?_
    refine g_if_le (pc := 17) 34 dX8_passMinute_17 (by decide) (fun hc39 => ?_) (fun hc39 => ?_)
    · rw [if_pos hc39] at h
      refine g_aload_n (pc := 34) dX8_passMinute_34 rfl rfl ?_
      refine gf_X8_9 (pc := 35) rfl dX8_passMinute_35 (Nat.lt_of_lt_of_le (kd_obj h0 (by decide)) hN) h0 ?_
      refine g_if_ne (pc := 38) 43 dX8_passMinute_38 (by decide) (fun hc40 => ?_) (fun hc40 => ?_)
      · rw [if_neg hc40] at h
        refine g_aload_n (pc := 43) dX8_passMinute_43 rfl rfl ?_
        refine g_iconst (pc := 44) (v := (0 : Int32)) dX8_passMinute_44 rfl ?_
        refine g_aload_n (pc := 45) dX8_passMinute_45 rfl rfl ?_
        refine gf_X8_18 (pc := 46) rfl dX8_passMinute_46 (Nat.lt_of_lt_of_le (kd_obj h0 (by decide)) hN) h0 ?_
        refine g_iload_n (pc := 49) dX8_passMinute_49 rfl rfl ?_
        refine g_isub (pc := 50) dX8_passMinute_50 ?_
        refine g_mmax (pc := 51) dX8_passMinute_51 mL_X8_43 mMax (Nat.le_of_ble_eq_true rfl) (by decide) ?_
        refine pf_X8_18 (pc := 54) rfl dX8_passMinute_54 (Nat.lt_of_lt_of_le (kd_obj h0 (by decide)) hN) h0 (fun m41 e42 => ?_)
        rw [lt_of e42] at h
        refine g_aload_n (pc := 57) dX8_passMinute_57 rfl rfl ?_
        refine g_dup (pc := 58) dX8_passMinute_58 rfl ?_
        refine gf_X8_15 (pc := 59) rfl dX8_passMinute_59 (Nat.lt_of_lt_of_le (kd_obj h0 (by decide)) hN) h0 ?_
        refine g_iconst (pc := 62) (v := (1 : Int32)) dX8_passMinute_62 rfl ?_
        refine g_isub (pc := 63) dX8_passMinute_63 ?_
        refine pf_X8_15 (pc := 64) rfl dX8_passMinute_64 (Nat.lt_of_lt_of_le (kd_obj h0 (by decide)) hN) h0 (fun m43 e44 => ?_)
        rw [lt_of e44] at h
        refine g_aload_n (pc := 67) dX8_passMinute_67 rfl rfl ?_
        refine gf_X8_15 (pc := 68) rfl dX8_passMinute_68 (Nat.lt_of_lt_of_le (kd_obj h0 (by decide)) hN) h0 ?_
        refine g_if_le (pc := 71) 76 dX8_passMinute_71 (by decide) (fun hc45 => ?_) (fun hc45 => ?_)
        · rw [if_pos hc45] at h
          refine g_aload_n (pc := 76) dX8_passMinute_76 rfl rfl ?_
          refine gf_X8_9 (pc := 77) rfl dX8_passMinute_77 (Nat.lt_of_lt_of_le (kd_obj h0 (by decide)) hN) h0 ?_
          refine g_iconst (pc := 80) (v := (1 : Int32)) dX8_passMinute_80 rfl ?_
          refine g_icmp_ne (pc := 81) 90 dX8_passMinute_81 (by decide) (fun hc46 => ?_) (fun hc46 => ?_)
          · rw [if_neg hc46] at h
            refine g_aload_n (pc := 90) dX8_passMinute_90 rfl rfl ?_
            refine g_dup (pc := 91) dX8_passMinute_91 rfl ?_
            refine gf_X8_21 (pc := 92) rfl dX8_passMinute_92 (Nat.lt_of_lt_of_le (kd_obj h0 (by decide)) hN) h0 ?_
            refine g_iconst (pc := 95) (v := (1 : Int32)) dX8_passMinute_95 rfl ?_
            refine g_iadd (pc := 96) dX8_passMinute_96 ?_
            refine pf_X8_21 (pc := 97) rfl dX8_passMinute_97 (Nat.lt_of_lt_of_le (kd_obj h0 (by decide)) hN) h0 (fun m47 e48 => ?_)
            rw [lt_of e48] at h
            refine g_aload_n (pc := 100) dX8_passMinute_100 rfl rfl ?_
            refine g_aload_n (pc := 101) dX8_passMinute_101 rfl rfl ?_
            obtain ⟨m50, hp49, h⟩ := Option.bind_eq_some_iff.mp h
            refine r_callV (ci := 8) (pc := 102) (c_X8_draw hN a0 a1 h0 h1 m47 hp49) yV_X8_draw ⟨rfl, by decide⟩ pX8_draw mL_X8_53 dX8_passMinute_102 (Nat.le_of_ble_eq_true rfl) (Nat.le_of_ble_eq_true rfl) (Nat.lt_of_lt_of_le (kd_obj h0 (by decide)) hN) h0 rfl (rK_v ?_)
            refine g_iconst (pc := 105) (v := (0 : Int32)) dX8_passMinute_105 rfl ?_
            cases h
            exact r_iret dX8_passMinute_106 rfl rfl rfl
          · rw [if_pos hc46] at h
            refine g_aload_n (pc := 84) dX8_passMinute_84 rfl rfl ?_
            refine g_aload_n (pc := 85) dX8_passMinute_85 rfl rfl ?_
            obtain ⟨p52, hp51, h⟩ := Option.bind_eq_some_iff.mp h
            refine r_callV (ci := 8) (pc := 86) (c_X8_pour hN a0 a1 h0 h1 m43 hp51) yV_X8_pour ⟨rfl, by decide⟩ pX8_pour mL_X8_49 dX8_passMinute_86 (Nat.le_of_ble_eq_true rfl) (Nat.le_of_ble_eq_true rfl) (Nat.lt_of_lt_of_le (kd_obj h0 (by decide)) hN) h0 rfl (rK_i ?_)
            cases h
            exact r_iret dX8_passMinute_89 rfl rfl rfl
        · rw [if_neg hc45] at h
          refine g_iconst (pc := 74) (v := (0 : Int32)) dX8_passMinute_74 rfl ?_
          cases h
          exact r_iret dX8_passMinute_75 rfl rfl rfl
      · rw [if_pos hc40] at h
        refine g_iconst (pc := 41) (v := (0 : Int32)) dX8_passMinute_41 rfl ?_
        cases h
        exact r_iret dX8_passMinute_42 rfl rfl rfl
    · rw [if_neg hc39] at h
      refine g_iload_n (pc := 20) dX8_passMinute_20 rfl rfl ?_
      refine g_iconst (pc := 21) (v := (2 : Int32)) dX8_passMinute_21 rfl ?_
      refine g_idiv (pc := 22) dX8_passMinute_22 (by decide) ?_
      refine g_istore_n (pc := 23) (lv' := fun y => [(0, .ref (κ 0 + a0)), (1, .ref (κ 0 + a1)), (2, .int i2), (3, .int y)]) dX8_passMinute_23 rfl (Nat.le_of_ble_eq_true rfl) (fun _ => rfl) (fun x53 e54 => ?_)
      rw [lt_of e54] at h
      refine g_aload_n (pc := 24) dX8_passMinute_24 rfl rfl ?_
      refine g_dup (pc := 25) dX8_passMinute_25 rfl ?_
      refine gf_X8_24 (pc := 26) rfl dX8_passMinute_26 (Nat.lt_of_lt_of_le (kd_obj h0 (by decide)) hN) h0 ?_
      refine g_iconst (pc := 29) (v := (1 : Int32)) dX8_passMinute_29 rfl ?_
      refine g_isub (pc := 30) dX8_passMinute_30 ?_
      refine pf_X8_24 (pc := 31) rfl dX8_passMinute_31 (Nat.lt_of_lt_of_le (kd_obj h0 (by decide)) hN) h0 (fun m55 e56 => ?_)
      rw [lt_of e56] at h
      refine g_aload_n (pc := 34) dX8_passMinute_34 rfl rfl ?_
      refine gf_X8_9 (pc := 35) rfl dX8_passMinute_35 (Nat.lt_of_lt_of_le (kd_obj h0 (by decide)) hN) h0 ?_
      refine g_if_ne (pc := 38) 43 dX8_passMinute_38 (by decide) (fun hc57 => ?_) (fun hc57 => ?_)
      · rw [if_neg hc57] at h
        refine g_aload_n (pc := 43) dX8_passMinute_43 rfl rfl ?_
        refine g_iconst (pc := 44) (v := (0 : Int32)) dX8_passMinute_44 rfl ?_
        refine g_aload_n (pc := 45) dX8_passMinute_45 rfl rfl ?_
        refine gf_X8_18 (pc := 46) rfl dX8_passMinute_46 (Nat.lt_of_lt_of_le (kd_obj h0 (by decide)) hN) h0 ?_
        refine g_iload_n (pc := 49) dX8_passMinute_49 rfl rfl ?_
        refine g_isub (pc := 50) dX8_passMinute_50 ?_
        refine g_mmax (pc := 51) dX8_passMinute_51 mL_X8_43 mMax (Nat.le_of_ble_eq_true rfl) (by decide) ?_
        refine pf_X8_18 (pc := 54) rfl dX8_passMinute_54 (Nat.lt_of_lt_of_le (kd_obj h0 (by decide)) hN) h0 (fun m58 e59 => ?_)
        rw [lt_of e59] at h
        refine g_aload_n (pc := 57) dX8_passMinute_57 rfl rfl ?_
        refine g_dup (pc := 58) dX8_passMinute_58 rfl ?_
        refine gf_X8_15 (pc := 59) rfl dX8_passMinute_59 (Nat.lt_of_lt_of_le (kd_obj h0 (by decide)) hN) h0 ?_
        refine g_iconst (pc := 62) (v := (1 : Int32)) dX8_passMinute_62 rfl ?_
        refine g_isub (pc := 63) dX8_passMinute_63 ?_
        refine pf_X8_15 (pc := 64) rfl dX8_passMinute_64 (Nat.lt_of_lt_of_le (kd_obj h0 (by decide)) hN) h0 (fun m60 e61 => ?_)
        rw [lt_of e61] at h
        refine g_aload_n (pc := 67) dX8_passMinute_67 rfl rfl ?_
        refine gf_X8_15 (pc := 68) rfl dX8_passMinute_68 (Nat.lt_of_lt_of_le (kd_obj h0 (by decide)) hN) h0 ?_
        refine g_if_le (pc := 71) 76 dX8_passMinute_71 (by decide) (fun hc62 => ?_) (fun hc62 => ?_)
        · rw [if_pos hc62] at h
          refine g_aload_n (pc := 76) dX8_passMinute_76 rfl rfl ?_
          refine gf_X8_9 (pc := 77) rfl dX8_passMinute_77 (Nat.lt_of_lt_of_le (kd_obj h0 (by decide)) hN) h0 ?_
          refine g_iconst (pc := 80) (v := (1 : Int32)) dX8_passMinute_80 rfl ?_
          refine g_icmp_ne (pc := 81) 90 dX8_passMinute_81 (by decide) (fun hc63 => ?_) (fun hc63 => ?_)
          · rw [if_neg hc63] at h
            refine g_aload_n (pc := 90) dX8_passMinute_90 rfl rfl ?_
            refine g_dup (pc := 91) dX8_passMinute_91 rfl ?_
            refine gf_X8_21 (pc := 92) rfl dX8_passMinute_92 (Nat.lt_of_lt_of_le (kd_obj h0 (by decide)) hN) h0 ?_
            refine g_iconst (pc := 95) (v := (1 : Int32)) dX8_passMinute_95 rfl ?_
            refine g_iadd (pc := 96) dX8_passMinute_96 ?_
            refine pf_X8_21 (pc := 97) rfl dX8_passMinute_97 (Nat.lt_of_lt_of_le (kd_obj h0 (by decide)) hN) h0 (fun m64 e65 => ?_)
            rw [lt_of e65] at h
            refine g_aload_n (pc := 100) dX8_passMinute_100 rfl rfl ?_
            refine g_aload_n (pc := 101) dX8_passMinute_101 rfl rfl ?_
            obtain ⟨m67, hp66, h⟩ := Option.bind_eq_some_iff.mp h
            refine r_callV (ci := 8) (pc := 102) (c_X8_draw hN a0 a1 h0 h1 m64 hp66) yV_X8_draw ⟨rfl, by decide⟩ pX8_draw mL_X8_53 dX8_passMinute_102 (Nat.le_of_ble_eq_true rfl) (Nat.le_of_ble_eq_true rfl) (Nat.lt_of_lt_of_le (kd_obj h0 (by decide)) hN) h0 rfl (rK_v ?_)
            refine g_iconst (pc := 105) (v := (0 : Int32)) dX8_passMinute_105 rfl ?_
            cases h
            exact r_iret dX8_passMinute_106 rfl rfl rfl
          · rw [if_pos hc63] at h
            refine g_aload_n (pc := 84) dX8_passMinute_84 rfl rfl ?_
            refine g_aload_n (pc := 85) dX8_passMinute_85 rfl rfl ?_
            obtain ⟨p69, hp68, h⟩ := Option.bind_eq_some_iff.mp h
            refine r_callV (ci := 8) (pc := 86) (c_X8_pour hN a0 a1 h0 h1 m60 hp68) yV_X8_pour ⟨rfl, by decide⟩ pX8_pour mL_X8_49 dX8_passMinute_86 (Nat.le_of_ble_eq_true rfl) (Nat.le_of_ble_eq_true rfl) (Nat.lt_of_lt_of_le (kd_obj h0 (by decide)) hN) h0 rfl (rK_i ?_)
            cases h
            exact r_iret dX8_passMinute_89 rfl rfl rfl
        · rw [if_neg hc62] at h
          refine g_iconst (pc := 74) (v := (0 : Int32)) dX8_passMinute_74 rfl ?_
          cases h
          exact r_iret dX8_passMinute_75 rfl rfl rfl
      · rw [if_pos hc57] at h
        refine g_iconst (pc := 41) (v := (0 : Int32)) dX8_passMinute_41 rfl ?_
        cases h
        exact r_iret dX8_passMinute_42 rfl rfl rfl

def f_X10_write (i1 : Int32) (μ : gMem) : Option (Int32 × gMem) :=
  (f_X10_isOutside i1 (0 : Int32) (255 : Int32) μ).bind (fun p2 =>
  if p2.1 = 0 then
  ((f_X3_add i1 p2.2).bind (fun p6 =>
  lt (if p6.1 = 0 then (-5 : Int32) else (p6.2 8 1)) (fun x8 =>
  some (x8, p6.2))))
else
  (some ((-3 : Int32), p2.2)))
set_option maxRecDepth 100000 in
set_option maxHeartbeats 4000000 in
theorem c_X10_write {κ : Nat → Nat} {N : Nat} (hN : 140 ≤ N) (i1 : Int32)  (μ : gMem) {r : Int32} {μ' : gMem} (h : f_X10_write i1 μ = some (r, μ')) : CT2 κ N 2 yX10_write iX10_write [.ref (κ 0 + 0), .int i1] μ (qI r μ') := by
  refine CT2.of (by decide) rfl rfl (Nat.le_of_ble_eq_true rfl) ?_
  unfold f_X10_write at h
  show RR κ N 2 iX10_write 0 [(0, .ref (κ 0 + 0)), (1, .int i1)] [] μ _
  refine g_iload_n (pc := 0) dX10_write_0 rfl rfl ?_
  refine g_iconst (pc := 1) (v := (0 : Int32)) dX10_write_1 rfl ?_
  refine g_sipush (pc := 2) (v := (255 : Int32)) dX10_write_2 rfl ?_
  obtain ⟨p2, hp1, h⟩ := Option.bind_eq_some_iff.mp h
  refine r_callS (pc := 5) (c_X10_isOutside hN i1 (0 : Int32) (255 : Int32) μ hp1) yS_X10_isOutside pX10_isOutside mL_X10_83 dX10_write_5 (Nat.le_of_ble_eq_true rfl) (Nat.le_of_ble_eq_true rfl) rfl (rK_z (fun hz3 => ?_))
  refine g_if_eq (pc := 8) 14 dX10_write_8 (by decide) (fun hc4 => ?_) (fun hc4 => ?_)
  · rw [if_pos hc4] at h
    refine g_aload_n (pc := 14) dX10_write_14 rfl rfl ?_
    refine gf_X10_19 (pc := 15) rfl dX10_write_15 (Nat.lt_of_lt_of_le (by decide) hN) kd_0 ?_
    refine g_iload_n (pc := 18) dX10_write_18 rfl rfl ?_
    obtain ⟨p6, hp5, h⟩ := Option.bind_eq_some_iff.mp h
    refine r_callV (ci := 3) (pc := 19) (c_X3_add hN i1 p2.2 hp5) yV_X3_add ⟨rfl, by decide⟩ pX3_add mL_X10_87 dX10_write_19 (Nat.le_of_ble_eq_true rfl) (Nat.le_of_ble_eq_true rfl) (Nat.lt_of_lt_of_le (by decide) hN) kd_8 rfl (rK_z (fun hz7 => ?_))
    have key10 : ∀ x8 : Int32, x8 = (if p6.1 = 0 then (-5 : Int32) else (p6.2 8 1)) → RR κ N 2 iX10_write 37 [(0, .ref (κ 0 + 0)), (1, .int i1)] [.int x8] p6.2 (qI r μ') := by
      intro x8 e9
      rw [lt_of e9] at h
      cases h
      exact r_iret dX10_write_37 rfl rfl rfl
    refine g_if_eq (pc := 22) 35 dX10_write_22 (by decide) (fun hc11 => ?_) (fun hc11 => ?_)
    · refine g_bipush (pc := 35) (v := (-5 : Int32)) dX10_write_35 rfl ?_
      exact key10 _ (by rw [if_pos hc11])
    · refine g_aload_n (pc := 25) dX10_write_25 rfl rfl ?_
      refine gf_X10_19 (pc := 26) rfl dX10_write_26 (Nat.lt_of_lt_of_le (by decide) hN) kd_0 ?_
      refine gf_X10_91 (pc := 29) rfl dX10_write_29 (Nat.lt_of_lt_of_le (by decide) hN) kd_8 ?_
      refine g_goto (pc := 32) 37 dX10_write_32 (by decide) ?_
      exact key10 _ (by rw [if_neg hc11])
  · rw [if_neg hc4] at h
    refine g_bipush (pc := 11) (v := (-3 : Int32)) dX10_write_11 rfl ?_
    cases h
    exact r_iret dX10_write_13 rfl rfl rfl

def f_X10_sister (i1 : Int32) (i2 : Int32) (μ : gMem) : Option (Int32 × gMem) :=
  (f_X10_isUnknown i1 μ).bind (fun p2 =>
  if p2.1 = 0 then
  (if i2 = (0 : Int32) then
  (if inb i1 5 = true then
  some ((p2.2 (2 + 1 + i1.toNatClampNeg) 0), p2.2) else none)
else
  (if i2 = (1 : Int32) then
  (if inb i1 5 = true then
  some ((p2.2 (2 + 1 + i1.toNatClampNeg) 1), p2.2) else none)
else
  (if i2 = (2 : Int32) then
  (if inb i1 5 = true then
  some ((p2.2 (2 + 1 + i1.toNatClampNeg) 2), p2.2) else none)
else
  (if i2 = (3 : Int32) then
  (if inb i1 5 = true then
  some ((p2.2 (2 + 1 + i1.toNatClampNeg) 3), p2.2) else none)
else
  (if i2 = (4 : Int32) then
  (if inb i1 5 = true then
  some ((p2.2 (2 + 1 + i1.toNatClampNeg) 4), p2.2) else none)
else
  (if i2 = (5 : Int32) then
  (if inb i1 5 = true then
  some ((p2.2 (17 + 1 + i1.toNatClampNeg) 0), p2.2) else none)
else
  (if i2 = (6 : Int32) then
  (if inb i1 5 = true then
  some ((p2.2 (17 + 1 + i1.toNatClampNeg) 1), p2.2) else none)
else
  (if i2 = (7 : Int32) then
  (if inb i1 5 = true then
  some ((p2.2 (17 + 1 + i1.toNatClampNeg) 2), p2.2) else none)
else
  (if i2 = (8 : Int32) then
  (if inb i1 5 = true then
  some ((p2.2 (17 + 1 + i1.toNatClampNeg) 3), p2.2) else none)
else
  (if i2 = (9 : Int32) then
  (if inb i1 5 = true then
  some ((p2.2 (17 + 1 + i1.toNatClampNeg) 4), p2.2) else none)
else
  (some ((-3 : Int32), p2.2))))))))))))
else
  (some ((-2 : Int32), p2.2)))
set_option maxRecDepth 100000 in
set_option maxHeartbeats 4000000 in
theorem c_X10_sister {κ : Nat → Nat} {N : Nat} (hN : 140 ≤ N) (i1 : Int32) (i2 : Int32)  (μ : gMem) {r : Int32} {μ' : gMem} (h : f_X10_sister i1 i2 μ = some (r, μ')) : CT2 κ N 2 yX10_sister iX10_sister [.ref (κ 0 + 0), .int i1, .int i2] μ (qI r μ') := by
  refine CT2.of (by decide) rfl rfl (Nat.le_of_ble_eq_true rfl) ?_
  unfold f_X10_sister at h
  show RR κ N 2 iX10_sister 0 [(0, .ref (κ 0 + 0)), (1, .int i1), (2, .int i2)] [] μ _
  refine g_aload_n (pc := 0) dX10_sister_0 rfl rfl ?_
  refine g_iload_n (pc := 1) dX10_sister_1 rfl rfl ?_
  obtain ⟨p2, hp1, h⟩ := Option.bind_eq_some_iff.mp h
  refine r_callV (ci := 9) (pc := 2) (c_X10_isUnknown hN i1 μ hp1) yV_X10_isUnknown ⟨rfl, by decide⟩ pX10_isUnknown mL_X10_124 dX10_sister_2 (Nat.le_of_ble_eq_true rfl) (Nat.le_of_ble_eq_true rfl) (Nat.lt_of_lt_of_le (by decide) hN) kd_0 rfl (rK_z (fun hz3 => ?_))
  refine g_if_eq (pc := 5) 11 dX10_sister_5 (by decide) (fun hc4 => ?_) (fun hc4 => ?_)
  · rw [if_pos hc4] at h
    refine g_iload_n (pc := 11) dX10_sister_11 rfl rfl ?_
    by_cases hc5 : i2 = (0 : Int32)
    · rw [if_pos hc5] at h
      refine g_tableIn (pc := 12) 68 dX10_sister_12 (by rw [hc5]; decide) (by rw [hc5]; decide) (by rw [hc5]; rfl) (by decide) ?_
      refine g_aload_n (pc := 68) dX10_sister_68 rfl rfl ?_
      refine gf_X10_10 (pc := 69) rfl dX10_sister_69 (Nat.lt_of_lt_of_le (by decide) hN) kd_0 ?_
      refine gf_X10_127 (pc := 72) rfl dX10_sister_72 (Nat.lt_of_lt_of_le (by decide) hN) kd_1 ?_
      refine g_iload_n (pc := 75) dX10_sister_75 rfl rfl ?_
      obtain ⟨hg24, h⟩ := gd_some h
      refine r_aald (pc := 76) 23 5 (2 + 1 + i1.toNatClampNeg) dX10_sister_76 (Nat.lt_of_lt_of_le (by decide) hN) kd_2 (by decide) ln_2 hg24 rfl ?_
      refine gf_X10_131 (pc := 77) rfl dX10_sister_77 (Nat.lt_of_lt_of_le (kd_sis (inb_lt hg24)).2 hN) (kd_sis (inb_lt hg24)).1 ?_
      cases h
      exact r_iret dX10_sister_80 rfl rfl rfl
    · rw [if_neg hc5] at h
      by_cases hc6 : i2 = (1 : Int32)
      · rw [if_pos hc6] at h
        refine g_tableIn (pc := 12) 81 dX10_sister_12 (by rw [hc6]; decide) (by rw [hc6]; decide) (by rw [hc6]; rfl) (by decide) ?_
        refine g_aload_n (pc := 81) dX10_sister_81 rfl rfl ?_
        refine gf_X10_10 (pc := 82) rfl dX10_sister_82 (Nat.lt_of_lt_of_le (by decide) hN) kd_0 ?_
        refine gf_X10_127 (pc := 85) rfl dX10_sister_85 (Nat.lt_of_lt_of_le (by decide) hN) kd_1 ?_
        refine g_iload_n (pc := 88) dX10_sister_88 rfl rfl ?_
        obtain ⟨hg23, h⟩ := gd_some h
        refine r_aald (pc := 89) 23 5 (2 + 1 + i1.toNatClampNeg) dX10_sister_89 (Nat.lt_of_lt_of_le (by decide) hN) kd_2 (by decide) ln_2 hg23 rfl ?_
        refine gf_X10_136 (pc := 90) rfl dX10_sister_90 (Nat.lt_of_lt_of_le (kd_sis (inb_lt hg23)).2 hN) (kd_sis (inb_lt hg23)).1 ?_
        cases h
        exact r_iret dX10_sister_93 rfl rfl rfl
      · rw [if_neg hc6] at h
        by_cases hc7 : i2 = (2 : Int32)
        · rw [if_pos hc7] at h
          refine g_tableIn (pc := 12) 94 dX10_sister_12 (by rw [hc7]; decide) (by rw [hc7]; decide) (by rw [hc7]; rfl) (by decide) ?_
          refine g_aload_n (pc := 94) dX10_sister_94 rfl rfl ?_
          refine gf_X10_10 (pc := 95) rfl dX10_sister_95 (Nat.lt_of_lt_of_le (by decide) hN) kd_0 ?_
          refine gf_X10_127 (pc := 98) rfl dX10_sister_98 (Nat.lt_of_lt_of_le (by decide) hN) kd_1 ?_
          refine g_iload_n (pc := 101) dX10_sister_101 rfl rfl ?_
          obtain ⟨hg22, h⟩ := gd_some h
          refine r_aald (pc := 102) 23 5 (2 + 1 + i1.toNatClampNeg) dX10_sister_102 (Nat.lt_of_lt_of_le (by decide) hN) kd_2 (by decide) ln_2 hg22 rfl ?_
          refine gf_X10_139 (pc := 103) rfl dX10_sister_103 (Nat.lt_of_lt_of_le (kd_sis (inb_lt hg22)).2 hN) (kd_sis (inb_lt hg22)).1 ?_
          cases h
          exact r_iret dX10_sister_106 rfl rfl rfl
        · rw [if_neg hc7] at h
          by_cases hc8 : i2 = (3 : Int32)
          · rw [if_pos hc8] at h
            refine g_tableIn (pc := 12) 107 dX10_sister_12 (by rw [hc8]; decide) (by rw [hc8]; decide) (by rw [hc8]; rfl) (by decide) ?_
            refine g_aload_n (pc := 107) dX10_sister_107 rfl rfl ?_
            refine gf_X10_10 (pc := 108) rfl dX10_sister_108 (Nat.lt_of_lt_of_le (by decide) hN) kd_0 ?_
            refine gf_X10_127 (pc := 111) rfl dX10_sister_111 (Nat.lt_of_lt_of_le (by decide) hN) kd_1 ?_
            refine g_iload_n (pc := 114) dX10_sister_114 rfl rfl ?_
            obtain ⟨hg21, h⟩ := gd_some h
            refine r_aald (pc := 115) 23 5 (2 + 1 + i1.toNatClampNeg) dX10_sister_115 (Nat.lt_of_lt_of_le (by decide) hN) kd_2 (by decide) ln_2 hg21 rfl ?_
            refine gf_X10_142 (pc := 116) rfl dX10_sister_116 (Nat.lt_of_lt_of_le (kd_sis (inb_lt hg21)).2 hN) (kd_sis (inb_lt hg21)).1 ?_
            cases h
            exact r_iret dX10_sister_119 rfl rfl rfl
          · rw [if_neg hc8] at h
            by_cases hc9 : i2 = (4 : Int32)
            · rw [if_pos hc9] at h
              refine g_tableIn (pc := 12) 120 dX10_sister_12 (by rw [hc9]; decide) (by rw [hc9]; decide) (by rw [hc9]; rfl) (by decide) ?_
              refine g_aload_n (pc := 120) dX10_sister_120 rfl rfl ?_
              refine gf_X10_10 (pc := 121) rfl dX10_sister_121 (Nat.lt_of_lt_of_le (by decide) hN) kd_0 ?_
              refine gf_X10_127 (pc := 124) rfl dX10_sister_124 (Nat.lt_of_lt_of_le (by decide) hN) kd_1 ?_
              refine g_iload_n (pc := 127) dX10_sister_127 rfl rfl ?_
              obtain ⟨hg20, h⟩ := gd_some h
              refine r_aald (pc := 128) 23 5 (2 + 1 + i1.toNatClampNeg) dX10_sister_128 (Nat.lt_of_lt_of_le (by decide) hN) kd_2 (by decide) ln_2 hg20 rfl ?_
              refine gf_X10_145 (pc := 129) rfl dX10_sister_129 (Nat.lt_of_lt_of_le (kd_sis (inb_lt hg20)).2 hN) (kd_sis (inb_lt hg20)).1 ?_
              cases h
              exact r_iret dX10_sister_132 rfl rfl rfl
            · rw [if_neg hc9] at h
              by_cases hc10 : i2 = (5 : Int32)
              · rw [if_pos hc10] at h
                refine g_tableIn (pc := 12) 133 dX10_sister_12 (by rw [hc10]; decide) (by rw [hc10]; decide) (by rw [hc10]; rfl) (by decide) ?_
                refine g_aload_n (pc := 133) dX10_sister_133 rfl rfl ?_
                refine gf_X10_33 (pc := 134) rfl dX10_sister_134 (Nat.lt_of_lt_of_le (by decide) hN) kd_0 ?_
                refine gf_X10_148 (pc := 137) rfl dX10_sister_137 (Nat.lt_of_lt_of_le (by decide) hN) kd_16 ?_
                show RR κ N 2 iX10_sister 140 [(0, .ref (κ 0 + 0)), (1, .int i1), (2, .int i2)] [.ref (κ 0 + 17)] p2.2 _
                refine g_iload_n (pc := 140) dX10_sister_140 rfl rfl ?_
                obtain ⟨hg19, h⟩ := gd_some h
                refine r_aald (pc := 141) 24 5 (17 + 1 + i1.toNatClampNeg) dX10_sister_141 (Nat.lt_of_lt_of_le (by decide) hN) kd_17 (by decide) ln_17 hg19 rfl ?_
                refine gf_X10_152 (pc := 142) rfl dX10_sister_142 (Nat.lt_of_lt_of_le (kd_warr kd_17 (inb_lt hg19)).2 hN) (kd_warr kd_17 (inb_lt hg19)).1 ?_
                cases h
                exact r_iret dX10_sister_145 rfl rfl rfl
              · rw [if_neg hc10] at h
                by_cases hc11 : i2 = (6 : Int32)
                · rw [if_pos hc11] at h
                  refine g_tableIn (pc := 12) 146 dX10_sister_12 (by rw [hc11]; decide) (by rw [hc11]; decide) (by rw [hc11]; rfl) (by decide) ?_
                  refine g_aload_n (pc := 146) dX10_sister_146 rfl rfl ?_
                  refine gf_X10_33 (pc := 147) rfl dX10_sister_147 (Nat.lt_of_lt_of_le (by decide) hN) kd_0 ?_
                  refine gf_X10_148 (pc := 150) rfl dX10_sister_150 (Nat.lt_of_lt_of_le (by decide) hN) kd_16 ?_
                  show RR κ N 2 iX10_sister 153 [(0, .ref (κ 0 + 0)), (1, .int i1), (2, .int i2)] [.ref (κ 0 + 17)] p2.2 _
                  refine g_iload_n (pc := 153) dX10_sister_153 rfl rfl ?_
                  obtain ⟨hg18, h⟩ := gd_some h
                  refine r_aald (pc := 154) 24 5 (17 + 1 + i1.toNatClampNeg) dX10_sister_154 (Nat.lt_of_lt_of_le (by decide) hN) kd_17 (by decide) ln_17 hg18 rfl ?_
                  refine gf_X10_157 (pc := 155) rfl dX10_sister_155 (Nat.lt_of_lt_of_le (kd_warr kd_17 (inb_lt hg18)).2 hN) (kd_warr kd_17 (inb_lt hg18)).1 ?_
                  cases h
                  exact r_iret dX10_sister_158 rfl rfl rfl
                · rw [if_neg hc11] at h
                  by_cases hc12 : i2 = (7 : Int32)
                  · rw [if_pos hc12] at h
                    refine g_tableIn (pc := 12) 159 dX10_sister_12 (by rw [hc12]; decide) (by rw [hc12]; decide) (by rw [hc12]; rfl) (by decide) ?_
                    refine g_aload_n (pc := 159) dX10_sister_159 rfl rfl ?_
                    refine gf_X10_33 (pc := 160) rfl dX10_sister_160 (Nat.lt_of_lt_of_le (by decide) hN) kd_0 ?_
                    refine gf_X10_148 (pc := 163) rfl dX10_sister_163 (Nat.lt_of_lt_of_le (by decide) hN) kd_16 ?_
                    show RR κ N 2 iX10_sister 166 [(0, .ref (κ 0 + 0)), (1, .int i1), (2, .int i2)] [.ref (κ 0 + 17)] p2.2 _
                    refine g_iload_n (pc := 166) dX10_sister_166 rfl rfl ?_
                    obtain ⟨hg17, h⟩ := gd_some h
                    refine r_aald (pc := 167) 24 5 (17 + 1 + i1.toNatClampNeg) dX10_sister_167 (Nat.lt_of_lt_of_le (by decide) hN) kd_17 (by decide) ln_17 hg17 rfl ?_
                    refine gf_X10_160 (pc := 168) rfl dX10_sister_168 (Nat.lt_of_lt_of_le (kd_warr kd_17 (inb_lt hg17)).2 hN) (kd_warr kd_17 (inb_lt hg17)).1 ?_
                    cases h
                    exact r_iret dX10_sister_171 rfl rfl rfl
                  · rw [if_neg hc12] at h
                    by_cases hc13 : i2 = (8 : Int32)
                    · rw [if_pos hc13] at h
                      refine g_tableIn (pc := 12) 172 dX10_sister_12 (by rw [hc13]; decide) (by rw [hc13]; decide) (by rw [hc13]; rfl) (by decide) ?_
                      refine g_aload_n (pc := 172) dX10_sister_172 rfl rfl ?_
                      refine gf_X10_33 (pc := 173) rfl dX10_sister_173 (Nat.lt_of_lt_of_le (by decide) hN) kd_0 ?_
                      refine gf_X10_148 (pc := 176) rfl dX10_sister_176 (Nat.lt_of_lt_of_le (by decide) hN) kd_16 ?_
                      show RR κ N 2 iX10_sister 179 [(0, .ref (κ 0 + 0)), (1, .int i1), (2, .int i2)] [.ref (κ 0 + 17)] p2.2 _
                      refine g_iload_n (pc := 179) dX10_sister_179 rfl rfl ?_
                      obtain ⟨hg16, h⟩ := gd_some h
                      refine r_aald (pc := 180) 24 5 (17 + 1 + i1.toNatClampNeg) dX10_sister_180 (Nat.lt_of_lt_of_le (by decide) hN) kd_17 (by decide) ln_17 hg16 rfl ?_
                      refine gf_X10_163 (pc := 181) rfl dX10_sister_181 (Nat.lt_of_lt_of_le (kd_warr kd_17 (inb_lt hg16)).2 hN) (kd_warr kd_17 (inb_lt hg16)).1 ?_
                      cases h
                      exact r_iret dX10_sister_184 rfl rfl rfl
                    · rw [if_neg hc13] at h
                      by_cases hc14 : i2 = (9 : Int32)
                      · rw [if_pos hc14] at h
                        refine g_tableIn (pc := 12) 185 dX10_sister_12 (by rw [hc14]; decide) (by rw [hc14]; decide) (by rw [hc14]; rfl) (by decide) ?_
                        refine g_aload_n (pc := 185) dX10_sister_185 rfl rfl ?_
                        refine gf_X10_33 (pc := 186) rfl dX10_sister_186 (Nat.lt_of_lt_of_le (by decide) hN) kd_0 ?_
                        refine gf_X10_148 (pc := 189) rfl dX10_sister_189 (Nat.lt_of_lt_of_le (by decide) hN) kd_16 ?_
                        show RR κ N 2 iX10_sister 192 [(0, .ref (κ 0 + 0)), (1, .int i1), (2, .int i2)] [.ref (κ 0 + 17)] p2.2 _
                        refine g_iload_n (pc := 192) dX10_sister_192 rfl rfl ?_
                        obtain ⟨hg15, h⟩ := gd_some h
                        refine r_aald (pc := 193) 24 5 (17 + 1 + i1.toNatClampNeg) dX10_sister_193 (Nat.lt_of_lt_of_le (by decide) hN) kd_17 (by decide) ln_17 hg15 rfl ?_
                        refine gf_X10_166 (pc := 194) rfl dX10_sister_194 (Nat.lt_of_lt_of_le (kd_warr kd_17 (inb_lt hg15)).2 hN) (kd_warr kd_17 (inb_lt hg15)).1 ?_
                        cases h
                        exact r_iret dX10_sister_197 rfl rfl rfl
                      · rw [if_neg hc14] at h
                        refine g_tableOut (pc := 12) 198 dX10_sister_12 (by have q0 := lv_neT hc5 (a := 0) (by decide); have q1 := lv_neT hc6 (a := 1) (by decide); have q2 := lv_neT hc7 (a := 2) (by decide); have q3 := lv_neT hc8 (a := 3) (by decide); have q4 := lv_neT hc9 (a := 4) (by decide); have q5 := lv_neT hc10 (a := 5) (by decide); have q6 := lv_neT hc11 (a := 6) (by decide); have q7 := lv_neT hc12 (a := 7) (by decide); have q8 := lv_neT hc13 (a := 8) (by decide); have q9 := lv_neT hc14 (a := 9) (by decide); omega) (by decide) ?_
                        refine g_bipush (pc := 198) (v := (-3 : Int32)) dX10_sister_198 rfl ?_
                        cases h
                        exact r_iret dX10_sister_200 rfl rfl rfl
  · rw [if_neg hc4] at h
    refine g_bipush (pc := 8) (v := (-2 : Int32)) dX10_sister_8 rfl ?_
    cases h
    exact r_iret dX10_sister_10 rfl rfl rfl

def f_X10_as (i1 : Int32) (i2 : Int32) (μ : gMem) : Option (Int32 × gMem) :=
  (f_X10_isUnknown i1 μ).bind (fun p2 =>
  if p2.1 = 0 then
  ((f_X10_isOutside i2 (0 : Int32) ((Int32.ofNat 4) - (1 : Int32)) p2.2).bind (fun p6 =>
  if p6.1 = 0 then
  (if inb i1 5 = true then
  (f_X10_isSuch_S ((p6.2 (2 + 1 + i1.toNatClampNeg) 0) + (1 : Int32)) i2 p6.2).bind (fun p13 =>
  if p13.1 = 0 then
  (some ((-4 : Int32), p13.2))
else
  ((f_X6_walk (2 + 1 + i1.toNatClampNeg) (p13.2 (17 + 1 + i1.toNatClampNeg) 3) p13.2).bind (fun p17 =>
  some (p17.1, p17.2)))) else none)
else
  (some ((-3 : Int32), p6.2))))
else
  (some ((-2 : Int32), p2.2)))
set_option maxRecDepth 100000 in
set_option maxHeartbeats 4000000 in
theorem c_X10_as {κ : Nat → Nat} {N : Nat} (hN : 140 ≤ N) (i1 : Int32) (i2 : Int32)  (μ : gMem) {r : Int32} {μ' : gMem} (h : f_X10_as i1 i2 μ = some (r, μ')) : CT2 κ N 2 yX10_as iX10_as [.ref (κ 0 + 0), .int i1, .int i2] μ (qI r μ') := by
  refine CT2.of (by decide) rfl rfl (Nat.le_of_ble_eq_true rfl) ?_
  unfold f_X10_as at h
  show RR κ N 2 iX10_as 0 [(0, .ref (κ 0 + 0)), (1, .int i1), (2, .int i2)] [] μ _
  refine g_aload_n (pc := 0) dX10_as_0 rfl rfl ?_
  refine g_iload_n (pc := 1) dX10_as_1 rfl rfl ?_
  obtain ⟨p2, hp1, h⟩ := Option.bind_eq_some_iff.mp h
  refine r_callV (ci := 9) (pc := 2) (c_X10_isUnknown hN i1 μ hp1) yV_X10_isUnknown ⟨rfl, by decide⟩ pX10_isUnknown mL_X10_124 dX10_as_2 (Nat.le_of_ble_eq_true rfl) (Nat.le_of_ble_eq_true rfl) (Nat.lt_of_lt_of_le (by decide) hN) kd_0 rfl (rK_z (fun hz3 => ?_))
  refine g_if_eq (pc := 5) 11 dX10_as_5 (by decide) (fun hc4 => ?_) (fun hc4 => ?_)
  · rw [if_pos hc4] at h
    refine g_iload_n (pc := 11) dX10_as_11 rfl rfl ?_
    refine g_iconst (pc := 12) (v := (0 : Int32)) dX10_as_12 rfl ?_
    refine g_gets (pc := 13) dX10_as_13 (fun _ _ h => h.1.1) wF_X10_169 ?_
    refine g_tlen (pc := 16) dX10_as_16 (fun _ _ h => h.1.2) ?_
    refine g_iconst (pc := 17) (v := (1 : Int32)) dX10_as_17 rfl ?_
    refine g_isub (pc := 18) dX10_as_18 ?_
    obtain ⟨p6, hp5, h⟩ := Option.bind_eq_some_iff.mp h
    refine r_callS (pc := 19) (c_X10_isOutside hN i2 (0 : Int32) ((Int32.ofNat 4) - (1 : Int32)) p2.2 hp5) yS_X10_isOutside pX10_isOutside mL_X10_83 dX10_as_19 (Nat.le_of_ble_eq_true rfl) (Nat.le_of_ble_eq_true rfl) rfl (rK_z (fun hz7 => ?_))
    refine g_if_eq (pc := 22) 28 dX10_as_22 (by decide) (fun hc8 => ?_) (fun hc8 => ?_)
    · rw [if_pos hc8] at h
      refine g_aload_n (pc := 28) dX10_as_28 rfl rfl ?_
      refine gf_X10_10 (pc := 29) rfl dX10_as_29 (Nat.lt_of_lt_of_le (by decide) hN) kd_0 ?_
      refine gf_X10_127 (pc := 32) rfl dX10_as_32 (Nat.lt_of_lt_of_le (by decide) hN) kd_1 ?_
      refine g_iload_n (pc := 35) dX10_as_35 rfl rfl ?_
      obtain ⟨hg9, h⟩ := gd_some h
      refine r_aald (pc := 36) 23 5 (2 + 1 + i1.toNatClampNeg) dX10_as_36 (Nat.lt_of_lt_of_le (by decide) hN) kd_2 (by decide) ln_2 hg9 rfl ?_
      refine g_astore_n (pc := 37) (lv' := fun y => [(0, .ref (κ 0 + 0)), (1, .int i1), (2, .int i2), (3, .ref y)]) dX10_as_37 rfl (Nat.le_of_ble_eq_true rfl) (fun _ => rfl) (fun y10 e11 => ?_)
      rw [e11]
      refine g_gets (pc := 38) dX10_as_38 (fun _ _ h => h.1.1) wF_X10_169 ?_
      refine g_aload_n (pc := 41) dX10_as_41 rfl rfl ?_
      refine gf_X10_131 (pc := 42) rfl dX10_as_42 (Nat.lt_of_lt_of_le (kd_sis (inb_lt hg9)).2 hN) (kd_sis (inb_lt hg9)).1 ?_
      refine g_iconst (pc := 45) (v := (1 : Int32)) dX10_as_45 rfl ?_
      refine g_iadd (pc := 46) dX10_as_46 ?_
      refine g_iload_n (pc := 47) dX10_as_47 rfl rfl ?_
      obtain ⟨p13, hp12, h⟩ := Option.bind_eq_some_iff.mp h
      refine r_callS (pc := 48) (c_X10_isSuch_S hN ((p6.2 (2 + 1 + i1.toNatClampNeg) 0) + (1 : Int32)) i2 p6.2 hp12) yS_X10_isSuch pX10_isSuch mL_X10_172 dX10_as_48 (Nat.le_of_ble_eq_true rfl) (Nat.le_of_ble_eq_true rfl) rfl (rK_z (fun hz14 => ?_))
      refine g_if_ne (pc := 51) 57 dX10_as_51 (by decide) (fun hc15 => ?_) (fun hc15 => ?_)
      · rw [if_neg hc15] at h
        refine g_aload_n (pc := 57) dX10_as_57 rfl rfl ?_
        refine g_aload_n (pc := 58) dX10_as_58 rfl rfl ?_
        refine gf_X10_33 (pc := 59) rfl dX10_as_59 (Nat.lt_of_lt_of_le (by decide) hN) kd_0 ?_
        refine gf_X10_148 (pc := 62) rfl dX10_as_62 (Nat.lt_of_lt_of_le (by decide) hN) kd_16 ?_
        show RR κ N 2 iX10_as 65 [(0, .ref (κ 0 + 0)), (1, .int i1), (2, .int i2), (3, .ref (κ 0 + (2 + 1 + i1.toNatClampNeg)))] [.ref (κ 0 + 17), .ref (κ 0 + (2 + 1 + i1.toNatClampNeg))] p13.2 _
        refine g_iload_n (pc := 65) dX10_as_65 rfl rfl ?_
        refine r_aald (pc := 66) 24 5 (17 + 1 + i1.toNatClampNeg) dX10_as_66 (Nat.lt_of_lt_of_le (by decide) hN) kd_17 (by decide) ln_17 hg9 rfl ?_
        refine gf_X10_163 (pc := 67) rfl dX10_as_67 (Nat.lt_of_lt_of_le (kd_warr kd_17 (inb_lt hg9)).2 hN) (kd_warr kd_17 (inb_lt hg9)).1 ?_
        obtain ⟨p17, hp16, h⟩ := Option.bind_eq_some_iff.mp h
        refine r_callV (ci := 6) (pc := 70) (c_X6_walk hN (2 + 1 + i1.toNatClampNeg) (p13.2 (17 + 1 + i1.toNatClampNeg) 3) ((kd_sis (inb_lt hg9)).1) p13.2 hp16) yV_X6_walk ⟨rfl, by decide⟩ pX6_walk mL_X10_176 dX10_as_70 (Nat.le_of_ble_eq_true rfl) (Nat.le_of_ble_eq_true rfl) (Nat.lt_of_lt_of_le (kd_sis (inb_lt hg9)).2 hN) (kd_sis (inb_lt hg9)).1 rfl (rK_i ?_)
        cases h
        exact r_iret dX10_as_73 rfl rfl rfl
      · rw [if_pos hc15] at h
        refine g_bipush (pc := 54) (v := (-4 : Int32)) dX10_as_54 rfl ?_
        cases h
        exact r_iret dX10_as_56 rfl rfl rfl
    · rw [if_neg hc8] at h
      refine g_bipush (pc := 25) (v := (-3 : Int32)) dX10_as_25 rfl ?_
      cases h
      exact r_iret dX10_as_27 rfl rfl rfl
  · rw [if_neg hc4] at h
    refine g_bipush (pc := 8) (v := (-2 : Int32)) dX10_as_8 rfl ?_
    cases h
    exact r_iret dX10_as_10 rfl rfl rfl

def f_X10_sieveAs (i1 : Int32) (i2 : Int32) (μ : gMem) : Option (Int32 × gMem) :=
  (f_X10_isUnknown i1 μ).bind (fun p2 =>
  if p2.1 = 0 then
  ((f_X10_isOutside i2 (0 : Int32) ((Int32.ofNat 5) - (1 : Int32)) p2.2).bind (fun p6 =>
  if p6.1 = 0 then
  (if inb i1 5 = true then
  (f_X10_isSuch_V ((p6.2 (2 + 1 + i1.toNatClampNeg) 3) + (1 : Int32)) i2 p6.2).bind (fun p13 =>
  if p13.1 = 0 then
  (some ((-4 : Int32), p13.2))
else
  ((f_X6_drip (2 + 1 + i1.toNatClampNeg) p13.2).bind (fun p17 =>
  some (p17.1, p17.2)))) else none)
else
  (some ((-3 : Int32), p6.2))))
else
  (some ((-2 : Int32), p2.2)))
set_option maxRecDepth 100000 in
set_option maxHeartbeats 4000000 in
theorem c_X10_sieveAs {κ : Nat → Nat} {N : Nat} (hN : 140 ≤ N) (i1 : Int32) (i2 : Int32)  (μ : gMem) {r : Int32} {μ' : gMem} (h : f_X10_sieveAs i1 i2 μ = some (r, μ')) : CT2 κ N 2 yX10_sieveAs iX10_sieveAs [.ref (κ 0 + 0), .int i1, .int i2] μ (qI r μ') := by
  refine CT2.of (by decide) rfl rfl (Nat.le_of_ble_eq_true rfl) ?_
  unfold f_X10_sieveAs at h
  show RR κ N 2 iX10_sieveAs 0 [(0, .ref (κ 0 + 0)), (1, .int i1), (2, .int i2)] [] μ _
  refine g_aload_n (pc := 0) dX10_sieveAs_0 rfl rfl ?_
  refine g_iload_n (pc := 1) dX10_sieveAs_1 rfl rfl ?_
  obtain ⟨p2, hp1, h⟩ := Option.bind_eq_some_iff.mp h
  refine r_callV (ci := 9) (pc := 2) (c_X10_isUnknown hN i1 μ hp1) yV_X10_isUnknown ⟨rfl, by decide⟩ pX10_isUnknown mL_X10_124 dX10_sieveAs_2 (Nat.le_of_ble_eq_true rfl) (Nat.le_of_ble_eq_true rfl) (Nat.lt_of_lt_of_le (by decide) hN) kd_0 rfl (rK_z (fun hz3 => ?_))
  refine g_if_eq (pc := 5) 11 dX10_sieveAs_5 (by decide) (fun hc4 => ?_) (fun hc4 => ?_)
  · rw [if_pos hc4] at h
    refine g_iload_n (pc := 11) dX10_sieveAs_11 rfl rfl ?_
    refine g_iconst (pc := 12) (v := (0 : Int32)) dX10_sieveAs_12 rfl ?_
    refine g_gets (pc := 13) dX10_sieveAs_13 (fun _ _ h => h.2.1.1) wF_X10_180 ?_
    refine g_tlen (pc := 16) dX10_sieveAs_16 (fun _ _ h => h.2.1.2) ?_
    refine g_iconst (pc := 17) (v := (1 : Int32)) dX10_sieveAs_17 rfl ?_
    refine g_isub (pc := 18) dX10_sieveAs_18 ?_
    obtain ⟨p6, hp5, h⟩ := Option.bind_eq_some_iff.mp h
    refine r_callS (pc := 19) (c_X10_isOutside hN i2 (0 : Int32) ((Int32.ofNat 5) - (1 : Int32)) p2.2 hp5) yS_X10_isOutside pX10_isOutside mL_X10_83 dX10_sieveAs_19 (Nat.le_of_ble_eq_true rfl) (Nat.le_of_ble_eq_true rfl) rfl (rK_z (fun hz7 => ?_))
    refine g_if_eq (pc := 22) 28 dX10_sieveAs_22 (by decide) (fun hc8 => ?_) (fun hc8 => ?_)
    · rw [if_pos hc8] at h
      refine g_aload_n (pc := 28) dX10_sieveAs_28 rfl rfl ?_
      refine gf_X10_10 (pc := 29) rfl dX10_sieveAs_29 (Nat.lt_of_lt_of_le (by decide) hN) kd_0 ?_
      refine gf_X10_127 (pc := 32) rfl dX10_sieveAs_32 (Nat.lt_of_lt_of_le (by decide) hN) kd_1 ?_
      refine g_iload_n (pc := 35) dX10_sieveAs_35 rfl rfl ?_
      obtain ⟨hg9, h⟩ := gd_some h
      refine r_aald (pc := 36) 23 5 (2 + 1 + i1.toNatClampNeg) dX10_sieveAs_36 (Nat.lt_of_lt_of_le (by decide) hN) kd_2 (by decide) ln_2 hg9 rfl ?_
      refine g_astore_n (pc := 37) (lv' := fun y => [(0, .ref (κ 0 + 0)), (1, .int i1), (2, .int i2), (3, .ref y)]) dX10_sieveAs_37 rfl (Nat.le_of_ble_eq_true rfl) (fun _ => rfl) (fun y10 e11 => ?_)
      rw [e11]
      refine g_gets (pc := 38) dX10_sieveAs_38 (fun _ _ h => h.2.1.1) wF_X10_180 ?_
      refine g_aload_n (pc := 41) dX10_sieveAs_41 rfl rfl ?_
      refine gf_X10_142 (pc := 42) rfl dX10_sieveAs_42 (Nat.lt_of_lt_of_le (kd_sis (inb_lt hg9)).2 hN) (kd_sis (inb_lt hg9)).1 ?_
      refine g_iconst (pc := 45) (v := (1 : Int32)) dX10_sieveAs_45 rfl ?_
      refine g_iadd (pc := 46) dX10_sieveAs_46 ?_
      refine g_iload_n (pc := 47) dX10_sieveAs_47 rfl rfl ?_
      obtain ⟨p13, hp12, h⟩ := Option.bind_eq_some_iff.mp h
      refine r_callS (pc := 48) (c_X10_isSuch_V hN ((p6.2 (2 + 1 + i1.toNatClampNeg) 3) + (1 : Int32)) i2 p6.2 hp12) yS_X10_isSuch pX10_isSuch mL_X10_172 dX10_sieveAs_48 (Nat.le_of_ble_eq_true rfl) (Nat.le_of_ble_eq_true rfl) rfl (rK_z (fun hz14 => ?_))
      refine g_if_ne (pc := 51) 57 dX10_sieveAs_51 (by decide) (fun hc15 => ?_) (fun hc15 => ?_)
      · rw [if_neg hc15] at h
        refine g_aload_n (pc := 57) dX10_sieveAs_57 rfl rfl ?_
        obtain ⟨p17, hp16, h⟩ := Option.bind_eq_some_iff.mp h
        refine r_callV (ci := 6) (pc := 58) (c_X6_drip hN (2 + 1 + i1.toNatClampNeg) ((kd_sis (inb_lt hg9)).1) p13.2 hp16) yV_X6_drip ⟨rfl, by decide⟩ pX6_drip mL_X10_183 dX10_sieveAs_58 (Nat.le_of_ble_eq_true rfl) (Nat.le_of_ble_eq_true rfl) (Nat.lt_of_lt_of_le (kd_sis (inb_lt hg9)).2 hN) (kd_sis (inb_lt hg9)).1 rfl (rK_i ?_)
        cases h
        exact r_iret dX10_sieveAs_61 rfl rfl rfl
      · rw [if_pos hc15] at h
        refine g_bipush (pc := 54) (v := (-4 : Int32)) dX10_sieveAs_54 rfl ?_
        cases h
        exact r_iret dX10_sieveAs_56 rfl rfl rfl
    · rw [if_neg hc8] at h
      refine g_bipush (pc := 25) (v := (-3 : Int32)) dX10_sieveAs_25 rfl ?_
      cases h
      exact r_iret dX10_sieveAs_27 rfl rfl rfl
  · rw [if_neg hc4] at h
    refine g_bipush (pc := 8) (v := (-2 : Int32)) dX10_sieveAs_8 rfl ?_
    cases h
    exact r_iret dX10_sieveAs_10 rfl rfl rfl

def f_X10_keep (i1 : Int32) (μ : gMem) : Option (Int32 × gMem) :=
  (f_X10_isOutside i1 (0 : Int32) (1 : Int32) μ).bind (fun p2 =>
  if p2.1 = 0 then
  (if inb i1 2 = true then
  (f_X5_copy (81 + 1 + 7 * i1.toNatClampNeg) 16 p2.2).bind (fun m7 =>
  lt (st m7 96 i1.toNatClampNeg (1 : Int32)) (fun m8 =>
  some ((m8 16 0), m8))) else none)
else
  (some ((-2 : Int32), p2.2)))
set_option maxRecDepth 100000 in
set_option maxHeartbeats 4000000 in
theorem c_X10_keep {κ : Nat → Nat} {N : Nat} (hN : 140 ≤ N) (i1 : Int32)  (μ : gMem) {r : Int32} {μ' : gMem} (h : f_X10_keep i1 μ = some (r, μ')) : CT2 κ N 3 yX10_keep iX10_keep [.ref (κ 0 + 0), .int i1] μ (qI r μ') := by
  refine CT2.of (by decide) rfl rfl (Nat.le_of_ble_eq_true rfl) ?_
  unfold f_X10_keep at h
  show RR κ N 3 iX10_keep 0 [(0, .ref (κ 0 + 0)), (1, .int i1)] [] μ _
  refine g_iload_n (pc := 0) dX10_keep_0 rfl rfl ?_
  refine g_iconst (pc := 1) (v := (0 : Int32)) dX10_keep_1 rfl ?_
  refine g_iconst (pc := 2) (v := (1 : Int32)) dX10_keep_2 rfl ?_
  obtain ⟨p2, hp1, h⟩ := Option.bind_eq_some_iff.mp h
  refine r_callS (pc := 3) (c_X10_isOutside hN i1 (0 : Int32) (1 : Int32) μ hp1) yS_X10_isOutside pX10_isOutside mL_X10_83 dX10_keep_3 (Nat.le_of_ble_eq_true rfl) (Nat.le_of_ble_eq_true rfl) rfl (rK_z (fun hz3 => ?_))
  refine g_if_eq (pc := 6) 12 dX10_keep_6 (by decide) (fun hc4 => ?_) (fun hc4 => ?_)
  · rw [if_pos hc4] at h
    refine g_aload_n (pc := 12) dX10_keep_12 rfl rfl ?_
    refine gf_X10_44 (pc := 13) rfl dX10_keep_13 (Nat.lt_of_lt_of_le (by decide) hN) kd_0 ?_
    refine g_iload_n (pc := 16) dX10_keep_16 rfl rfl ?_
    obtain ⟨hg5, h⟩ := gd_some h
    refine r_aald (pc := 17) 22 2 (81 + 1 + 7 * i1.toNatClampNeg) dX10_keep_17 (Nat.lt_of_lt_of_le (by decide) hN) kd_81 (by decide) ln_81 hg5 rfl ?_
    refine g_aload_n (pc := 18) dX10_keep_18 rfl rfl ?_
    refine gf_X10_33 (pc := 19) rfl dX10_keep_19 (Nat.lt_of_lt_of_le (by decide) hN) kd_0 ?_
    obtain ⟨m7, hp6, h⟩ := Option.bind_eq_some_iff.mp h
    refine r_callV (ci := 5) (pc := 22) (c_X5_copy hN (81 + 1 + 7 * i1.toNatClampNeg) 16 (kd_kept (inb_lt hg5)) kd_16 p2.2 hp6) yV_X5_copy ⟨rfl, by decide⟩ pX5_copy mL_X10_218 dX10_keep_22 (Nat.le_of_ble_eq_true rfl) (Nat.le_of_ble_eq_true rfl) (Nat.lt_of_lt_of_le (kd_obj (kd_kept (inb_lt hg5)) (by decide)) hN) (kd_kept (inb_lt hg5)) rfl (rK_v ?_)
    refine g_aload_n (pc := 25) dX10_keep_25 rfl rfl ?_
    refine gf_X10_48 (pc := 26) rfl dX10_keep_26 (Nat.lt_of_lt_of_le (by decide) hN) kd_0 ?_
    refine g_iload_n (pc := 29) dX10_keep_29 rfl rfl ?_
    refine g_iconst (pc := 30) (v := (1 : Int32)) dX10_keep_30 rfl ?_
    refine r_zast (pc := 31) 2 dX10_keep_31 (Nat.lt_of_lt_of_le (by decide) hN) kd_96 ln_96 hg5 rfl (fun m8 e9 => ?_)
    rw [lt_of e9] at h
    refine g_aload_n (pc := 32) dX10_keep_32 rfl rfl ?_
    refine gf_X10_33 (pc := 33) rfl dX10_keep_33 (Nat.lt_of_lt_of_le (by decide) hN) kd_0 ?_
    refine gf_X10_205 (pc := 36) rfl dX10_keep_36 (Nat.lt_of_lt_of_le (by decide) hN) kd_16 ?_
    cases h
    exact r_iret dX10_keep_39 rfl rfl rfl
  · rw [if_neg hc4] at h
    refine g_bipush (pc := 9) (v := (-2 : Int32)) dX10_keep_9 rfl ?_
    cases h
    exact r_iret dX10_keep_11 rfl rfl rfl

def f_X10_back (i1 : Int32) (μ : gMem) : Option (Int32 × gMem) :=
  (f_X10_isOutside i1 (0 : Int32) (1 : Int32) μ).bind (fun p2 =>
  if p2.1 = 0 then
  (if inb i1 2 = true then
  if (p2.2 96 i1.toNatClampNeg) = 0 then
  (some ((-4 : Int32), p2.2))
else
  ((f_X5_copy 16 (81 + 1 + 7 * i1.toNatClampNeg) p2.2).bind (fun m8 =>
  lt (st m8 23 2 (0 : Int32)) (fun m9 =>
  some ((m9 16 0), m9)))) else none)
else
  (some ((-2 : Int32), p2.2)))
set_option maxRecDepth 100000 in
set_option maxHeartbeats 4000000 in
theorem c_X10_back {κ : Nat → Nat} {N : Nat} (hN : 140 ≤ N) (i1 : Int32)  (μ : gMem) {r : Int32} {μ' : gMem} (h : f_X10_back i1 μ = some (r, μ')) : CT2 κ N 3 yX10_back iX10_back [.ref (κ 0 + 0), .int i1] μ (qI r μ') := by
  refine CT2.of (by decide) rfl rfl (Nat.le_of_ble_eq_true rfl) ?_
  unfold f_X10_back at h
  show RR κ N 3 iX10_back 0 [(0, .ref (κ 0 + 0)), (1, .int i1)] [] μ _
  refine g_iload_n (pc := 0) dX10_back_0 rfl rfl ?_
  refine g_iconst (pc := 1) (v := (0 : Int32)) dX10_back_1 rfl ?_
  refine g_iconst (pc := 2) (v := (1 : Int32)) dX10_back_2 rfl ?_
  obtain ⟨p2, hp1, h⟩ := Option.bind_eq_some_iff.mp h
  refine r_callS (pc := 3) (c_X10_isOutside hN i1 (0 : Int32) (1 : Int32) μ hp1) yS_X10_isOutside pX10_isOutside mL_X10_83 dX10_back_3 (Nat.le_of_ble_eq_true rfl) (Nat.le_of_ble_eq_true rfl) rfl (rK_z (fun hz3 => ?_))
  refine g_if_eq (pc := 6) 12 dX10_back_6 (by decide) (fun hc4 => ?_) (fun hc4 => ?_)
  · rw [if_pos hc4] at h
    refine g_aload_n (pc := 12) dX10_back_12 rfl rfl ?_
    refine gf_X10_48 (pc := 13) rfl dX10_back_13 (Nat.lt_of_lt_of_le (by decide) hN) kd_0 ?_
    refine g_iload_n (pc := 16) dX10_back_16 rfl rfl ?_
    obtain ⟨hg5, h⟩ := gd_some h
    refine r_zald (pc := 17) 2 dX10_back_17 (Nat.lt_of_lt_of_le (by decide) hN) kd_96 ln_96 hg5 ?_
    refine g_if_ne (pc := 18) 24 dX10_back_18 (by decide) (fun hc6 => ?_) (fun hc6 => ?_)
    · rw [if_neg hc6] at h
      refine g_aload_n (pc := 24) dX10_back_24 rfl rfl ?_
      refine gf_X10_33 (pc := 25) rfl dX10_back_25 (Nat.lt_of_lt_of_le (by decide) hN) kd_0 ?_
      refine g_aload_n (pc := 28) dX10_back_28 rfl rfl ?_
      refine gf_X10_44 (pc := 29) rfl dX10_back_29 (Nat.lt_of_lt_of_le (by decide) hN) kd_0 ?_
      refine g_iload_n (pc := 32) dX10_back_32 rfl rfl ?_
      refine r_aald (pc := 33) 22 2 (81 + 1 + 7 * i1.toNatClampNeg) dX10_back_33 (Nat.lt_of_lt_of_le (by decide) hN) kd_81 (by decide) ln_81 hg5 rfl ?_
      obtain ⟨m8, hp7, h⟩ := Option.bind_eq_some_iff.mp h
      refine r_callV (ci := 5) (pc := 34) (c_X5_copy hN 16 (81 + 1 + 7 * i1.toNatClampNeg) kd_16 (kd_kept (inb_lt hg5)) p2.2 hp7) yV_X5_copy ⟨rfl, by decide⟩ pX5_copy mL_X10_218 dX10_back_34 (Nat.le_of_ble_eq_true rfl) (Nat.le_of_ble_eq_true rfl) (Nat.lt_of_lt_of_le (by decide) hN) kd_16 rfl (rK_v ?_)
      refine g_aload_n (pc := 37) dX10_back_37 rfl rfl ?_
      refine gf_X10_40 (pc := 38) rfl dX10_back_38 (Nat.lt_of_lt_of_le (by decide) hN) kd_0 ?_
      refine g_iconst (pc := 41) (v := (0 : Int32)) dX10_back_41 rfl ?_
      refine pf_X10_118 (pc := 42) rfl dX10_back_42 (Nat.lt_of_lt_of_le (by decide) hN) kd_23 (fun m9 e10 => ?_)
      rw [lt_of e10] at h
      refine g_aload_n (pc := 45) dX10_back_45 rfl rfl ?_
      refine gf_X10_33 (pc := 46) rfl dX10_back_46 (Nat.lt_of_lt_of_le (by decide) hN) kd_0 ?_
      refine gf_X10_205 (pc := 49) rfl dX10_back_49 (Nat.lt_of_lt_of_le (by decide) hN) kd_16 ?_
      cases h
      exact r_iret dX10_back_52 rfl rfl rfl
    · rw [if_pos hc6] at h
      refine g_bipush (pc := 21) (v := (-4 : Int32)) dX10_back_21 rfl ?_
      cases h
      exact r_iret dX10_back_23 rfl rfl rfl
  · rw [if_neg hc4] at h
    refine g_bipush (pc := 9) (v := (-2 : Int32)) dX10_back_9 rfl ?_
    cases h
    exact r_iret dX10_back_11 rfl rfl rfl

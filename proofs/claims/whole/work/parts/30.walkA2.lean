def f_X8_copy (a0 : Nat) (a1 : Nat) (μ : gMem) : Option (gMem) :=
  lt (st μ a0 0 (μ a1 0)) (fun m1 =>
  lt (st m1 a0 1 (m1 a1 1)) (fun m3 =>
  lt (st m3 a0 2 (m3 a1 2)) (fun m5 =>
  lt (st m5 a0 3 (m5 a1 3)) (fun m7 =>
  lt (st m7 a0 4 (m7 a1 4)) (fun m9 =>
  some m9)))))
set_option maxRecDepth 100000 in
set_option maxHeartbeats 4000000 in
theorem c_X8_copy {κ : Nat → Nat} {N : Nat} (hN : 140 ≤ N) (a0 : Nat) (a1 : Nat) (h0 : kd a0 = 8) (h1 : kd a1 = 8) (μ : gMem) {μ' : gMem} (h : f_X8_copy a0 a1 μ = some μ') : CT2 κ N 1 yX8_copy iX8_copy [.ref (κ 0 + a0), .ref (κ 0 + a1)] μ (qV μ') := by
  refine CT2.of (by decide) rfl rfl (Nat.le_of_ble_eq_true rfl) ?_
  unfold f_X8_copy at h
  show RR κ N 1 iX8_copy 0 [(0, .ref (κ 0 + a0)), (1, .ref (κ 0 + a1))] [] μ _
  refine g_aload_n (pc := 0) dX8_copy_0 rfl rfl ?_
  refine g_aload_n (pc := 1) dX8_copy_1 rfl rfl ?_
  refine gf_X8_9 (pc := 2) rfl dX8_copy_2 (Nat.lt_of_lt_of_le (kd_obj h1 (by decide)) hN) h1 ?_
  refine pf_X8_9 (pc := 5) rfl dX8_copy_5 (Nat.lt_of_lt_of_le (kd_obj h0 (by decide)) hN) h0 (fun m1 e2 => ?_)
  rw [lt_of e2] at h
  refine g_aload_n (pc := 8) dX8_copy_8 rfl rfl ?_
  refine g_aload_n (pc := 9) dX8_copy_9 rfl rfl ?_
  refine gf_X8_15 (pc := 10) rfl dX8_copy_10 (Nat.lt_of_lt_of_le (kd_obj h1 (by decide)) hN) h1 ?_
  refine pf_X8_15 (pc := 13) rfl dX8_copy_13 (Nat.lt_of_lt_of_le (kd_obj h0 (by decide)) hN) h0 (fun m3 e4 => ?_)
  rw [lt_of e4] at h
  refine g_aload_n (pc := 16) dX8_copy_16 rfl rfl ?_
  refine g_aload_n (pc := 17) dX8_copy_17 rfl rfl ?_
  refine gf_X8_18 (pc := 18) rfl dX8_copy_18 (Nat.lt_of_lt_of_le (kd_obj h1 (by decide)) hN) h1 ?_
  refine pf_X8_18 (pc := 21) rfl dX8_copy_21 (Nat.lt_of_lt_of_le (kd_obj h0 (by decide)) hN) h0 (fun m5 e6 => ?_)
  rw [lt_of e6] at h
  refine g_aload_n (pc := 24) dX8_copy_24 rfl rfl ?_
  refine g_aload_n (pc := 25) dX8_copy_25 rfl rfl ?_
  refine gf_X8_21 (pc := 26) rfl dX8_copy_26 (Nat.lt_of_lt_of_le (kd_obj h1 (by decide)) hN) h1 ?_
  refine pf_X8_21 (pc := 29) rfl dX8_copy_29 (Nat.lt_of_lt_of_le (kd_obj h0 (by decide)) hN) h0 (fun m7 e8 => ?_)
  rw [lt_of e8] at h
  refine g_aload_n (pc := 32) dX8_copy_32 rfl rfl ?_
  refine g_aload_n (pc := 33) dX8_copy_33 rfl rfl ?_
  refine gf_X8_24 (pc := 34) rfl dX8_copy_34 (Nat.lt_of_lt_of_le (kd_obj h1 (by decide)) hN) h1 ?_
  refine pf_X8_24 (pc := 37) rfl dX8_copy_37 (Nat.lt_of_lt_of_le (kd_obj h0 (by decide)) hN) h0 (fun m9 e10 => ?_)
  rw [lt_of e10] at h
  cases h
  exact r_vret dX8_copy_40 rfl rfl

def f_X8_sitDown (a0 : Nat) (μ : gMem) : Option (gMem) :=
  lt (st μ a0 0 (0 : Int32)) (fun m1 =>
  lt (st m1 a0 1 (0 : Int32)) (fun m3 =>
  lt (st m3 a0 2 (0 : Int32)) (fun m5 =>
  some m5)))
set_option maxRecDepth 100000 in
set_option maxHeartbeats 4000000 in
theorem c_X8_sitDown {κ : Nat → Nat} {N : Nat} (hN : 140 ≤ N) (a0 : Nat) (h0 : kd a0 = 8) (μ : gMem) {μ' : gMem} (h : f_X8_sitDown a0 μ = some μ') : CT2 κ N 1 yX8_sitDown iX8_sitDown [.ref (κ 0 + a0)] μ (qV μ') := by
  refine CT2.of (by decide) rfl rfl (Nat.le_of_ble_eq_true rfl) ?_
  unfold f_X8_sitDown at h
  show RR κ N 1 iX8_sitDown 0 [(0, .ref (κ 0 + a0))] [] μ _
  refine g_aload_n (pc := 0) dX8_sitDown_0 rfl rfl ?_
  refine g_iconst (pc := 1) (v := (0 : Int32)) dX8_sitDown_1 rfl ?_
  refine pf_X8_9 (pc := 2) rfl dX8_sitDown_2 (Nat.lt_of_lt_of_le (kd_obj h0 (by decide)) hN) h0 (fun m1 e2 => ?_)
  rw [lt_of e2] at h
  refine g_aload_n (pc := 5) dX8_sitDown_5 rfl rfl ?_
  refine g_iconst (pc := 6) (v := (0 : Int32)) dX8_sitDown_6 rfl ?_
  refine pf_X8_15 (pc := 7) rfl dX8_sitDown_7 (Nat.lt_of_lt_of_le (kd_obj h0 (by decide)) hN) h0 (fun m3 e4 => ?_)
  rw [lt_of e4] at h
  refine g_aload_n (pc := 10) dX8_sitDown_10 rfl rfl ?_
  refine g_iconst (pc := 11) (v := (0 : Int32)) dX8_sitDown_11 rfl ?_
  refine pf_X8_18 (pc := 12) rfl dX8_sitDown_12 (Nat.lt_of_lt_of_le (kd_obj h0 (by decide)) hN) h0 (fun m5 e6 => ?_)
  rw [lt_of e6] at h
  cases h
  exact r_vret dX8_sitDown_15 rfl rfl

def f_X8_draw (a0 : Nat) (a1 : Nat) (μ : gMem) : Option (gMem) :=
  lt (st μ a0 0 (1 : Int32)) (fun m1 =>
  (f_X6_walk a1 (m1 a0 3) m1).bind (fun p4 =>
  lt (st p4.2 a0 1 p4.1) (fun m5 =>
  lt (st m5 a0 2 (m5 a1 2)) (fun m7 =>
  some m7))))
set_option maxRecDepth 100000 in
set_option maxHeartbeats 4000000 in
theorem c_X8_draw {κ : Nat → Nat} {N : Nat} (hN : 140 ≤ N) (a0 : Nat) (a1 : Nat) (h0 : kd a0 = 8) (h1 : kd a1 = 6) (μ : gMem) {μ' : gMem} (h : f_X8_draw a0 a1 μ = some μ') : CT2 κ N 2 yX8_draw iX8_draw [.ref (κ 0 + a0), .ref (κ 0 + a1)] μ (qV μ') := by
  refine CT2.of (by decide) rfl rfl (Nat.le_of_ble_eq_true rfl) ?_
  unfold f_X8_draw at h
  show RR κ N 2 iX8_draw 0 [(0, .ref (κ 0 + a0)), (1, .ref (κ 0 + a1))] [] μ _
  refine g_aload_n (pc := 0) dX8_draw_0 rfl rfl ?_
  refine g_iconst (pc := 1) (v := (1 : Int32)) dX8_draw_1 rfl ?_
  refine pf_X8_9 (pc := 2) rfl dX8_draw_2 (Nat.lt_of_lt_of_le (kd_obj h0 (by decide)) hN) h0 (fun m1 e2 => ?_)
  rw [lt_of e2] at h
  refine g_aload_n (pc := 5) dX8_draw_5 rfl rfl ?_
  refine g_aload_n (pc := 6) dX8_draw_6 rfl rfl ?_
  refine g_aload_n (pc := 7) dX8_draw_7 rfl rfl ?_
  refine gf_X8_21 (pc := 8) rfl dX8_draw_8 (Nat.lt_of_lt_of_le (kd_obj h0 (by decide)) hN) h0 ?_
  obtain ⟨p4, hp3, h⟩ := Option.bind_eq_some_iff.mp h
  refine r_callV (ci := 6) (pc := 11) (c_X6_walk hN a1 (m1 a0 3) h1 m1 hp3) yV_X6_walk ⟨rfl, by decide⟩ pX6_walk mL_X8_30 dX8_draw_11 (Nat.le_of_ble_eq_true rfl) (Nat.le_of_ble_eq_true rfl) (Nat.lt_of_lt_of_le (kd_obj h1 (by decide)) hN) h1 rfl (rK_i ?_)
  refine pf_X8_15 (pc := 14) rfl dX8_draw_14 (Nat.lt_of_lt_of_le (kd_obj h0 (by decide)) hN) h0 (fun m5 e6 => ?_)
  rw [lt_of e6] at h
  refine g_aload_n (pc := 17) dX8_draw_17 rfl rfl ?_
  refine g_aload_n (pc := 18) dX8_draw_18 rfl rfl ?_
  refine gf_X8_36 (pc := 19) rfl dX8_draw_19 (Nat.lt_of_lt_of_le (kd_obj h1 (by decide)) hN) h1 ?_
  refine pf_X8_18 (pc := 22) rfl dX8_draw_22 (Nat.lt_of_lt_of_le (kd_obj h0 (by decide)) hN) h0 (fun m7 e8 => ?_)
  rw [lt_of e8] at h
  cases h
  exact r_vret dX8_draw_25 rfl rfl

def f_X8_pour (a0 : Nat) (a1 : Nat) (μ : gMem) : Option (Int32 × gMem) :=
  lt (μ a0 2) (fun x1 =>
  lt (st μ a0 0 (2 : Int32)) (fun m3 =>
  (f_X6_walkBack a1 (m3 a0 3) m3).bind (fun p6 =>
  lt (st p6.2 a0 1 p6.1) (fun m7 =>
  lt (st m7 a0 2 (0 : Int32)) (fun m9 =>
  some (x1, m9))))))
set_option maxRecDepth 100000 in
set_option maxHeartbeats 4000000 in
theorem c_X8_pour {κ : Nat → Nat} {N : Nat} (hN : 140 ≤ N) (a0 : Nat) (a1 : Nat) (h0 : kd a0 = 8) (h1 : kd a1 = 6) (μ : gMem) {r : Int32} {μ' : gMem} (h : f_X8_pour a0 a1 μ = some (r, μ')) : CT2 κ N 3 yX8_pour iX8_pour [.ref (κ 0 + a0), .ref (κ 0 + a1)] μ (qI r μ') := by
  refine CT2.of (by decide) rfl rfl (Nat.le_of_ble_eq_true rfl) ?_
  unfold f_X8_pour at h
  show RR κ N 3 iX8_pour 0 [(0, .ref (κ 0 + a0)), (1, .ref (κ 0 + a1))] [] μ _
  refine g_aload_n (pc := 0) dX8_pour_0 rfl rfl ?_
  refine gf_X8_18 (pc := 1) rfl dX8_pour_1 (Nat.lt_of_lt_of_le (kd_obj h0 (by decide)) hN) h0 ?_
  refine g_istore_n (pc := 4) (lv' := fun y => [(0, .ref (κ 0 + a0)), (1, .ref (κ 0 + a1)), (2, .int y)]) dX8_pour_4 rfl (Nat.le_of_ble_eq_true rfl) (fun _ => rfl) (fun x1 e2 => ?_)
  rw [lt_of e2] at h
  refine g_aload_n (pc := 5) dX8_pour_5 rfl rfl ?_
  refine g_iconst (pc := 6) (v := (2 : Int32)) dX8_pour_6 rfl ?_
  refine pf_X8_9 (pc := 7) rfl dX8_pour_7 (Nat.lt_of_lt_of_le (kd_obj h0 (by decide)) hN) h0 (fun m3 e4 => ?_)
  rw [lt_of e4] at h
  refine g_aload_n (pc := 10) dX8_pour_10 rfl rfl ?_
  refine g_aload_n (pc := 11) dX8_pour_11 rfl rfl ?_
  refine g_aload_n (pc := 12) dX8_pour_12 rfl rfl ?_
  refine gf_X8_21 (pc := 13) rfl dX8_pour_13 (Nat.lt_of_lt_of_le (kd_obj h0 (by decide)) hN) h0 ?_
  obtain ⟨p6, hp5, h⟩ := Option.bind_eq_some_iff.mp h
  refine r_callV (ci := 6) (pc := 16) (c_X6_walkBack hN a1 (m3 a0 3) h1 m3 hp5) yV_X6_walkBack ⟨rfl, by decide⟩ pX6_walkBack mL_X8_57 dX8_pour_16 (Nat.le_of_ble_eq_true rfl) (Nat.le_of_ble_eq_true rfl) (Nat.lt_of_lt_of_le (kd_obj h1 (by decide)) hN) h1 rfl (rK_i ?_)
  refine pf_X8_15 (pc := 19) rfl dX8_pour_19 (Nat.lt_of_lt_of_le (kd_obj h0 (by decide)) hN) h0 (fun m7 e8 => ?_)
  rw [lt_of e8] at h
  refine g_aload_n (pc := 22) dX8_pour_22 rfl rfl ?_
  refine g_iconst (pc := 23) (v := (0 : Int32)) dX8_pour_23 rfl ?_
  refine pf_X8_18 (pc := 24) rfl dX8_pour_24 (Nat.lt_of_lt_of_le (kd_obj h0 (by decide)) hN) h0 (fun m9 e10 => ?_)
  rw [lt_of e10] at h
  refine g_iload_n (pc := 27) dX8_pour_27 rfl rfl ?_
  cases h
  exact r_iret dX8_pour_28 rfl rfl rfl

def f_X9_numbers (j0 : Nat) (μ : gMem) : Option (Int32 × gMem) :=
  if (gDeed.getD j0 0) = (0 : Int32) then
  (some ((0 : Int32), μ))
else
  (if (gDeed.getD j0 0) = (1 : Int32) then
  (some ((2 : Int32), μ))
else
  (if (gDeed.getD j0 0) = (2 : Int32) then
  (some ((1 : Int32), μ))
else
  (if (gDeed.getD j0 0) = (3 : Int32) then
  (some ((1 : Int32), μ))
else
  (if (gDeed.getD j0 0) = (4 : Int32) then
  (some ((1 : Int32), μ))
else
  (if (gDeed.getD j0 0) = (5 : Int32) then
  (some ((2 : Int32), μ))
else
  (if (gDeed.getD j0 0) = (6 : Int32) then
  (some ((0 : Int32), μ))
else
  (some ((1 : Int32), μ))))))))
set_option maxRecDepth 100000 in
set_option maxHeartbeats 4000000 in
theorem c_X9_numbers {κ : Nat → Nat} {N : Nat} (hN : 140 ≤ N) (j0 : Nat) (hj0 : j0 < 12) (μ : gMem) {r : Int32} {μ' : gMem} (h : f_X9_numbers j0 μ = some (r, μ')) : CT2 κ N 1 yX9_numbers iX9_numbers [.ref (κ (40 + j0))] μ (qI r μ') := by
  refine CT2.of (by decide) rfl rfl (Nat.le_of_ble_eq_true rfl) ?_
  unfold f_X9_numbers at h
  show RR κ N 1 iX9_numbers 0 [(0, .ref (κ (40 + j0)))] [] μ _
  refine g_aload_n (pc := 0) dX9_numbers_0 rfl rfl ?_
  refine g_getO (pc := 1) dX9_numbers_1 (fun _ _ z => (z.2.2.2.1 _ hj0).2.2.1) wF_X9_65 ?_
  by_cases hc1 : (gDeed.getD j0 0) = (0 : Int32)
  · rw [if_pos hc1] at h
    refine g_tableIn (pc := 4) 48 dX9_numbers_4 (by rw [hc1]; decide) (by rw [hc1]; decide) (by rw [hc1]; rfl) (by decide) ?_
    refine g_iconst (pc := 48) (v := (0 : Int32)) dX9_numbers_48 rfl ?_
    cases h
    exact r_iret dX9_numbers_49 rfl rfl rfl
  · rw [if_neg hc1] at h
    by_cases hc2 : (gDeed.getD j0 0) = (1 : Int32)
    · rw [if_pos hc2] at h
      refine g_tableIn (pc := 4) 50 dX9_numbers_4 (by rw [hc2]; decide) (by rw [hc2]; decide) (by rw [hc2]; rfl) (by decide) ?_
      refine g_iconst (pc := 50) (v := (2 : Int32)) dX9_numbers_50 rfl ?_
      cases h
      exact r_iret dX9_numbers_51 rfl rfl rfl
    · rw [if_neg hc2] at h
      by_cases hc3 : (gDeed.getD j0 0) = (2 : Int32)
      · rw [if_pos hc3] at h
        refine g_tableIn (pc := 4) 52 dX9_numbers_4 (by rw [hc3]; decide) (by rw [hc3]; decide) (by rw [hc3]; rfl) (by decide) ?_
        refine g_iconst (pc := 52) (v := (1 : Int32)) dX9_numbers_52 rfl ?_
        cases h
        exact r_iret dX9_numbers_53 rfl rfl rfl
      · rw [if_neg hc3] at h
        by_cases hc4 : (gDeed.getD j0 0) = (3 : Int32)
        · rw [if_pos hc4] at h
          refine g_tableIn (pc := 4) 52 dX9_numbers_4 (by rw [hc4]; decide) (by rw [hc4]; decide) (by rw [hc4]; rfl) (by decide) ?_
          refine g_iconst (pc := 52) (v := (1 : Int32)) dX9_numbers_52 rfl ?_
          cases h
          exact r_iret dX9_numbers_53 rfl rfl rfl
        · rw [if_neg hc4] at h
          by_cases hc5 : (gDeed.getD j0 0) = (4 : Int32)
          · rw [if_pos hc5] at h
            refine g_tableIn (pc := 4) 52 dX9_numbers_4 (by rw [hc5]; decide) (by rw [hc5]; decide) (by rw [hc5]; rfl) (by decide) ?_
            refine g_iconst (pc := 52) (v := (1 : Int32)) dX9_numbers_52 rfl ?_
            cases h
            exact r_iret dX9_numbers_53 rfl rfl rfl
          · rw [if_neg hc5] at h
            by_cases hc6 : (gDeed.getD j0 0) = (5 : Int32)
            · rw [if_pos hc6] at h
              refine g_tableIn (pc := 4) 50 dX9_numbers_4 (by rw [hc6]; decide) (by rw [hc6]; decide) (by rw [hc6]; rfl) (by decide) ?_
              refine g_iconst (pc := 50) (v := (2 : Int32)) dX9_numbers_50 rfl ?_
              cases h
              exact r_iret dX9_numbers_51 rfl rfl rfl
            · rw [if_neg hc6] at h
              by_cases hc7 : (gDeed.getD j0 0) = (6 : Int32)
              · rw [if_pos hc7] at h
                refine g_tableIn (pc := 4) 48 dX9_numbers_4 (by rw [hc7]; decide) (by rw [hc7]; decide) (by rw [hc7]; rfl) (by decide) ?_
                refine g_iconst (pc := 48) (v := (0 : Int32)) dX9_numbers_48 rfl ?_
                cases h
                exact r_iret dX9_numbers_49 rfl rfl rfl
              · rw [if_neg hc7] at h
                refine g_tableOut (pc := 4) 52 dX9_numbers_4 (by have q0 := lv_neT hc1 (a := 0) (by decide); have q1 := lv_neT hc2 (a := 1) (by decide); have q2 := lv_neT hc3 (a := 2) (by decide); have q3 := lv_neT hc4 (a := 3) (by decide); have q4 := lv_neT hc5 (a := 4) (by decide); have q5 := lv_neT hc6 (a := 5) (by decide); have q6 := lv_neT hc7 (a := 6) (by decide); omega) (by decide) ?_
                refine g_iconst (pc := 52) (v := (1 : Int32)) dX9_numbers_52 rfl ?_
                cases h
                exact r_iret dX9_numbers_53 rfl rfl rfl

def f_X9_leastNumber (j0 : Nat) (i1 : Int32) (i2 : Int32) (μ : gMem) : Option (Int32 × gMem) :=
  if (gDeed.getD j0 0) = (1 : Int32) then
  (some ((1 : Int32), μ))
else
  (if (gDeed.getD j0 0) = (2 : Int32) then
  (some ((0 : Int32), μ))
else
  (if (gDeed.getD j0 0) = (3 : Int32) then
  (some ((1 : Int32), μ))
else
  (if (gDeed.getD j0 0) = (4 : Int32) then
  (some ((0 : Int32), μ))
else
  (if (gDeed.getD j0 0) = (5 : Int32) then
  (lt (if i1 = 0 then (0 : Int32) else i2) (fun x6 =>
  some (x6, μ)))
else
  (some ((0 : Int32), μ))))))
set_option maxRecDepth 100000 in
set_option maxHeartbeats 4000000 in
theorem c_X9_leastNumber {κ : Nat → Nat} {N : Nat} (hN : 140 ≤ N) (j0 : Nat) (i1 : Int32) (i2 : Int32) (hj0 : j0 < 12) (μ : gMem) {r : Int32} {μ' : gMem} (h : f_X9_leastNumber j0 i1 i2 μ = some (r, μ')) : CT2 κ N 1 yX9_leastNumber iX9_leastNumber [.ref (κ (40 + j0)), .int i1, .int i2] μ (qI r μ') := by
  refine CT2.of (by decide) rfl rfl (Nat.le_of_ble_eq_true rfl) ?_
  unfold f_X9_leastNumber at h
  show RR κ N 1 iX9_leastNumber 0 [(0, .ref (κ (40 + j0))), (1, .int i1), (2, .int i2)] [] μ _
  refine g_aload_n (pc := 0) dX9_leastNumber_0 rfl rfl ?_
  refine g_getO (pc := 1) dX9_leastNumber_1 (fun _ _ z => (z.2.2.2.1 _ hj0).2.2.1) wF_X9_65 ?_
  by_cases hc1 : (gDeed.getD j0 0) = (1 : Int32)
  · rw [if_pos hc1] at h
    refine g_tableIn (pc := 4) 40 dX9_leastNumber_4 (by rw [hc1]; decide) (by rw [hc1]; decide) (by rw [hc1]; rfl) (by decide) ?_
    refine g_iconst (pc := 40) (v := (1 : Int32)) dX9_leastNumber_40 rfl ?_
    cases h
    exact r_iret dX9_leastNumber_41 rfl rfl rfl
  · rw [if_neg hc1] at h
    by_cases hc2 : (gDeed.getD j0 0) = (2 : Int32)
    · rw [if_pos hc2] at h
      refine g_tableIn (pc := 4) 52 dX9_leastNumber_4 (by rw [hc2]; decide) (by rw [hc2]; decide) (by rw [hc2]; rfl) (by decide) ?_
      refine g_iconst (pc := 52) (v := (0 : Int32)) dX9_leastNumber_52 rfl ?_
      cases h
      exact r_iret dX9_leastNumber_53 rfl rfl rfl
    · rw [if_neg hc2] at h
      by_cases hc3 : (gDeed.getD j0 0) = (3 : Int32)
      · rw [if_pos hc3] at h
        refine g_tableIn (pc := 4) 40 dX9_leastNumber_4 (by rw [hc3]; decide) (by rw [hc3]; decide) (by rw [hc3]; rfl) (by decide) ?_
        refine g_iconst (pc := 40) (v := (1 : Int32)) dX9_leastNumber_40 rfl ?_
        cases h
        exact r_iret dX9_leastNumber_41 rfl rfl rfl
      · rw [if_neg hc3] at h
        by_cases hc4 : (gDeed.getD j0 0) = (4 : Int32)
        · rw [if_pos hc4] at h
          refine g_tableIn (pc := 4) 52 dX9_leastNumber_4 (by rw [hc4]; decide) (by rw [hc4]; decide) (by rw [hc4]; rfl) (by decide) ?_
          refine g_iconst (pc := 52) (v := (0 : Int32)) dX9_leastNumber_52 rfl ?_
          cases h
          exact r_iret dX9_leastNumber_53 rfl rfl rfl
        · rw [if_neg hc4] at h
          by_cases hc5 : (gDeed.getD j0 0) = (5 : Int32)
          · rw [if_pos hc5] at h
            refine g_tableIn (pc := 4) 42 dX9_leastNumber_4 (by rw [hc5]; decide) (by rw [hc5]; decide) (by rw [hc5]; rfl) (by decide) ?_
            refine g_iload_n (pc := 42) dX9_leastNumber_42 rfl rfl ?_
            have key8 : ∀ x6 : Int32, x6 = (if i1 = 0 then (0 : Int32) else i2) → RR κ N 1 iX9_leastNumber 51 [(0, .ref (κ (40 + j0))), (1, .int i1), (2, .int i2)] [.int x6] μ (qI r μ') := by
              intro x6 e7
              rw [lt_of e7] at h
              cases h
              exact r_iret dX9_leastNumber_51 rfl rfl rfl
            refine g_if_ne (pc := 43) 50 dX9_leastNumber_43 (by decide) (fun hc9 => ?_) (fun hc9 => ?_)
            · refine g_iload_n (pc := 50) dX9_leastNumber_50 rfl rfl ?_
              exact key8 _ (by rw [if_neg hc9])
            · refine g_iconst (pc := 46) (v := (0 : Int32)) dX9_leastNumber_46 rfl ?_
              refine g_goto (pc := 47) 51 dX9_leastNumber_47 (by decide) ?_
              exact key8 _ (by rw [if_pos hc9])
          · rw [if_neg hc5] at h
            refine g_tableOut (pc := 4) 52 dX9_leastNumber_4 (by have q0 := lv_neT hc1 (a := 1) (by decide); have q1 := lv_neT hc2 (a := 2) (by decide); have q2 := lv_neT hc3 (a := 3) (by decide); have q3 := lv_neT hc4 (a := 4) (by decide); have q4 := lv_neT hc5 (a := 5) (by decide); omega) (by decide) ?_
            refine g_iconst (pc := 52) (v := (0 : Int32)) dX9_leastNumber_52 rfl ?_
            cases h
            exact r_iret dX9_leastNumber_53 rfl rfl rfl

def f_X9_mostNumber (j0 : Nat) (i1 : Int32) (μ : gMem) : Option (Int32 × gMem) :=
  if (gDeed.getD j0 0) = (1 : Int32) then
  (lt (if i1 = 0 then (6 : Int32) else (40 : Int32)) (fun x6 =>
  some (x6, μ)))
else
  (if (gDeed.getD j0 0) = (2 : Int32) then
  (some ((9 : Int32), μ))
else
  (if (gDeed.getD j0 0) = (3 : Int32) then
  (some ((99 : Int32), μ))
else
  (if (gDeed.getD j0 0) = (4 : Int32) then
  (some ((9 : Int32), μ))
else
  (if (gDeed.getD j0 0) = (5 : Int32) then
  (some ((99 : Int32), μ))
else
  (some ((9 : Int32), μ))))))
set_option maxRecDepth 100000 in
set_option maxHeartbeats 4000000 in
theorem c_X9_mostNumber {κ : Nat → Nat} {N : Nat} (hN : 140 ≤ N) (j0 : Nat) (i1 : Int32) (hj0 : j0 < 12) (μ : gMem) {r : Int32} {μ' : gMem} (h : f_X9_mostNumber j0 i1 μ = some (r, μ')) : CT2 κ N 1 yX9_mostNumber iX9_mostNumber [.ref (κ (40 + j0)), .int i1] μ (qI r μ') := by
  refine CT2.of (by decide) rfl rfl (Nat.le_of_ble_eq_true rfl) ?_
  unfold f_X9_mostNumber at h
  show RR κ N 1 iX9_mostNumber 0 [(0, .ref (κ (40 + j0))), (1, .int i1)] [] μ _
  refine g_aload_n (pc := 0) dX9_mostNumber_0 rfl rfl ?_
  refine g_getO (pc := 1) dX9_mostNumber_1 (fun _ _ z => (z.2.2.2.1 _ hj0).2.2.1) wF_X9_65 ?_
  by_cases hc1 : (gDeed.getD j0 0) = (1 : Int32)
  · rw [if_pos hc1] at h
    refine g_tableIn (pc := 4) 40 dX9_mostNumber_4 (by rw [hc1]; decide) (by rw [hc1]; decide) (by rw [hc1]; rfl) (by decide) ?_
    refine g_iload_n (pc := 40) dX9_mostNumber_40 rfl rfl ?_
    have key8 : ∀ x6 : Int32, x6 = (if i1 = 0 then (6 : Int32) else (40 : Int32)) → RR κ N 1 iX9_mostNumber 51 [(0, .ref (κ (40 + j0))), (1, .int i1)] [.int x6] μ (qI r μ') := by
      intro x6 e7
      rw [lt_of e7] at h
      cases h
      exact r_iret dX9_mostNumber_51 rfl rfl rfl
    refine g_if_ne (pc := 41) 49 dX9_mostNumber_41 (by decide) (fun hc9 => ?_) (fun hc9 => ?_)
    · refine g_bipush (pc := 49) (v := (40 : Int32)) dX9_mostNumber_49 rfl ?_
      exact key8 _ (by rw [if_neg hc9])
    · refine g_bipush (pc := 44) (v := (6 : Int32)) dX9_mostNumber_44 rfl ?_
      refine g_goto (pc := 46) 51 dX9_mostNumber_46 (by decide) ?_
      exact key8 _ (by rw [if_pos hc9])
  · rw [if_neg hc1] at h
    by_cases hc2 : (gDeed.getD j0 0) = (2 : Int32)
    · rw [if_pos hc2] at h
      refine g_tableIn (pc := 4) 55 dX9_mostNumber_4 (by rw [hc2]; decide) (by rw [hc2]; decide) (by rw [hc2]; rfl) (by decide) ?_
      refine g_bipush (pc := 55) (v := (9 : Int32)) dX9_mostNumber_55 rfl ?_
      cases h
      exact r_iret dX9_mostNumber_57 rfl rfl rfl
    · rw [if_neg hc2] at h
      by_cases hc3 : (gDeed.getD j0 0) = (3 : Int32)
      · rw [if_pos hc3] at h
        refine g_tableIn (pc := 4) 52 dX9_mostNumber_4 (by rw [hc3]; decide) (by rw [hc3]; decide) (by rw [hc3]; rfl) (by decide) ?_
        refine g_bipush (pc := 52) (v := (99 : Int32)) dX9_mostNumber_52 rfl ?_
        cases h
        exact r_iret dX9_mostNumber_54 rfl rfl rfl
      · rw [if_neg hc3] at h
        by_cases hc4 : (gDeed.getD j0 0) = (4 : Int32)
        · rw [if_pos hc4] at h
          refine g_tableIn (pc := 4) 55 dX9_mostNumber_4 (by rw [hc4]; decide) (by rw [hc4]; decide) (by rw [hc4]; rfl) (by decide) ?_
          refine g_bipush (pc := 55) (v := (9 : Int32)) dX9_mostNumber_55 rfl ?_
          cases h
          exact r_iret dX9_mostNumber_57 rfl rfl rfl
        · rw [if_neg hc4] at h
          by_cases hc5 : (gDeed.getD j0 0) = (5 : Int32)
          · rw [if_pos hc5] at h
            refine g_tableIn (pc := 4) 52 dX9_mostNumber_4 (by rw [hc5]; decide) (by rw [hc5]; decide) (by rw [hc5]; rfl) (by decide) ?_
            refine g_bipush (pc := 52) (v := (99 : Int32)) dX9_mostNumber_52 rfl ?_
            cases h
            exact r_iret dX9_mostNumber_54 rfl rfl rfl
          · rw [if_neg hc5] at h
            refine g_tableOut (pc := 4) 55 dX9_mostNumber_4 (by have q0 := lv_neT hc1 (a := 1) (by decide); have q1 := lv_neT hc2 (a := 2) (by decide); have q2 := lv_neT hc3 (a := 3) (by decide); have q3 := lv_neT hc4 (a := 4) (by decide); have q4 := lv_neT hc5 (a := 5) (by decide); omega) (by decide) ?_
            refine g_bipush (pc := 55) (v := (9 : Int32)) dX9_mostNumber_55 rfl ?_
            cases h
            exact r_iret dX9_mostNumber_57 rfl rfl rfl

def f_X10_erase  (μ : gMem) : Option (Int32 × gMem) :=
  lt (μ 8 1) (fun x1 =>
  lt (st μ 8 1 (0 : Int32)) (fun m3 =>
  some (x1, m3)))
set_option maxRecDepth 100000 in
set_option maxHeartbeats 4000000 in
theorem c_X10_erase {κ : Nat → Nat} {N : Nat} (hN : 140 ≤ N)   (μ : gMem) {r : Int32} {μ' : gMem} (h : f_X10_erase  μ = some (r, μ')) : CT2 κ N 1 yX10_erase iX10_erase [.ref (κ 0 + 0)] μ (qI r μ') := by
  refine CT2.of (by decide) rfl rfl (Nat.le_of_ble_eq_true rfl) ?_
  unfold f_X10_erase at h
  show RR κ N 1 iX10_erase 0 [(0, .ref (κ 0 + 0))] [] μ _
  refine g_aload_n (pc := 0) dX10_erase_0 rfl rfl ?_
  refine gf_X10_19 (pc := 1) rfl dX10_erase_1 (Nat.lt_of_lt_of_le (by decide) hN) kd_0 ?_
  refine gf_X10_91 (pc := 4) rfl dX10_erase_4 (Nat.lt_of_lt_of_le (by decide) hN) kd_8 ?_
  refine g_istore_n (pc := 7) (lv' := fun y => [(0, .ref (κ 0 + 0)), (1, .int y)]) dX10_erase_7 rfl (Nat.le_of_ble_eq_true rfl) (fun _ => rfl) (fun x1 e2 => ?_)
  rw [lt_of e2] at h
  refine g_aload_n (pc := 8) dX10_erase_8 rfl rfl ?_
  refine gf_X10_19 (pc := 9) rfl dX10_erase_9 (Nat.lt_of_lt_of_le (by decide) hN) kd_0 ?_
  refine g_iconst (pc := 12) (v := (0 : Int32)) dX10_erase_12 rfl ?_
  refine pf_X10_91 (pc := 13) rfl dX10_erase_13 (Nat.lt_of_lt_of_le (by decide) hN) kd_8 (fun m3 e4 => ?_)
  rw [lt_of e4] at h
  refine g_iload_n (pc := 16) dX10_erase_16 rfl rfl ?_
  cases h
  exact r_iret dX10_erase_17 rfl rfl rfl

def f_X10_forget  (μ : gMem) : Option (Int32 × gMem) :=
  lt (μ 0 11) (fun x1 =>
  lt (st μ 0 11 (0 : Int32)) (fun m3 =>
  some (x1, m3)))
set_option maxRecDepth 100000 in
set_option maxHeartbeats 4000000 in
theorem c_X10_forget {κ : Nat → Nat} {N : Nat} (hN : 140 ≤ N)   (μ : gMem) {r : Int32} {μ' : gMem} (h : f_X10_forget  μ = some (r, μ')) : CT2 κ N 1 yX10_forget iX10_forget [.ref (κ 0 + 0)] μ (qI r μ') := by
  refine CT2.of (by decide) rfl rfl (Nat.le_of_ble_eq_true rfl) ?_
  unfold f_X10_forget at h
  show RR κ N 1 iX10_forget 0 [(0, .ref (κ 0 + 0))] [] μ _
  refine g_aload_n (pc := 0) dX10_forget_0 rfl rfl ?_
  refine gf_X10_121 (pc := 1) rfl dX10_forget_1 (Nat.lt_of_lt_of_le (by decide) hN) kd_0 ?_
  refine g_istore_n (pc := 4) (lv' := fun y => [(0, .ref (κ 0 + 0)), (1, .int y)]) dX10_forget_4 rfl (Nat.le_of_ble_eq_true rfl) (fun _ => rfl) (fun x1 e2 => ?_)
  rw [lt_of e2] at h
  refine g_aload_n (pc := 5) dX10_forget_5 rfl rfl ?_
  refine g_iconst (pc := 6) (v := (0 : Int32)) dX10_forget_6 rfl ?_
  refine pf_X10_121 (pc := 7) rfl dX10_forget_7 (Nat.lt_of_lt_of_le (by decide) hN) kd_0 (fun m3 e4 => ?_)
  rw [lt_of e4] at h
  refine g_iload_n (pc := 10) dX10_forget_10 rfl rfl ?_
  cases h
  exact r_iret dX10_forget_11 rfl rfl rfl

def f_X10_count (i1 : Int32) (μ : gMem) : Option (Int32 × gMem) :=
  if i1 = (0 : Int32) then
  (some ((μ 1 1), μ))
else
  (if i1 = (1 : Int32) then
  (some ((μ 16 0), μ))
else
  (if i1 = (2 : Int32) then
  (some ((μ 16 1), μ))
else
  (if i1 = (3 : Int32) then
  (some ((μ 1 4), μ))
else
  (if i1 = (4 : Int32) then
  (some ((μ 16 2), μ))
else
  (if i1 = (5 : Int32) then
  (some ((μ 16 3), μ))
else
  (if i1 = (6 : Int32) then
  ((f_X5_workers 16 μ).bind (fun p13 =>
  some (p13.1, p13.2)))
else
  (if i1 = (7 : Int32) then
  (some ((μ 16 4), μ))
else
  (if i1 = (8 : Int32) then
  (some ((μ 0 11), μ))
else
  (if i1 = (9 : Int32) then
  (some ((μ 23 2), μ))
else
  (if i1 = (10 : Int32) then
  (some ((μ 8 1), μ))
else
  (some ((-3 : Int32), μ))))))))))))
set_option maxRecDepth 100000 in
set_option maxHeartbeats 4000000 in
theorem c_X10_count {κ : Nat → Nat} {N : Nat} (hN : 140 ≤ N) (i1 : Int32)  (μ : gMem) {r : Int32} {μ' : gMem} (h : f_X10_count i1 μ = some (r, μ')) : CT2 κ N 2 yX10_count iX10_count [.ref (κ 0 + 0), .int i1] μ (qI r μ') := by
  refine CT2.of (by decide) rfl rfl (Nat.le_of_ble_eq_true rfl) ?_
  unfold f_X10_count at h
  show RR κ N 2 iX10_count 0 [(0, .ref (κ 0 + 0)), (1, .int i1)] [] μ _
  refine g_iload_n (pc := 0) dX10_count_0 rfl rfl ?_
  by_cases hc1 : i1 = (0 : Int32)
  · rw [if_pos hc1] at h
    refine g_tableIn (pc := 1) 60 dX10_count_1 (by rw [hc1]; decide) (by rw [hc1]; decide) (by rw [hc1]; rfl) (by decide) ?_
    refine g_aload_n (pc := 60) dX10_count_60 rfl rfl ?_
    refine gf_X10_10 (pc := 61) rfl dX10_count_61 (Nat.lt_of_lt_of_le (by decide) hN) kd_0 ?_
    refine gf_X10_94 (pc := 64) rfl dX10_count_64 (Nat.lt_of_lt_of_le (by decide) hN) kd_1 ?_
    cases h
    exact r_iret dX10_count_67 rfl rfl rfl
  · rw [if_neg hc1] at h
    by_cases hc2 : i1 = (1 : Int32)
    · rw [if_pos hc2] at h
      refine g_tableIn (pc := 1) 68 dX10_count_1 (by rw [hc2]; decide) (by rw [hc2]; decide) (by rw [hc2]; rfl) (by decide) ?_
      refine g_aload_n (pc := 68) dX10_count_68 rfl rfl ?_
      refine gf_X10_33 (pc := 69) rfl dX10_count_69 (Nat.lt_of_lt_of_le (by decide) hN) kd_0 ?_
      refine gf_X10_205 (pc := 72) rfl dX10_count_72 (Nat.lt_of_lt_of_le (by decide) hN) kd_16 ?_
      cases h
      exact r_iret dX10_count_75 rfl rfl rfl
    · rw [if_neg hc2] at h
      by_cases hc3 : i1 = (2 : Int32)
      · rw [if_pos hc3] at h
        refine g_tableIn (pc := 1) 76 dX10_count_1 (by rw [hc3]; decide) (by rw [hc3]; decide) (by rw [hc3]; rfl) (by decide) ?_
        refine g_aload_n (pc := 76) dX10_count_76 rfl rfl ?_
        refine gf_X10_33 (pc := 77) rfl dX10_count_77 (Nat.lt_of_lt_of_le (by decide) hN) kd_0 ?_
        refine gf_X10_211 (pc := 80) rfl dX10_count_80 (Nat.lt_of_lt_of_le (by decide) hN) kd_16 ?_
        cases h
        exact r_iret dX10_count_83 rfl rfl rfl
      · rw [if_neg hc3] at h
        by_cases hc4 : i1 = (3 : Int32)
        · rw [if_pos hc4] at h
          refine g_tableIn (pc := 1) 84 dX10_count_1 (by rw [hc4]; decide) (by rw [hc4]; decide) (by rw [hc4]; rfl) (by decide) ?_
          refine g_aload_n (pc := 84) dX10_count_84 rfl rfl ?_
          refine gf_X10_10 (pc := 85) rfl dX10_count_85 (Nat.lt_of_lt_of_le (by decide) hN) kd_0 ?_
          refine gf_X10_280 (pc := 88) rfl dX10_count_88 (Nat.lt_of_lt_of_le (by decide) hN) kd_1 ?_
          cases h
          exact r_iret dX10_count_91 rfl rfl rfl
        · rw [if_neg hc4] at h
          by_cases hc5 : i1 = (4 : Int32)
          · rw [if_pos hc5] at h
            refine g_tableIn (pc := 1) 92 dX10_count_1 (by rw [hc5]; decide) (by rw [hc5]; decide) (by rw [hc5]; rfl) (by decide) ?_
            refine g_aload_n (pc := 92) dX10_count_92 rfl rfl ?_
            refine gf_X10_33 (pc := 93) rfl dX10_count_93 (Nat.lt_of_lt_of_le (by decide) hN) kd_0 ?_
            refine gf_X10_198 (pc := 96) rfl dX10_count_96 (Nat.lt_of_lt_of_le (by decide) hN) kd_16 ?_
            cases h
            exact r_iret dX10_count_99 rfl rfl rfl
          · rw [if_neg hc5] at h
            by_cases hc6 : i1 = (5 : Int32)
            · rw [if_pos hc6] at h
              refine g_tableIn (pc := 1) 100 dX10_count_1 (by rw [hc6]; decide) (by rw [hc6]; decide) (by rw [hc6]; rfl) (by decide) ?_
              refine g_aload_n (pc := 100) dX10_count_100 rfl rfl ?_
              refine gf_X10_33 (pc := 101) rfl dX10_count_101 (Nat.lt_of_lt_of_le (by decide) hN) kd_0 ?_
              refine gf_X10_283 (pc := 104) rfl dX10_count_104 (Nat.lt_of_lt_of_le (by decide) hN) kd_16 ?_
              cases h
              exact r_iret dX10_count_107 rfl rfl rfl
            · rw [if_neg hc6] at h
              by_cases hc7 : i1 = (6 : Int32)
              · rw [if_pos hc7] at h
                refine g_tableIn (pc := 1) 108 dX10_count_1 (by rw [hc7]; decide) (by rw [hc7]; decide) (by rw [hc7]; rfl) (by decide) ?_
                refine g_aload_n (pc := 108) dX10_count_108 rfl rfl ?_
                refine gf_X10_33 (pc := 109) rfl dX10_count_109 (Nat.lt_of_lt_of_le (by decide) hN) kd_0 ?_
                obtain ⟨p13, hp12, h⟩ := Option.bind_eq_some_iff.mp h
                refine r_callV (ci := 5) (pc := 112) (c_X5_workers hN 16 kd_16 μ hp12) yV_X5_workers ⟨rfl, by decide⟩ pX5_workers mL_X10_245 dX10_count_112 (Nat.le_of_ble_eq_true rfl) (Nat.le_of_ble_eq_true rfl) (Nat.lt_of_lt_of_le (by decide) hN) kd_16 rfl (rK_i ?_)
                cases h
                exact r_iret dX10_count_115 rfl rfl rfl
              · rw [if_neg hc7] at h
                by_cases hc8 : i1 = (7 : Int32)
                · rw [if_pos hc8] at h
                  refine g_tableIn (pc := 1) 116 dX10_count_1 (by rw [hc8]; decide) (by rw [hc8]; decide) (by rw [hc8]; rfl) (by decide) ?_
                  refine g_aload_n (pc := 116) dX10_count_116 rfl rfl ?_
                  refine gf_X10_33 (pc := 117) rfl dX10_count_117 (Nat.lt_of_lt_of_le (by decide) hN) kd_0 ?_
                  refine gf_X10_286 (pc := 120) rfl dX10_count_120 (Nat.lt_of_lt_of_le (by decide) hN) kd_16 ?_
                  cases h
                  exact r_iret dX10_count_123 rfl rfl rfl
                · rw [if_neg hc8] at h
                  by_cases hc9 : i1 = (8 : Int32)
                  · rw [if_pos hc9] at h
                    refine g_tableIn (pc := 1) 124 dX10_count_1 (by rw [hc9]; decide) (by rw [hc9]; decide) (by rw [hc9]; rfl) (by decide) ?_
                    refine g_aload_n (pc := 124) dX10_count_124 rfl rfl ?_
                    refine gf_X10_121 (pc := 125) rfl dX10_count_125 (Nat.lt_of_lt_of_le (by decide) hN) kd_0 ?_
                    cases h
                    exact r_iret dX10_count_128 rfl rfl rfl
                  · rw [if_neg hc9] at h
                    by_cases hc10 : i1 = (9 : Int32)
                    · rw [if_pos hc10] at h
                      refine g_tableIn (pc := 1) 129 dX10_count_1 (by rw [hc10]; decide) (by rw [hc10]; decide) (by rw [hc10]; rfl) (by decide) ?_
                      refine g_aload_n (pc := 129) dX10_count_129 rfl rfl ?_
                      refine gf_X10_40 (pc := 130) rfl dX10_count_130 (Nat.lt_of_lt_of_le (by decide) hN) kd_0 ?_
                      refine gf_X10_118 (pc := 133) rfl dX10_count_133 (Nat.lt_of_lt_of_le (by decide) hN) kd_23 ?_
                      cases h
                      exact r_iret dX10_count_136 rfl rfl rfl
                    · rw [if_neg hc10] at h
                      by_cases hc11 : i1 = (10 : Int32)
                      · rw [if_pos hc11] at h
                        refine g_tableIn (pc := 1) 137 dX10_count_1 (by rw [hc11]; decide) (by rw [hc11]; decide) (by rw [hc11]; rfl) (by decide) ?_
                        refine g_aload_n (pc := 137) dX10_count_137 rfl rfl ?_
                        refine gf_X10_19 (pc := 138) rfl dX10_count_138 (Nat.lt_of_lt_of_le (by decide) hN) kd_0 ?_
                        refine gf_X10_91 (pc := 141) rfl dX10_count_141 (Nat.lt_of_lt_of_le (by decide) hN) kd_8 ?_
                        cases h
                        exact r_iret dX10_count_144 rfl rfl rfl
                      · rw [if_neg hc11] at h
                        refine g_tableOut (pc := 1) 145 dX10_count_1 (by have q0 := lv_neT hc1 (a := 0) (by decide); have q1 := lv_neT hc2 (a := 1) (by decide); have q2 := lv_neT hc3 (a := 2) (by decide); have q3 := lv_neT hc4 (a := 3) (by decide); have q4 := lv_neT hc5 (a := 4) (by decide); have q5 := lv_neT hc6 (a := 5) (by decide); have q6 := lv_neT hc7 (a := 6) (by decide); have q7 := lv_neT hc8 (a := 7) (by decide); have q8 := lv_neT hc9 (a := 8) (by decide); have q9 := lv_neT hc10 (a := 9) (by decide); have q10 := lv_neT hc11 (a := 10) (by decide); omega) (by decide) ?_
                        refine g_bipush (pc := 145) (v := (-3 : Int32)) dX10_count_145 rfl ?_
                        cases h
                        exact r_iret dX10_count_147 rfl rfl rfl

def f_X10_isUnknown (i1 : Int32) (μ : gMem) : Option (Int32 × gMem) :=
  if i1 < 0 then
  (some ((1 : Int32), μ))
else
  (lt (if i1 < (μ 1 1) then (0 : Int32) else (1 : Int32)) (fun x2 =>
  some (x2, μ)))
set_option maxRecDepth 100000 in
set_option maxHeartbeats 4000000 in
theorem c_X10_isUnknown {κ : Nat → Nat} {N : Nat} (hN : 140 ≤ N) (i1 : Int32)  (μ : gMem) {r : Int32} {μ' : gMem} (h : f_X10_isUnknown i1 μ = some (r, μ')) : CT2 κ N 1 yX10_isUnknown iX10_isUnknown [.ref (κ 0 + 0), .int i1] μ (qZ r μ') := by
  refine CT2.of (by decide) rfl rfl (Nat.le_of_ble_eq_true rfl) ?_
  unfold f_X10_isUnknown at h
  show RR κ N 1 iX10_isUnknown 0 [(0, .ref (κ 0 + 0)), (1, .int i1)] [] μ _
  refine g_iload_n (pc := 0) dX10_isUnknown_0 rfl rfl ?_
  refine g_if_lt (pc := 1) 15 dX10_isUnknown_1 (by decide) (fun hc1 => ?_) (fun hc1 => ?_)
  · rw [if_pos hc1] at h
    refine g_iconst (pc := 15) (v := (1 : Int32)) dX10_isUnknown_15 rfl ?_
    refine g_goto (pc := 16) 20 dX10_isUnknown_16 (by decide) ?_
    cases h
    exact r_zret dX10_isUnknown_20 rfl rfl rfl rfl
  · rw [if_neg hc1] at h
    refine g_iload_n (pc := 4) dX10_isUnknown_4 rfl rfl ?_
    refine g_aload_n (pc := 5) dX10_isUnknown_5 rfl rfl ?_
    refine gf_X10_10 (pc := 6) rfl dX10_isUnknown_6 (Nat.lt_of_lt_of_le (by decide) hN) kd_0 ?_
    refine gf_X10_94 (pc := 9) rfl dX10_isUnknown_9 (Nat.lt_of_lt_of_le (by decide) hN) kd_1 ?_
    have key4 : ∀ x2 : Int32, x2 = (if i1 < (μ 1 1) then (0 : Int32) else (1 : Int32)) → RR κ N 1 iX10_isUnknown 20 [(0, .ref (κ 0 + 0)), (1, .int i1)] [.int x2] μ (qZ r μ') := by
      intro x2 e3
      rw [lt_of e3] at h
      cases h
      exact r_zret dX10_isUnknown_20 rfl (nz_if' e3) rfl rfl
    refine g_icmp_lt (pc := 12) 19 dX10_isUnknown_12 (by decide) (fun hc5 => ?_) (fun hc5 => ?_)
    · refine g_iconst (pc := 19) (v := (0 : Int32)) dX10_isUnknown_19 rfl ?_
      exact key4 _ (by rw [if_pos hc5])
    · refine g_iconst (pc := 15) (v := (1 : Int32)) dX10_isUnknown_15 rfl ?_
      refine g_goto (pc := 16) 20 dX10_isUnknown_16 (by decide) ?_
      exact key4 _ (by rw [if_neg hc5])

def f_X10_isOutside (i0 : Int32) (i1 : Int32) (i2 : Int32) (μ : gMem) : Option (Int32 × gMem) :=
  if i0 < i1 then
  (some ((1 : Int32), μ))
else
  (lt (if i0 ≤ i2 then (0 : Int32) else (1 : Int32)) (fun x2 =>
  some (x2, μ)))
set_option maxRecDepth 100000 in
set_option maxHeartbeats 4000000 in
theorem c_X10_isOutside {κ : Nat → Nat} {N : Nat} (hN : 140 ≤ N) (i0 : Int32) (i1 : Int32) (i2 : Int32)  (μ : gMem) {r : Int32} {μ' : gMem} (h : f_X10_isOutside i0 i1 i2 μ = some (r, μ')) : CT2 κ N 1 yX10_isOutside iX10_isOutside [.int i0, .int i1, .int i2] μ (qZ r μ') := by
  refine CT2.of (by decide) rfl rfl (Nat.le_of_ble_eq_true rfl) ?_
  unfold f_X10_isOutside at h
  show RR κ N 1 iX10_isOutside 0 [(0, .int i0), (1, .int i1), (2, .int i2)] [] μ _
  refine g_iload_n (pc := 0) dX10_isOutside_0 rfl rfl ?_
  refine g_iload_n (pc := 1) dX10_isOutside_1 rfl rfl ?_
  refine g_icmp_lt (pc := 2) 10 dX10_isOutside_2 (by decide) (fun hc1 => ?_) (fun hc1 => ?_)
  · rw [if_pos hc1] at h
    refine g_iconst (pc := 10) (v := (1 : Int32)) dX10_isOutside_10 rfl ?_
    refine g_goto (pc := 11) 15 dX10_isOutside_11 (by decide) ?_
    cases h
    exact r_zret dX10_isOutside_15 rfl rfl rfl rfl
  · rw [if_neg hc1] at h
    refine g_iload_n (pc := 5) dX10_isOutside_5 rfl rfl ?_
    refine g_iload_n (pc := 6) dX10_isOutside_6 rfl rfl ?_
    have key4 : ∀ x2 : Int32, x2 = (if i0 ≤ i2 then (0 : Int32) else (1 : Int32)) → RR κ N 1 iX10_isOutside 15 [(0, .int i0), (1, .int i1), (2, .int i2)] [.int x2] μ (qZ r μ') := by
      intro x2 e3
      rw [lt_of e3] at h
      cases h
      exact r_zret dX10_isOutside_15 rfl (nz_if' e3) rfl rfl
    refine g_icmp_le (pc := 7) 14 dX10_isOutside_7 (by decide) (fun hc5 => ?_) (fun hc5 => ?_)
    · refine g_iconst (pc := 14) (v := (0 : Int32)) dX10_isOutside_14 rfl ?_
      exact key4 _ (by rw [if_pos hc5])
    · refine g_iconst (pc := 10) (v := (1 : Int32)) dX10_isOutside_10 rfl ?_
      refine g_goto (pc := 11) 15 dX10_isOutside_11 (by decide) ?_
      exact key4 _ (by rw [if_neg hc5])

def l_X10_isSuch_S_5 (i1 : Int32) (i2 : Int32) : Nat → Int32 → Int32 → gMem → Option (Int32 × gMem)
  | 0, _, _, _ => none
  | n + 1, i3, i4, μ =>
  if (Int32.ofNat 4) ≤ i4 then
  (some ((0 : Int32), μ))
else
  (if i3 = i2 then
  (some ((1 : Int32), μ))
else
  (if i3 < 0 then
  (some ((0 : Int32), μ))
else
  (if i3 < (Int32.ofNat 4) then
  (if inb i3 4 = true then
  lt (gAbS.getD i3.toNatClampNeg 0) (fun x10 =>
  lt (i4 + Int32.ofInt 1) (fun x12 =>
  l_X10_isSuch_S_5 i1 i2 n x10 x12 μ)) else none)
else
  (some ((0 : Int32), μ)))))
def f_X10_isSuch_S (i1 : Int32) (i2 : Int32) (μ : gMem) : Option (Int32 × gMem) :=
  l_X10_isSuch_S_5 i1 i2 gF i1 (0 : Int32) μ
set_option maxRecDepth 100000 in
set_option maxHeartbeats 4000000 in
theorem cl_X10_isSuch_S_5 {κ : Nat → Nat} {N : Nat} {r : Int32} {μ' : gMem} (hN : 140 ≤ N) (i1 : Int32) (i2 : Int32)  : ∀ (n : Nat) (i3 : Int32) (i4 : Int32) (μ : gMem), l_X10_isSuch_S_5 i1 i2 n i3 i4 μ = some (r, μ') → RR κ N 1 iX10_isSuch 5 [(0, .ref (κ 60)), (1, .int i1), (2, .int i2), (3, .int i3), (4, .int i4)] [] μ (qZ r μ') := by
  intro n
  induction n with
  | zero =>
    intro i3 i4 μ h
    unfold l_X10_isSuch_S_5 at h
    cases h
  | succ n ih =>
    intro i3 i4 μ h
    unfold l_X10_isSuch_S_5 at h
    refine g_iload (pc := 5) dX10_isSuch_5 rfl ?_
    refine g_aload_n (pc := 7) dX10_isSuch_7 rfl rfl ?_
    refine g_tlen (pc := 8) dX10_isSuch_8 (fun _ _ h => h.1.2) ?_
    refine g_icmp_ge (pc := 9) 41 dX10_isSuch_9 (by decide) (fun hc5 => ?_) (fun hc5 => ?_)
    · rw [if_pos hc5] at h
      refine g_iconst (pc := 41) (v := (0 : Int32)) dX10_isSuch_41 rfl ?_
      cases h
      exact r_zret dX10_isSuch_42 rfl rfl rfl rfl
    · rw [if_neg hc5] at h
      refine g_iload_n (pc := 12) dX10_isSuch_12 rfl rfl ?_
      refine g_iload_n (pc := 13) dX10_isSuch_13 rfl rfl ?_
      refine g_icmp_ne (pc := 14) 19 dX10_isSuch_14 (by decide) (fun hc6 => ?_) (fun hc6 => ?_)
      · rw [if_neg hc6] at h
        refine g_iload_n (pc := 19) dX10_isSuch_19 rfl rfl ?_
        refine g_if_lt (pc := 20) 29 dX10_isSuch_20 (by decide) (fun hc7 => ?_) (fun hc7 => ?_)
        · rw [if_pos hc7] at h
          refine g_iconst (pc := 29) (v := (0 : Int32)) dX10_isSuch_29 rfl ?_
          cases h
          exact r_zret dX10_isSuch_30 rfl rfl rfl rfl
        · rw [if_neg hc7] at h
          refine g_iload_n (pc := 23) dX10_isSuch_23 rfl rfl ?_
          refine g_aload_n (pc := 24) dX10_isSuch_24 rfl rfl ?_
          refine g_tlen (pc := 25) dX10_isSuch_25 (fun _ _ h => h.1.2) ?_
          refine g_icmp_lt (pc := 26) 31 dX10_isSuch_26 (by decide) (fun hc8 => ?_) (fun hc8 => ?_)
          · rw [if_pos hc8] at h
            refine g_aload_n (pc := 31) dX10_isSuch_31 rfl rfl ?_
            refine g_iload_n (pc := 32) dX10_isSuch_32 rfl rfl ?_
            obtain ⟨hg9, h⟩ := gd_some h
            refine g_tald (pc := 33) dX10_isSuch_33 (fun _ _ h => h.1.2) (inb_in hg9) rfl ?_
            refine g_istore_n (pc := 34) (lv' := fun y => [(0, .ref (κ 60)), (1, .int i1), (2, .int i2), (3, .int y), (4, .int i4)]) dX10_isSuch_34 rfl (Nat.le_of_ble_eq_true rfl) (fun _ => rfl) (fun x10 e11 => ?_)
            rw [lt_of e11] at h
            refine g_iinc (pc := 35) (lv' := fun y => [(0, .ref (κ 60)), (1, .int i1), (2, .int i2), (3, .int x10), (4, .int y)]) dX10_isSuch_35 rfl (Nat.le_of_ble_eq_true rfl) (fun _ => rfl) (fun x12 e13 => ?_)
            rw [lt_of e13] at h
            refine g_goto (pc := 38) 5 dX10_isSuch_38 (by decide) ?_
            refine g_lv (lv' := [(0, .ref (κ 60)), (1, .int i1), (2, .int i2), (3, .int x10), (4, .int x12)]) rfl ?_
            exact ih _ _ _ h
          · rw [if_neg hc8] at h
            refine g_iconst (pc := 29) (v := (0 : Int32)) dX10_isSuch_29 rfl ?_
            cases h
            exact r_zret dX10_isSuch_30 rfl rfl rfl rfl
      · rw [if_pos hc6] at h
        refine g_iconst (pc := 17) (v := (1 : Int32)) dX10_isSuch_17 rfl ?_
        cases h
        exact r_zret dX10_isSuch_18 rfl rfl rfl rfl
set_option maxRecDepth 100000 in
set_option maxHeartbeats 4000000 in
theorem c_X10_isSuch_S {κ : Nat → Nat} {N : Nat} (hN : 140 ≤ N) (i1 : Int32) (i2 : Int32)  (μ : gMem) {r : Int32} {μ' : gMem} (h : f_X10_isSuch_S i1 i2 μ = some (r, μ')) : CT2 κ N 1 yX10_isSuch iX10_isSuch [.ref (κ 60), .int i1, .int i2] μ (qZ r μ') := by
  refine CT2.of (by decide) rfl rfl (Nat.le_of_ble_eq_true rfl) ?_
  unfold f_X10_isSuch_S at h
  show RR κ N 1 iX10_isSuch 0 [(0, .ref (κ 60)), (1, .int i1), (2, .int i2)] [] μ _
  refine g_iload_n (pc := 0) dX10_isSuch_0 rfl rfl ?_
  refine g_istore_n (pc := 1) (lv' := fun y => [(0, .ref (κ 60)), (1, .int i1), (2, .int i2), (3, .int y)]) dX10_isSuch_1 rfl (Nat.le_of_ble_eq_true rfl) (fun _ => rfl) (fun y1 e2 => ?_)
  rw [e2]
  refine g_iconst (pc := 2) (v := (0 : Int32)) dX10_isSuch_2 rfl ?_
  refine g_istore (pc := 3) (lv' := fun y => [(0, .ref (κ 60)), (1, .int i1), (2, .int i2), (3, .int i1), (4, .int y)]) dX10_isSuch_3 (Nat.le_of_ble_eq_true rfl) (fun _ => rfl) (fun y3 e4 => ?_)
  rw [e4]
  exact cl_X10_isSuch_S_5 hN i1 i2  gF i1 (0 : Int32) _ h

def l_X10_isSuch_V_5 (i1 : Int32) (i2 : Int32) : Nat → Int32 → Int32 → gMem → Option (Int32 × gMem)
  | 0, _, _, _ => none
  | n + 1, i3, i4, μ =>
  if (Int32.ofNat 5) ≤ i4 then
  (some ((0 : Int32), μ))
else
  (if i3 = i2 then
  (some ((1 : Int32), μ))
else
  (if i3 < 0 then
  (some ((0 : Int32), μ))
else
  (if i3 < (Int32.ofNat 5) then
  (if inb i3 5 = true then
  lt (gAbV.getD i3.toNatClampNeg 0) (fun x10 =>
  lt (i4 + Int32.ofInt 1) (fun x12 =>
  l_X10_isSuch_V_5 i1 i2 n x10 x12 μ)) else none)
else
  (some ((0 : Int32), μ)))))
def f_X10_isSuch_V (i1 : Int32) (i2 : Int32) (μ : gMem) : Option (Int32 × gMem) :=
  l_X10_isSuch_V_5 i1 i2 gF i1 (0 : Int32) μ
set_option maxRecDepth 100000 in
set_option maxHeartbeats 4000000 in
theorem cl_X10_isSuch_V_5 {κ : Nat → Nat} {N : Nat} {r : Int32} {μ' : gMem} (hN : 140 ≤ N) (i1 : Int32) (i2 : Int32)  : ∀ (n : Nat) (i3 : Int32) (i4 : Int32) (μ : gMem), l_X10_isSuch_V_5 i1 i2 n i3 i4 μ = some (r, μ') → RR κ N 1 iX10_isSuch 5 [(0, .ref (κ 61)), (1, .int i1), (2, .int i2), (3, .int i3), (4, .int i4)] [] μ (qZ r μ') := by
  intro n
  induction n with
  | zero =>
    intro i3 i4 μ h
    unfold l_X10_isSuch_V_5 at h
    cases h
  | succ n ih =>
    intro i3 i4 μ h
    unfold l_X10_isSuch_V_5 at h
    refine g_iload (pc := 5) dX10_isSuch_5 rfl ?_
    refine g_aload_n (pc := 7) dX10_isSuch_7 rfl rfl ?_
    refine g_tlen (pc := 8) dX10_isSuch_8 (fun _ _ h => h.2.1.2) ?_
    refine g_icmp_ge (pc := 9) 41 dX10_isSuch_9 (by decide) (fun hc5 => ?_) (fun hc5 => ?_)
    · rw [if_pos hc5] at h
      refine g_iconst (pc := 41) (v := (0 : Int32)) dX10_isSuch_41 rfl ?_
      cases h
      exact r_zret dX10_isSuch_42 rfl rfl rfl rfl
    · rw [if_neg hc5] at h
      refine g_iload_n (pc := 12) dX10_isSuch_12 rfl rfl ?_
      refine g_iload_n (pc := 13) dX10_isSuch_13 rfl rfl ?_
      refine g_icmp_ne (pc := 14) 19 dX10_isSuch_14 (by decide) (fun hc6 => ?_) (fun hc6 => ?_)
      · rw [if_neg hc6] at h
        refine g_iload_n (pc := 19) dX10_isSuch_19 rfl rfl ?_
        refine g_if_lt (pc := 20) 29 dX10_isSuch_20 (by decide) (fun hc7 => ?_) (fun hc7 => ?_)
        · rw [if_pos hc7] at h
          refine g_iconst (pc := 29) (v := (0 : Int32)) dX10_isSuch_29 rfl ?_
          cases h
          exact r_zret dX10_isSuch_30 rfl rfl rfl rfl
        · rw [if_neg hc7] at h
          refine g_iload_n (pc := 23) dX10_isSuch_23 rfl rfl ?_
          refine g_aload_n (pc := 24) dX10_isSuch_24 rfl rfl ?_
          refine g_tlen (pc := 25) dX10_isSuch_25 (fun _ _ h => h.2.1.2) ?_
          refine g_icmp_lt (pc := 26) 31 dX10_isSuch_26 (by decide) (fun hc8 => ?_) (fun hc8 => ?_)
          · rw [if_pos hc8] at h
            refine g_aload_n (pc := 31) dX10_isSuch_31 rfl rfl ?_
            refine g_iload_n (pc := 32) dX10_isSuch_32 rfl rfl ?_
            obtain ⟨hg9, h⟩ := gd_some h
            refine g_tald (pc := 33) dX10_isSuch_33 (fun _ _ h => h.2.1.2) (inb_in hg9) rfl ?_
            refine g_istore_n (pc := 34) (lv' := fun y => [(0, .ref (κ 61)), (1, .int i1), (2, .int i2), (3, .int y), (4, .int i4)]) dX10_isSuch_34 rfl (Nat.le_of_ble_eq_true rfl) (fun _ => rfl) (fun x10 e11 => ?_)
            rw [lt_of e11] at h
            refine g_iinc (pc := 35) (lv' := fun y => [(0, .ref (κ 61)), (1, .int i1), (2, .int i2), (3, .int x10), (4, .int y)]) dX10_isSuch_35 rfl (Nat.le_of_ble_eq_true rfl) (fun _ => rfl) (fun x12 e13 => ?_)
            rw [lt_of e13] at h
            refine g_goto (pc := 38) 5 dX10_isSuch_38 (by decide) ?_
            refine g_lv (lv' := [(0, .ref (κ 61)), (1, .int i1), (2, .int i2), (3, .int x10), (4, .int x12)]) rfl ?_
            exact ih _ _ _ h
          · rw [if_neg hc8] at h
            refine g_iconst (pc := 29) (v := (0 : Int32)) dX10_isSuch_29 rfl ?_
            cases h
            exact r_zret dX10_isSuch_30 rfl rfl rfl rfl
      · rw [if_pos hc6] at h
        refine g_iconst (pc := 17) (v := (1 : Int32)) dX10_isSuch_17 rfl ?_
        cases h
        exact r_zret dX10_isSuch_18 rfl rfl rfl rfl
set_option maxRecDepth 100000 in
set_option maxHeartbeats 4000000 in
theorem c_X10_isSuch_V {κ : Nat → Nat} {N : Nat} (hN : 140 ≤ N) (i1 : Int32) (i2 : Int32)  (μ : gMem) {r : Int32} {μ' : gMem} (h : f_X10_isSuch_V i1 i2 μ = some (r, μ')) : CT2 κ N 1 yX10_isSuch iX10_isSuch [.ref (κ 61), .int i1, .int i2] μ (qZ r μ') := by
  refine CT2.of (by decide) rfl rfl (Nat.le_of_ble_eq_true rfl) ?_
  unfold f_X10_isSuch_V at h
  show RR κ N 1 iX10_isSuch 0 [(0, .ref (κ 61)), (1, .int i1), (2, .int i2)] [] μ _
  refine g_iload_n (pc := 0) dX10_isSuch_0 rfl rfl ?_
  refine g_istore_n (pc := 1) (lv' := fun y => [(0, .ref (κ 61)), (1, .int i1), (2, .int i2), (3, .int y)]) dX10_isSuch_1 rfl (Nat.le_of_ble_eq_true rfl) (fun _ => rfl) (fun y1 e2 => ?_)
  rw [e2]
  refine g_iconst (pc := 2) (v := (0 : Int32)) dX10_isSuch_2 rfl ?_
  refine g_istore (pc := 3) (lv' := fun y => [(0, .ref (κ 61)), (1, .int i1), (2, .int i2), (3, .int i1), (4, .int y)]) dX10_isSuch_3 (Nat.le_of_ble_eq_true rfl) (fun _ => rfl) (fun y3 e4 => ?_)
  rw [e4]
  exact cl_X10_isSuch_V_5 hN i1 i2  gF i1 (0 : Int32) _ h

def l_X10_latestSeen_4  : Nat → Int32 → Int32 → gMem → Option (Int32 × Int32 × gMem)
  | 0, _, _, _ => none
  | n + 1, i1, i2, μ =>
  if (μ 0 11) ≤ i2 then
  (some (i1, i2, μ))
else
  (if inb i2 6 = true then
  lt (if i1 < (μ 138 i2.toNatClampNeg) then (μ 138 i2.toNatClampNeg) else i1) (fun x7 =>
  lt (i2 + Int32.ofInt 1) (fun x9 =>
  l_X10_latestSeen_4 n x7 x9 μ)) else none)
def f_X10_latestSeen  (μ : gMem) : Option (Int32 × gMem) :=
  (l_X10_latestSeen_4 gF (0 : Int32) (0 : Int32) μ).bind (fun p11 =>
  some (p11.1, p11.2.2))
set_option maxRecDepth 100000 in
set_option maxHeartbeats 4000000 in
theorem cl_X10_latestSeen_4 {κ : Nat → Nat} {N : Nat} {Q : rQ} (hN : 140 ≤ N)   : ∀ (n : Nat) (i1 : Int32) (i2 : Int32) (μ : gMem) (p : Int32 × Int32 × gMem), l_X10_latestSeen_4 n i1 i2 μ = some p → RR κ N 1 iX10_latestSeen 29 [(0, .ref (κ 0 + 0)), (1, .int p.1), (2, .int p.2.1)] [] p.2.2 Q → RR κ N 1 iX10_latestSeen 4 [(0, .ref (κ 0 + 0)), (1, .int i1), (2, .int i2)] [] μ Q := by
  intro n
  induction n with
  | zero =>
    intro i1 i2 μ p h k
    unfold l_X10_latestSeen_4 at h
    cases h
  | succ n ih =>
    intro i1 i2 μ p h k
    unfold l_X10_latestSeen_4 at h
    refine g_iload_n (pc := 4) dX10_latestSeen_4 rfl rfl ?_
    refine g_aload_n (pc := 5) dX10_latestSeen_5 rfl rfl ?_
    refine gf_X10_121 (pc := 6) rfl dX10_latestSeen_6 (Nat.lt_of_lt_of_le (by decide) hN) kd_0 ?_
    refine g_icmp_ge (pc := 9) 29 dX10_latestSeen_9 (by decide) (fun hc5 => ?_) (fun hc5 => ?_)
    · rw [if_pos hc5] at h
      cases h
      exact k
    · rw [if_neg hc5] at h
      refine g_iload_n (pc := 12) dX10_latestSeen_12 rfl rfl ?_
      refine g_aload_n (pc := 13) dX10_latestSeen_13 rfl rfl ?_
      refine gf_X10_68 (pc := 14) rfl dX10_latestSeen_14 (Nat.lt_of_lt_of_le (by decide) hN) kd_0 ?_
      refine g_iload_n (pc := 17) dX10_latestSeen_17 rfl rfl ?_
      obtain ⟨hg6, h⟩ := gd_some h
      refine r_iald (pc := 18) 6 dX10_latestSeen_18 (Nat.lt_of_lt_of_le (by decide) hN) kd_138 ln_138 hg6 ?_
      refine g_mmax (pc := 19) dX10_latestSeen_19 mL_X10_199 mMax (Nat.le_of_ble_eq_true rfl) (by decide) ?_
      refine g_istore_n (pc := 22) (lv' := fun y => [(0, .ref (κ 0 + 0)), (1, .int y), (2, .int i2)]) dX10_latestSeen_22 rfl (Nat.le_of_ble_eq_true rfl) (fun _ => rfl) (fun x7 e8 => ?_)
      rw [lt_of e8] at h
      refine g_iinc (pc := 23) (lv' := fun y => [(0, .ref (κ 0 + 0)), (1, .int x7), (2, .int y)]) dX10_latestSeen_23 rfl (Nat.le_of_ble_eq_true rfl) (fun _ => rfl) (fun x9 e10 => ?_)
      rw [lt_of e10] at h
      refine g_goto (pc := 26) 4 dX10_latestSeen_26 (by decide) ?_
      refine g_lv (lv' := [(0, .ref (κ 0 + 0)), (1, .int x7), (2, .int x9)]) rfl ?_
      exact ih _ _ _ _ h k
set_option maxRecDepth 100000 in
set_option maxHeartbeats 4000000 in
theorem c_X10_latestSeen {κ : Nat → Nat} {N : Nat} (hN : 140 ≤ N)   (μ : gMem) {r : Int32} {μ' : gMem} (h : f_X10_latestSeen  μ = some (r, μ')) : CT2 κ N 1 yX10_latestSeen iX10_latestSeen [.ref (κ 0 + 0)] μ (qI r μ') := by
  refine CT2.of (by decide) rfl rfl (Nat.le_of_ble_eq_true rfl) ?_
  unfold f_X10_latestSeen at h
  show RR κ N 1 iX10_latestSeen 0 [(0, .ref (κ 0 + 0))] [] μ _
  refine g_iconst (pc := 0) (v := (0 : Int32)) dX10_latestSeen_0 rfl ?_
  refine g_istore_n (pc := 1) (lv' := fun y => [(0, .ref (κ 0 + 0)), (1, .int y)]) dX10_latestSeen_1 rfl (Nat.le_of_ble_eq_true rfl) (fun _ => rfl) (fun y1 e2 => ?_)
  rw [e2]
  refine g_iconst (pc := 2) (v := (0 : Int32)) dX10_latestSeen_2 rfl ?_
  refine g_istore_n (pc := 3) (lv' := fun y => [(0, .ref (κ 0 + 0)), (1, .int (0 : Int32)), (2, .int y)]) dX10_latestSeen_3 rfl (Nat.le_of_ble_eq_true rfl) (fun _ => rfl) (fun y3 e4 => ?_)
  rw [e4]
  obtain ⟨p11, hp12, h⟩ := Option.bind_eq_some_iff.mp h
  refine cl_X10_latestSeen_4 hN   gF (0 : Int32) (0 : Int32) _ _ hp12 ?_
  refine g_iload_n (pc := 29) dX10_latestSeen_29 rfl rfl ?_
  cases h
  exact r_iret dX10_latestSeen_30 rfl rfl rfl

def l_X10_fitsSeen_2  : Nat → Int32 → gMem → Option (Int32 × gMem)
  | 0, _, _ => none
  | n + 1, i1, μ =>
  if (μ 0 11) ≤ i1 then
  (some ((1 : Int32), μ))
else
  (if inb i1 6 = true then
  if inb (μ 138 i1.toNatClampNeg) 100 = true then
  if (μ 105 (μ 138 i1.toNatClampNeg).toNatClampNeg) = (μ 139 i1.toNatClampNeg) then
  (lt (i1 + Int32.ofInt 1) (fun x7 =>
  l_X10_fitsSeen_2 n x7 μ))
else
  (some ((0 : Int32), μ)) else none else none)
def f_X10_fitsSeen  (μ : gMem) : Option (Int32 × gMem) :=
  l_X10_fitsSeen_2 gF (0 : Int32) μ
set_option maxRecDepth 100000 in
set_option maxHeartbeats 4000000 in
theorem cl_X10_fitsSeen_2 {κ : Nat → Nat} {N : Nat} {r : Int32} {μ' : gMem} (hN : 140 ≤ N)   : ∀ (n : Nat) (i1 : Int32) (μ : gMem), l_X10_fitsSeen_2 n i1 μ = some (r, μ') → RR κ N 1 iX10_fitsSeen 2 [(0, .ref (κ 0 + 0)), (1, .int i1)] [] μ (qZ r μ') := by
  intro n
  induction n with
  | zero =>
    intro i1 μ h
    unfold l_X10_fitsSeen_2 at h
    cases h
  | succ n ih =>
    intro i1 μ h
    unfold l_X10_fitsSeen_2 at h
    refine g_iload_n (pc := 2) dX10_fitsSeen_2 rfl rfl ?_
    refine g_aload_n (pc := 3) dX10_fitsSeen_3 rfl rfl ?_
    refine gf_X10_121 (pc := 4) rfl dX10_fitsSeen_4 (Nat.lt_of_lt_of_le (by decide) hN) kd_0 ?_
    refine g_icmp_ge (pc := 7) 41 dX10_fitsSeen_7 (by decide) (fun hc3 => ?_) (fun hc3 => ?_)
    · rw [if_pos hc3] at h
      refine g_iconst (pc := 41) (v := (1 : Int32)) dX10_fitsSeen_41 rfl ?_
      cases h
      exact r_zret dX10_fitsSeen_42 rfl rfl rfl rfl
    · rw [if_neg hc3] at h
      refine g_aload_n (pc := 10) dX10_fitsSeen_10 rfl rfl ?_
      refine gf_X10_57 (pc := 11) rfl dX10_fitsSeen_11 (Nat.lt_of_lt_of_le (by decide) hN) kd_0 ?_
      refine gf_X10_229 (pc := 14) rfl dX10_fitsSeen_14 (Nat.lt_of_lt_of_le (by decide) hN) kd_97 ?_
      refine g_aload_n (pc := 17) dX10_fitsSeen_17 rfl rfl ?_
      refine gf_X10_68 (pc := 18) rfl dX10_fitsSeen_18 (Nat.lt_of_lt_of_le (by decide) hN) kd_0 ?_
      refine g_iload_n (pc := 21) dX10_fitsSeen_21 rfl rfl ?_
      obtain ⟨hg4, h⟩ := gd_some h
      refine r_iald (pc := 22) 6 dX10_fitsSeen_22 (Nat.lt_of_lt_of_le (by decide) hN) kd_138 ln_138 hg4 ?_
      obtain ⟨hg5, h⟩ := gd_some h
      refine r_iald (pc := 23) 100 dX10_fitsSeen_23 (Nat.lt_of_lt_of_le (by decide) hN) kd_105 ln_105 hg5 ?_
      refine g_aload_n (pc := 24) dX10_fitsSeen_24 rfl rfl ?_
      refine gf_X10_72 (pc := 25) rfl dX10_fitsSeen_25 (Nat.lt_of_lt_of_le (by decide) hN) kd_0 ?_
      refine g_iload_n (pc := 28) dX10_fitsSeen_28 rfl rfl ?_
      refine r_iald (pc := 29) 6 dX10_fitsSeen_29 (Nat.lt_of_lt_of_le (by decide) hN) kd_139 ln_139 hg4 ?_
      refine g_icmp_eq (pc := 30) 35 dX10_fitsSeen_30 (by decide) (fun hc6 => ?_) (fun hc6 => ?_)
      · rw [if_pos hc6] at h
        refine g_iinc (pc := 35) (lv' := fun y => [(0, .ref (κ 0 + 0)), (1, .int y)]) dX10_fitsSeen_35 rfl (Nat.le_of_ble_eq_true rfl) (fun _ => rfl) (fun x7 e8 => ?_)
        rw [lt_of e8] at h
        refine g_goto (pc := 38) 2 dX10_fitsSeen_38 (by decide) ?_
        refine g_lv (lv' := [(0, .ref (κ 0 + 0)), (1, .int x7)]) rfl ?_
        exact ih _ _ h
      · rw [if_neg hc6] at h
        refine g_iconst (pc := 33) (v := (0 : Int32)) dX10_fitsSeen_33 rfl ?_
        cases h
        exact r_zret dX10_fitsSeen_34 rfl rfl rfl rfl
set_option maxRecDepth 100000 in
set_option maxHeartbeats 4000000 in
theorem c_X10_fitsSeen {κ : Nat → Nat} {N : Nat} (hN : 140 ≤ N)   (μ : gMem) {r : Int32} {μ' : gMem} (h : f_X10_fitsSeen  μ = some (r, μ')) : CT2 κ N 1 yX10_fitsSeen iX10_fitsSeen [.ref (κ 0 + 0)] μ (qZ r μ') := by
  refine CT2.of (by decide) rfl rfl (Nat.le_of_ble_eq_true rfl) ?_
  unfold f_X10_fitsSeen at h
  show RR κ N 1 iX10_fitsSeen 0 [(0, .ref (κ 0 + 0))] [] μ _
  refine g_iconst (pc := 0) (v := (0 : Int32)) dX10_fitsSeen_0 rfl ?_
  refine g_istore_n (pc := 1) (lv' := fun y => [(0, .ref (κ 0 + 0)), (1, .int y)]) dX10_fitsSeen_1 rfl (Nat.le_of_ble_eq_true rfl) (fun _ => rfl) (fun y1 e2 => ?_)
  rw [e2]
  exact cl_X10_fitsSeen_2 hN   gF (0 : Int32) _ h

def f_X10_lostByHole (i0 : Int32) (i1 : Int32) (μ : gMem) : Option (Int32 × gMem) :=
  some (((((i0 * i1) + (20 : Int32)) - (1 : Int32)) / (20 : Int32)), μ)
set_option maxRecDepth 100000 in
set_option maxHeartbeats 4000000 in
theorem c_X10_lostByHole {κ : Nat → Nat} {N : Nat} (hN : 140 ≤ N) (i0 : Int32) (i1 : Int32)  (μ : gMem) {r : Int32} {μ' : gMem} (h : f_X10_lostByHole i0 i1 μ = some (r, μ')) : CT2 κ N 1 yX10_lostByHole iX10_lostByHole [.int i0, .int i1] μ (qI r μ') := by
  refine CT2.of (by decide) rfl rfl (Nat.le_of_ble_eq_true rfl) ?_
  unfold f_X10_lostByHole at h
  show RR κ N 1 iX10_lostByHole 0 [(0, .int i0), (1, .int i1)] [] μ _
  refine g_iload_n (pc := 0) dX10_lostByHole_0 rfl rfl ?_
  refine g_iload_n (pc := 1) dX10_lostByHole_1 rfl rfl ?_
  refine g_imul (pc := 2) dX10_lostByHole_2 ?_
  refine g_bipush (pc := 3) (v := (20 : Int32)) dX10_lostByHole_3 rfl ?_
  refine g_iadd (pc := 5) dX10_lostByHole_5 ?_
  refine g_iconst (pc := 6) (v := (1 : Int32)) dX10_lostByHole_6 rfl ?_
  refine g_isub (pc := 7) dX10_lostByHole_7 ?_
  refine g_bipush (pc := 8) (v := (20 : Int32)) dX10_lostByHole_8 rfl ?_
  refine g_idiv (pc := 10) dX10_lostByHole_10 (by decide) ?_
  cases h
  exact r_iret dX10_lostByHole_11 rfl rfl rfl

def l_X10_power_4 (i0 : Int32) (i1 : Int32) : Nat → Int32 → Int32 → gMem → Option (Int32 × Int32 × gMem)
  | 0, _, _, _ => none
  | n + 1, i2, i3, μ =>
  if i1 ≤ i3 then
  (some (i2, i3, μ))
else
  (lt (i2 * i0) (fun x6 =>
  lt (i3 + Int32.ofInt 1) (fun x8 =>
  l_X10_power_4 i0 i1 n x6 x8 μ)))
def f_X10_power (i0 : Int32) (i1 : Int32) (μ : gMem) : Option (Int32 × gMem) :=
  (l_X10_power_4 i0 i1 gF (1 : Int32) (0 : Int32) μ).bind (fun p10 =>
  some (p10.1, p10.2.2))
set_option maxRecDepth 100000 in
set_option maxHeartbeats 4000000 in
theorem cl_X10_power_4 {κ : Nat → Nat} {N : Nat} {Q : rQ} (hN : 140 ≤ N) (i0 : Int32) (i1 : Int32)  : ∀ (n : Nat) (i2 : Int32) (i3 : Int32) (μ : gMem) (p : Int32 × Int32 × gMem), l_X10_power_4 i0 i1 n i2 i3 μ = some p → RR κ N 1 iX10_power 19 [(0, .int i0), (1, .int i1), (2, .int p.1), (3, .int p.2.1)] [] p.2.2 Q → RR κ N 1 iX10_power 4 [(0, .int i0), (1, .int i1), (2, .int i2), (3, .int i3)] [] μ Q := by
  intro n
  induction n with
  | zero =>
    intro i2 i3 μ p h k
    unfold l_X10_power_4 at h
    cases h
  | succ n ih =>
    intro i2 i3 μ p h k
    unfold l_X10_power_4 at h
    refine g_iload_n (pc := 4) dX10_power_4 rfl rfl ?_
    refine g_iload_n (pc := 5) dX10_power_5 rfl rfl ?_
    refine g_icmp_ge (pc := 6) 19 dX10_power_6 (by decide) (fun hc5 => ?_) (fun hc5 => ?_)
    · rw [if_pos hc5] at h
      cases h
      exact k
    · rw [if_neg hc5] at h
      refine g_iload_n (pc := 9) dX10_power_9 rfl rfl ?_
      refine g_iload_n (pc := 10) dX10_power_10 rfl rfl ?_
      refine g_imul (pc := 11) dX10_power_11 ?_
      refine g_istore_n (pc := 12) (lv' := fun y => [(0, .int i0), (1, .int i1), (2, .int y), (3, .int i3)]) dX10_power_12 rfl (Nat.le_of_ble_eq_true rfl) (fun _ => rfl) (fun x6 e7 => ?_)
      rw [lt_of e7] at h
      refine g_iinc (pc := 13) (lv' := fun y => [(0, .int i0), (1, .int i1), (2, .int x6), (3, .int y)]) dX10_power_13 rfl (Nat.le_of_ble_eq_true rfl) (fun _ => rfl) (fun x8 e9 => ?_)
      rw [lt_of e9] at h
      refine g_goto (pc := 16) 4 dX10_power_16 (by decide) ?_
      refine g_lv (lv' := [(0, .int i0), (1, .int i1), (2, .int x6), (3, .int x8)]) rfl ?_
      exact ih _ _ _ _ h k
set_option maxRecDepth 100000 in
set_option maxHeartbeats 4000000 in
theorem c_X10_power {κ : Nat → Nat} {N : Nat} (hN : 140 ≤ N) (i0 : Int32) (i1 : Int32)  (μ : gMem) {r : Int32} {μ' : gMem} (h : f_X10_power i0 i1 μ = some (r, μ')) : CT2 κ N 1 yX10_power iX10_power [.int i0, .int i1] μ (qI r μ') := by
  refine CT2.of (by decide) rfl rfl (Nat.le_of_ble_eq_true rfl) ?_
  unfold f_X10_power at h
  show RR κ N 1 iX10_power 0 [(0, .int i0), (1, .int i1)] [] μ _
  refine g_iconst (pc := 0) (v := (1 : Int32)) dX10_power_0 rfl ?_
  refine g_istore_n (pc := 1) (lv' := fun y => [(0, .int i0), (1, .int i1), (2, .int y)]) dX10_power_1 rfl (Nat.le_of_ble_eq_true rfl) (fun _ => rfl) (fun y1 e2 => ?_)
  rw [e2]
  refine g_iconst (pc := 2) (v := (0 : Int32)) dX10_power_2 rfl ?_
  refine g_istore_n (pc := 3) (lv' := fun y => [(0, .int i0), (1, .int i1), (2, .int (1 : Int32)), (3, .int y)]) dX10_power_3 rfl (Nat.le_of_ble_eq_true rfl) (fun _ => rfl) (fun y3 e4 => ?_)
  rw [e4]
  obtain ⟨p10, hp11, h⟩ := Option.bind_eq_some_iff.mp h
  refine cl_X10_power_4 hN i0 i1  gF (1 : Int32) (0 : Int32) _ _ hp11 ?_
  refine g_iload_n (pc := 19) dX10_power_19 rfl rfl ?_
  cases h
  exact r_iret dX10_power_20 rfl rfl rfl

def l_X2_fill_3 (i1 : Int32) (i2 : Int32) (i3 : Int32) : Nat → Int32 → gMem → Option (Int32 × gMem)
  | 0, _, _ => none
  | n + 1, i4, μ =>
  if i3 ≤ i4 then
  (some (i4, μ))
else
  (if inb i1 5 = true then
  (f_X7_isFrost (i2 + i4) μ).bind (fun p6 =>
  (f_X8_passMinute 104 (2 + 1 + i1.toNatClampNeg) p6.1 p6.2).bind (fun p9 =>
  if inb i4 99 = true then
  lt (st p9.2 (98 + 1 + i1.toNatClampNeg) i4.toNatClampNeg p9.1) (fun m10 =>
  lt (i4 + Int32.ofInt 1) (fun x13 =>
  l_X2_fill_3 i1 i2 i3 n x13 m10)) else none)) else none)
def f_X2_fill (i1 : Int32) (i2 : Int32) (i3 : Int32) (μ : gMem) : Option (gMem) :=
  (l_X2_fill_3 i1 i2 i3 gF (0 : Int32) μ).bind (fun p15 =>
  some p15.2)
set_option maxRecDepth 100000 in
set_option maxHeartbeats 4000000 in
theorem cl_X2_fill_3 {κ : Nat → Nat} {N : Nat} {Q : rQ} (hN : 140 ≤ N) (i1 : Int32) (i2 : Int32) (i3 : Int32)  : ∀ (n : Nat) (i4 : Int32) (μ : gMem) (p : Int32 × gMem), l_X2_fill_3 i1 i2 i3 n i4 μ = some p → RR κ N 5 iX2_fill 51 [(0, .ref (κ 0 + 97)), (1, .int i1), (2, .int i2), (3, .int i3), (4, .int p.1)] [] p.2 Q → RR κ N 5 iX2_fill 3 [(0, .ref (κ 0 + 97)), (1, .int i1), (2, .int i2), (3, .int i3), (4, .int i4)] [] μ Q := by
  intro n
  induction n with
  | zero =>
    intro i4 μ p h k
    unfold l_X2_fill_3 at h
    cases h
  | succ n ih =>
    intro i4 μ p h k
    unfold l_X2_fill_3 at h
    refine g_iload (pc := 3) dX2_fill_3 rfl ?_
    refine g_iload_n (pc := 5) dX2_fill_5 rfl rfl ?_
    refine g_icmp_ge (pc := 6) 51 dX2_fill_6 (by decide) (fun hc3 => ?_) (fun hc3 => ?_)
    · rw [if_pos hc3] at h
      cases h
      exact k
    · rw [if_neg hc3] at h
      refine g_aload_n (pc := 9) dX2_fill_9 rfl rfl ?_
      refine gf_X2_17 (pc := 10) rfl dX2_fill_10 (Nat.lt_of_lt_of_le (by decide) hN) kd_97 ?_
      refine g_iload_n (pc := 13) dX2_fill_13 rfl rfl ?_
      obtain ⟨hg4, h⟩ := gd_some h
      refine r_aald (pc := 14) 25 5 (98 + 1 + i1.toNatClampNeg) dX2_fill_14 (Nat.lt_of_lt_of_le (by decide) hN) kd_98 (by decide) ln_98 hg4 rfl ?_
      refine g_iload (pc := 15) dX2_fill_15 rfl ?_
      refine g_aload_n (pc := 17) dX2_fill_17 rfl rfl ?_
      refine gf_X2_23 (pc := 18) rfl dX2_fill_18 (Nat.lt_of_lt_of_le (by decide) hN) kd_97 ?_
      refine g_aload_n (pc := 21) dX2_fill_21 rfl rfl ?_
      refine gf_X2_9 (pc := 22) rfl dX2_fill_22 (Nat.lt_of_lt_of_le (by decide) hN) kd_97 ?_
      refine gf_X2_63 (pc := 25) rfl dX2_fill_25 (Nat.lt_of_lt_of_le (by decide) hN) kd_1 ?_
      refine g_iload_n (pc := 28) dX2_fill_28 rfl rfl ?_
      refine r_aald (pc := 29) 23 5 (2 + 1 + i1.toNatClampNeg) dX2_fill_29 (Nat.lt_of_lt_of_le (by decide) hN) kd_2 (by decide) ln_2 hg4 rfl ?_
      refine g_aload_n (pc := 30) dX2_fill_30 rfl rfl ?_
      refine gf_X2_9 (pc := 31) rfl dX2_fill_31 (Nat.lt_of_lt_of_le (by decide) hN) kd_97 ?_
      refine g_iload_n (pc := 34) dX2_fill_34 rfl rfl ?_
      refine g_iload (pc := 35) dX2_fill_35 rfl ?_
      refine g_iadd (pc := 37) dX2_fill_37 ?_
      obtain ⟨p6, hp5, h⟩ := Option.bind_eq_some_iff.mp h
      refine r_callV (ci := 7) (pc := 38) (c_X7_isFrost hN (i2 + i4) μ hp5) yV_X7_isFrost ⟨rfl, by decide⟩ pX7_isFrost mL_X2_71 dX2_fill_38 (Nat.le_of_ble_eq_true rfl) (Nat.le_of_ble_eq_true rfl) (Nat.lt_of_lt_of_le (by decide) hN) kd_1 rfl (rK_z (fun hz7 => ?_))
      obtain ⟨p9, hp8, h⟩ := Option.bind_eq_some_iff.mp h
      refine r_callV (ci := 8) (pc := 41) (c_X8_passMinute hN 104 (2 + 1 + i1.toNatClampNeg) p6.1 kd_104 ((kd_sis (inb_lt hg4)).1) p6.2 hp8) yV_X8_passMinute ⟨rfl, by decide⟩ pX8_passMinute mL_X2_75 dX2_fill_41 (Nat.le_of_ble_eq_true rfl) (Nat.le_of_ble_eq_true rfl) (Nat.lt_of_lt_of_le (by decide) hN) kd_104 rfl (rK_i ?_)
      obtain ⟨hg12, h⟩ := gd_some h
      refine r_iast (pc := 44) 99 dX2_fill_44 (Nat.lt_of_lt_of_le (kd_r98 (inb_lt hg4)).2.2 hN) (kd_r98 (inb_lt hg4)).1 (kd_r98 (inb_lt hg4)).2.1 hg12 (fun m10 e11 => ?_)
      rw [lt_of e11] at h
      refine g_iinc (pc := 45) (lv' := fun y => [(0, .ref (κ 0 + 97)), (1, .int i1), (2, .int i2), (3, .int i3), (4, .int y)]) dX2_fill_45 rfl (Nat.le_of_ble_eq_true rfl) (fun _ => rfl) (fun x13 e14 => ?_)
      rw [lt_of e14] at h
      refine g_goto (pc := 48) 3 dX2_fill_48 (by decide) ?_
      refine g_lv (lv' := [(0, .ref (κ 0 + 97)), (1, .int i1), (2, .int i2), (3, .int i3), (4, .int x13)]) rfl ?_
      exact ih _ _ _ h k
set_option maxRecDepth 100000 in
set_option maxHeartbeats 4000000 in
theorem c_X2_fill {κ : Nat → Nat} {N : Nat} (hN : 140 ≤ N) (i1 : Int32) (i2 : Int32) (i3 : Int32)  (μ : gMem) {μ' : gMem} (h : f_X2_fill i1 i2 i3 μ = some μ') : CT2 κ N 5 yX2_fill iX2_fill [.ref (κ 0 + 97), .int i1, .int i2, .int i3] μ (qV μ') := by
  refine CT2.of (by decide) rfl rfl (Nat.le_of_ble_eq_true rfl) ?_
  unfold f_X2_fill at h
  show RR κ N 5 iX2_fill 0 [(0, .ref (κ 0 + 97)), (1, .int i1), (2, .int i2), (3, .int i3)] [] μ _
  refine g_iconst (pc := 0) (v := (0 : Int32)) dX2_fill_0 rfl ?_
  refine g_istore (pc := 1) (lv' := fun y => [(0, .ref (κ 0 + 97)), (1, .int i1), (2, .int i2), (3, .int i3), (4, .int y)]) dX2_fill_1 (Nat.le_of_ble_eq_true rfl) (fun _ => rfl) (fun y1 e2 => ?_)
  rw [e2]
  obtain ⟨p15, hp16, h⟩ := Option.bind_eq_some_iff.mp h
  refine cl_X2_fill_3 hN i1 i2 i3  gF (0 : Int32) _ _ hp16 ?_
  cases h
  exact r_vret dX2_fill_51 rfl rfl

def f_X4_push (a1 : Nat) (μ : gMem) : Option (gMem) :=
  if inb (μ 23 1) 8 = true then
  (f_X5_copy (24 + 1 + 7 * (μ 23 1).toNatClampNeg) a1 μ).bind (fun m3 =>
  lt (st m3 23 1 (((m3 23 1) + (1 : Int32)) - ((m3 23 1) + (1 : Int32)) / (8 : Int32) * (8 : Int32))) (fun m4 =>
  lt (st m4 23 2 (if ((m4 23 2) + (1 : Int32)) < (8 : Int32) then ((m4 23 2) + (1 : Int32)) else (8 : Int32))) (fun m6 =>
  some m6))) else none
set_option maxRecDepth 100000 in
set_option maxHeartbeats 4000000 in
theorem c_X4_push {κ : Nat → Nat} {N : Nat} (hN : 140 ≤ N) (a1 : Nat) (h1 : kd a1 = 5) (μ : gMem) {μ' : gMem} (h : f_X4_push a1 μ = some μ') : CT2 κ N 3 yX4_push iX4_push [.ref (κ 0 + 23), .ref (κ 0 + a1)] μ (qV μ') := by
  refine CT2.of (by decide) rfl rfl (Nat.le_of_ble_eq_true rfl) ?_
  unfold f_X4_push at h
  show RR κ N 3 iX4_push 0 [(0, .ref (κ 0 + 23)), (1, .ref (κ 0 + a1))] [] μ _
  refine g_aload_n (pc := 0) dX4_push_0 rfl rfl ?_
  refine gf_X4_11 (pc := 1) rfl dX4_push_1 (Nat.lt_of_lt_of_le (by decide) hN) kd_23 ?_
  refine g_aload_n (pc := 4) dX4_push_4 rfl rfl ?_
  refine gf_X4_18 (pc := 5) rfl dX4_push_5 (Nat.lt_of_lt_of_le (by decide) hN) kd_23 ?_
  obtain ⟨hg1, h⟩ := gd_some h
  refine r_aald (pc := 8) 22 8 (24 + 1 + 7 * (μ 23 1).toNatClampNeg) dX4_push_8 (Nat.lt_of_lt_of_le (by decide) hN) kd_24 (by decide) ln_24 hg1 rfl ?_
  refine g_aload_n (pc := 9) dX4_push_9 rfl rfl ?_
  obtain ⟨m3, hp2, h⟩ := Option.bind_eq_some_iff.mp h
  refine r_callV (ci := 5) (pc := 10) (c_X5_copy hN (24 + 1 + 7 * (μ 23 1).toNatClampNeg) a1 (kd_past (inb_lt hg1)) h1 μ hp2) yV_X5_copy ⟨rfl, by decide⟩ pX5_copy mL_X4_22 dX4_push_10 (Nat.le_of_ble_eq_true rfl) (Nat.le_of_ble_eq_true rfl) (Nat.lt_of_lt_of_le (kd_obj (kd_past (inb_lt hg1)) (by decide)) hN) (kd_past (inb_lt hg1)) rfl (rK_v ?_)
  refine g_aload_n (pc := 13) dX4_push_13 rfl rfl ?_
  refine g_aload_n (pc := 14) dX4_push_14 rfl rfl ?_
  refine gf_X4_18 (pc := 15) rfl dX4_push_15 (Nat.lt_of_lt_of_le (by decide) hN) kd_23 ?_
  refine g_iconst (pc := 18) (v := (1 : Int32)) dX4_push_18 rfl ?_
  refine g_iadd (pc := 19) dX4_push_19 ?_
  refine g_bipush (pc := 20) (v := (8 : Int32)) dX4_push_20 rfl ?_
  refine g_irem (pc := 22) dX4_push_22 (by decide) ?_
  refine pf_X4_18 (pc := 23) rfl dX4_push_23 (Nat.lt_of_lt_of_le (by decide) hN) kd_23 (fun m4 e5 => ?_)
  rw [lt_of e5] at h
  refine g_aload_n (pc := 26) dX4_push_26 rfl rfl ?_
  refine g_bipush (pc := 27) (v := (8 : Int32)) dX4_push_27 rfl ?_
  refine g_aload_n (pc := 29) dX4_push_29 rfl rfl ?_
  refine gf_X4_26 (pc := 30) rfl dX4_push_30 (Nat.lt_of_lt_of_le (by decide) hN) kd_23 ?_
  refine g_iconst (pc := 33) (v := (1 : Int32)) dX4_push_33 rfl ?_
  refine g_iadd (pc := 34) dX4_push_34 ?_
  refine g_mmin (pc := 35) dX4_push_35 mL_X4_29 mMin (Nat.le_of_ble_eq_true rfl) (by decide) ?_
  refine pf_X4_26 (pc := 38) rfl dX4_push_38 (Nat.lt_of_lt_of_le (by decide) hN) kd_23 (fun m6 e7 => ?_)
  rw [lt_of e7] at h
  cases h
  exact r_vret dX4_push_41 rfl rfl

def f_X4_pop (a1 : Nat) (μ : gMem) : Option (Int32 × gMem) :=
  if (μ 23 2) = 0 then
  (some ((0 : Int32), μ))
else
  (lt (st μ 23 1 ((((μ 23 1) + (8 : Int32)) - (1 : Int32)) - (((μ 23 1) + (8 : Int32)) - (1 : Int32)) / (8 : Int32) * (8 : Int32))) (fun m2 =>
  lt (st m2 23 2 ((m2 23 2) - (1 : Int32))) (fun m4 =>
  if inb (m4 23 1) 8 = true then
  (f_X5_copy a1 (24 + 1 + 7 * (m4 23 1).toNatClampNeg) m4).bind (fun m8 =>
  some ((1 : Int32), m8)) else none)))
set_option maxRecDepth 100000 in
set_option maxHeartbeats 4000000 in
theorem c_X4_pop {κ : Nat → Nat} {N : Nat} (hN : 140 ≤ N) (a1 : Nat) (h1 : kd a1 = 5) (μ : gMem) {r : Int32} {μ' : gMem} (h : f_X4_pop a1 μ = some (r, μ')) : CT2 κ N 3 yX4_pop iX4_pop [.ref (κ 0 + 23), .ref (κ 0 + a1)] μ (qZ r μ') := by
  refine CT2.of (by decide) rfl rfl (Nat.le_of_ble_eq_true rfl) ?_
  unfold f_X4_pop at h
  show RR κ N 3 iX4_pop 0 [(0, .ref (κ 0 + 23)), (1, .ref (κ 0 + a1))] [] μ _
  refine g_aload_n (pc := 0) dX4_pop_0 rfl rfl ?_
  refine gf_X4_26 (pc := 1) rfl dX4_pop_1 (Nat.lt_of_lt_of_le (by decide) hN) kd_23 ?_
  refine g_if_ne (pc := 4) 9 dX4_pop_4 (by decide) (fun hc1 => ?_) (fun hc1 => ?_)
  · rw [if_neg hc1] at h
    refine g_aload_n (pc := 9) dX4_pop_9 rfl rfl ?_
    refine g_aload_n (pc := 10) dX4_pop_10 rfl rfl ?_
    refine gf_X4_18 (pc := 11) rfl dX4_pop_11 (Nat.lt_of_lt_of_le (by decide) hN) kd_23 ?_
    refine g_bipush (pc := 14) (v := (8 : Int32)) dX4_pop_14 rfl ?_
    refine g_iadd (pc := 16) dX4_pop_16 ?_
    refine g_iconst (pc := 17) (v := (1 : Int32)) dX4_pop_17 rfl ?_
    refine g_isub (pc := 18) dX4_pop_18 ?_
    refine g_bipush (pc := 19) (v := (8 : Int32)) dX4_pop_19 rfl ?_
    refine g_irem (pc := 21) dX4_pop_21 (by decide) ?_
    refine pf_X4_18 (pc := 22) rfl dX4_pop_22 (Nat.lt_of_lt_of_le (by decide) hN) kd_23 (fun m2 e3 => ?_)
    rw [lt_of e3] at h
    refine g_aload_n (pc := 25) dX4_pop_25 rfl rfl ?_
    refine g_dup (pc := 26) dX4_pop_26 rfl ?_
    refine gf_X4_26 (pc := 27) rfl dX4_pop_27 (Nat.lt_of_lt_of_le (by decide) hN) kd_23 ?_
    refine g_iconst (pc := 30) (v := (1 : Int32)) dX4_pop_30 rfl ?_
    refine g_isub (pc := 31) dX4_pop_31 ?_
    refine pf_X4_26 (pc := 32) rfl dX4_pop_32 (Nat.lt_of_lt_of_le (by decide) hN) kd_23 (fun m4 e5 => ?_)
    rw [lt_of e5] at h
    refine g_aload_n (pc := 35) dX4_pop_35 rfl rfl ?_
    refine g_aload_n (pc := 36) dX4_pop_36 rfl rfl ?_
    refine gf_X4_11 (pc := 37) rfl dX4_pop_37 (Nat.lt_of_lt_of_le (by decide) hN) kd_23 ?_
    refine g_aload_n (pc := 40) dX4_pop_40 rfl rfl ?_
    refine gf_X4_18 (pc := 41) rfl dX4_pop_41 (Nat.lt_of_lt_of_le (by decide) hN) kd_23 ?_
    obtain ⟨hg6, h⟩ := gd_some h
    refine r_aald (pc := 44) 22 8 (24 + 1 + 7 * (m4 23 1).toNatClampNeg) dX4_pop_44 (Nat.lt_of_lt_of_le (by decide) hN) kd_24 (by decide) ln_24 hg6 rfl ?_
    obtain ⟨m8, hp7, h⟩ := Option.bind_eq_some_iff.mp h
    refine r_callV (ci := 5) (pc := 45) (c_X5_copy hN a1 (24 + 1 + 7 * (m4 23 1).toNatClampNeg) h1 (kd_past (inb_lt hg6)) m4 hp7) yV_X5_copy ⟨rfl, by decide⟩ pX5_copy mL_X4_22 dX4_pop_45 (Nat.le_of_ble_eq_true rfl) (Nat.le_of_ble_eq_true rfl) (Nat.lt_of_lt_of_le (kd_obj h1 (by decide)) hN) h1 rfl (rK_v ?_)
    refine g_iconst (pc := 48) (v := (1 : Int32)) dX4_pop_48 rfl ?_
    cases h
    exact r_zret dX4_pop_49 rfl rfl rfl rfl
  · rw [if_pos hc1] at h
    refine g_iconst (pc := 7) (v := (0 : Int32)) dX4_pop_7 rfl ?_
    cases h
    exact r_zret dX4_pop_8 rfl rfl rfl rfl

def l_X5_startAnew_27 (a0 : Nat) (i1 : Int32) : Nat → Int32 → gMem → Option (Int32 × gMem)
  | 0, _, _ => none
  | n + 1, i2, μ =>
  if (5 : Int32) ≤ i2 then
  (some (i2, μ))
else
  (if inb i2 5 = true then
  (f_X8_startAnew ((a0 + 1) + 1 + i2.toNatClampNeg) μ).bind (fun m16 =>
  lt (i2 + Int32.ofInt 1) (fun x17 =>
  l_X5_startAnew_27 a0 i1 n x17 m16)) else none)
def f_X5_startAnew (a0 : Nat) (i1 : Int32) (μ : gMem) : Option (gMem) :=
  lt (st μ a0 0 (0 : Int32)) (fun m1 =>
  lt (st m1 a0 1 (0 : Int32)) (fun m3 =>
  lt (st m3 a0 2 i1) (fun m5 =>
  lt (st m5 a0 3 (0 : Int32)) (fun m7 =>
  lt (st m7 a0 4 (0 : Int32)) (fun m9 =>
  (l_X5_startAnew_27 a0 i1 gF (0 : Int32) m9).bind (fun p19 =>
  some p19.2))))))
set_option maxRecDepth 100000 in
set_option maxHeartbeats 4000000 in
theorem cl_X5_startAnew_27 {κ : Nat → Nat} {N : Nat} {Q : rQ} (hN : 140 ≤ N) (a0 : Nat) (i1 : Int32) (h0 : kd a0 = 5) (g0 : a0 < N) : ∀ (n : Nat) (i2 : Int32) (μ : gMem) (p : Int32 × gMem), l_X5_startAnew_27 a0 i1 n i2 μ = some p → RR κ N 3 iX5_startAnew 47 [(0, .ref (κ 0 + a0)), (1, .int i1), (2, .int p.1)] [] p.2 Q → RR κ N 3 iX5_startAnew 27 [(0, .ref (κ 0 + a0)), (1, .int i1), (2, .int i2)] [] μ Q := by
  intro n
  induction n with
  | zero =>
    intro i2 μ p h k
    unfold l_X5_startAnew_27 at h
    cases h
  | succ n ih =>
    intro i2 μ p h k
    unfold l_X5_startAnew_27 at h
    refine g_iload_n (pc := 27) dX5_startAnew_27 rfl rfl ?_
    refine g_iconst (pc := 28) (v := (5 : Int32)) dX5_startAnew_28 rfl ?_
    refine g_icmp_ge (pc := 29) 47 dX5_startAnew_29 (by decide) (fun hc13 => ?_) (fun hc13 => ?_)
    · rw [if_pos hc13] at h
      cases h
      exact k
    · rw [if_neg hc13] at h
      refine g_aload_n (pc := 32) dX5_startAnew_32 rfl rfl ?_
      refine gf_X5_11 (pc := 33) rfl dX5_startAnew_33 g0 h0 ?_
      refine g_iload_n (pc := 36) dX5_startAnew_36 rfl rfl ?_
      obtain ⟨hg14, h⟩ := gd_some h
      refine r_aald (pc := 37) 24 5 ((a0 + 1) + 1 + i2.toNatClampNeg) dX5_startAnew_37 (Nat.lt_of_lt_of_le (Nat.lt_of_lt_of_le (Nat.lt_of_succ_le (Nat.add_le_add_left (by decide : 2 ≤ 7) _)) (kd_scene h0).2.2) hN) (kd_scene h0).1 (by decide) (kd_scene h0).2.1 hg14 rfl ?_
      obtain ⟨m16, hp15, h⟩ := Option.bind_eq_some_iff.mp h
      refine r_callV (ci := 8) (pc := 38) (c_X8_startAnew hN ((a0 + 1) + 1 + i2.toNatClampNeg) ((kd_warr (kd_scene h0).1 (inb_lt hg14)).1) μ hp15) yV_X8_startAnew ⟨rfl, by decide⟩ pX8_startAnew mL_X5_38 dX5_startAnew_38 (Nat.le_of_ble_eq_true rfl) (Nat.le_of_ble_eq_true rfl) (Nat.lt_of_lt_of_le (kd_warr (kd_scene h0).1 (inb_lt hg14)).2 hN) (kd_warr (kd_scene h0).1 (inb_lt hg14)).1 rfl (rK_v ?_)
      refine g_iinc (pc := 41) (lv' := fun y => [(0, .ref (κ 0 + a0)), (1, .int i1), (2, .int y)]) dX5_startAnew_41 rfl (Nat.le_of_ble_eq_true rfl) (fun _ => rfl) (fun x17 e18 => ?_)
      rw [lt_of e18] at h
      refine g_goto (pc := 44) 27 dX5_startAnew_44 (by decide) ?_
      refine g_lv (lv' := [(0, .ref (κ 0 + a0)), (1, .int i1), (2, .int x17)]) rfl ?_
      exact ih _ _ _ h k
set_option maxRecDepth 100000 in
set_option maxHeartbeats 4000000 in
theorem c_X5_startAnew {κ : Nat → Nat} {N : Nat} (hN : 140 ≤ N) (a0 : Nat) (i1 : Int32) (h0 : kd a0 = 5) (μ : gMem) {μ' : gMem} (h : f_X5_startAnew a0 i1 μ = some μ') : CT2 κ N 3 yX5_startAnew iX5_startAnew [.ref (κ 0 + a0), .int i1] μ (qV μ') := by
  refine CT2.of (by decide) rfl rfl (Nat.le_of_ble_eq_true rfl) ?_
  unfold f_X5_startAnew at h
  show RR κ N 3 iX5_startAnew 0 [(0, .ref (κ 0 + a0)), (1, .int i1)] [] μ _
  refine g_aload_n (pc := 0) dX5_startAnew_0 rfl rfl ?_
  refine g_iconst (pc := 1) (v := (0 : Int32)) dX5_startAnew_1 rfl ?_
  refine pf_X5_18 (pc := 2) rfl dX5_startAnew_2 (Nat.lt_of_lt_of_le (kd_obj h0 (by decide)) hN) h0 (fun m1 e2 => ?_)
  rw [lt_of e2] at h
  refine g_aload_n (pc := 5) dX5_startAnew_5 rfl rfl ?_
  refine g_iconst (pc := 6) (v := (0 : Int32)) dX5_startAnew_6 rfl ?_
  refine pf_X5_22 (pc := 7) rfl dX5_startAnew_7 (Nat.lt_of_lt_of_le (kd_obj h0 (by decide)) hN) h0 (fun m3 e4 => ?_)
  rw [lt_of e4] at h
  refine g_aload_n (pc := 10) dX5_startAnew_10 rfl rfl ?_
  refine g_iload_n (pc := 11) dX5_startAnew_11 rfl rfl ?_
  refine pf_X5_25 (pc := 12) rfl dX5_startAnew_12 (Nat.lt_of_lt_of_le (kd_obj h0 (by decide)) hN) h0 (fun m5 e6 => ?_)
  rw [lt_of e6] at h
  refine g_aload_n (pc := 15) dX5_startAnew_15 rfl rfl ?_
  refine g_iconst (pc := 16) (v := (0 : Int32)) dX5_startAnew_16 rfl ?_
  refine pf_X5_28 (pc := 17) rfl dX5_startAnew_17 (Nat.lt_of_lt_of_le (kd_obj h0 (by decide)) hN) h0 (fun m7 e8 => ?_)
  rw [lt_of e8] at h
  refine g_aload_n (pc := 20) dX5_startAnew_20 rfl rfl ?_
  refine g_iconst (pc := 21) (v := (0 : Int32)) dX5_startAnew_21 rfl ?_
  refine pf_X5_31 (pc := 22) rfl dX5_startAnew_22 (Nat.lt_of_lt_of_le (kd_obj h0 (by decide)) hN) h0 (fun m9 e10 => ?_)
  rw [lt_of e10] at h
  refine g_iconst (pc := 25) (v := (0 : Int32)) dX5_startAnew_25 rfl ?_
  refine g_istore_n (pc := 26) (lv' := fun y => [(0, .ref (κ 0 + a0)), (1, .int i1), (2, .int y)]) dX5_startAnew_26 rfl (Nat.le_of_ble_eq_true rfl) (fun _ => rfl) (fun y11 e12 => ?_)
  rw [e12]
  obtain ⟨p19, hp20, h⟩ := Option.bind_eq_some_iff.mp h
  refine cl_X5_startAnew_27 hN a0 i1 h0 (Nat.lt_of_lt_of_le (kd_obj h0 (by decide)) hN) gF (0 : Int32) _ _ hp20 ?_
  cases h
  exact r_vret dX5_startAnew_47 rfl rfl

def l_X5_passMinute_14 (a0 : Nat) (i2 : Int32) : Nat → Int32 → Int32 → gMem → Option (Int32 × Int32 × gMem)
  | 0, _, _, _ => none
  | n + 1, i3, i4, μ =>
  if (μ 1 1) ≤ i4 then
  (some (i3, i4, μ))
else
  (if inb i4 5 = true then
  (f_X8_passMinute ((a0 + 1) + 1 + i4.toNatClampNeg) (2 + 1 + i4.toNatClampNeg) i2 μ).bind (fun p13 =>
  lt (i3 + p13.1) (fun x14 =>
  lt (i4 + Int32.ofInt 1) (fun x16 =>
  l_X5_passMinute_14 a0 i2 n x14 x16 p13.2))) else none)
def f_X5_passMinute (a0 : Nat) (μ : gMem) : Option (gMem) :=
  (f_X7_isFrost (μ a0 0) μ).bind (fun p2 =>
  lt p2.1 (fun x4 =>
  (l_X5_passMinute_14 a0 x4 gF (0 : Int32) (0 : Int32) p2.2).bind (fun p18 =>
  lt (st p18.2.2 a0 4 ((p18.2.2 a0 4) + p18.1)) (fun m20 =>
  lt (st m20 a0 1 (if ((m20 a0 1) + p18.1) < (m20 1 4) then ((m20 a0 1) + p18.1) else (m20 1 4))) (fun m22 =>
  if (m22 a0 1) = (m22 1 4) then
  (lt (st m22 a0 3 ((m22 a0 3) + (1 : Int32))) (fun m31 =>
  (f_X10_lostByHole (m31 a0 1) (m31 a0 2) m31).bind (fun p34 =>
  lt (st p34.2 a0 1 ((m31 a0 1) - p34.1)) (fun m35 =>
  lt (st m35 a0 0 ((m35 a0 0) + (1 : Int32))) (fun m37 =>
  some m37)))))
else
  ((f_X10_lostByHole (m22 a0 1) (m22 a0 2) m22).bind (fun p26 =>
  lt (st p26.2 a0 1 ((m22 a0 1) - p26.1)) (fun m27 =>
  lt (st m27 a0 0 ((m27 a0 0) + (1 : Int32))) (fun m29 =>
  some m29)))))))))
set_option maxRecDepth 100000 in
set_option maxHeartbeats 4000000 in
theorem cl_X5_passMinute_14 {κ : Nat → Nat} {N : Nat} {Q : rQ} (hN : 140 ≤ N) (a0 : Nat) (i2 : Int32) (h0 : kd a0 = 5) (g0 : a0 < N) : ∀ (n : Nat) (i3 : Int32) (i4 : Int32) (μ : gMem) (p : Int32 × Int32 × gMem), l_X5_passMinute_14 a0 i2 n i3 i4 μ = some p → RR κ N 5 iX5_passMinute 50 [(0, .ref (κ 0 + a0)), (1, .ref (κ 0 + 1)), (2, .int i2), (3, .int p.1), (4, .int p.2.1)] [] p.2.2 Q → RR κ N 5 iX5_passMinute 14 [(0, .ref (κ 0 + a0)), (1, .ref (κ 0 + 1)), (2, .int i2), (3, .int i3), (4, .int i4)] [] μ Q := by
  intro n
  induction n with
  | zero =>
    intro i3 i4 μ p h k
    unfold l_X5_passMinute_14 at h
    cases h
  | succ n ih =>
    intro i3 i4 μ p h k
    unfold l_X5_passMinute_14 at h
    refine g_iload (pc := 14) dX5_passMinute_14 rfl ?_
    refine g_aload_n (pc := 16) dX5_passMinute_16 rfl rfl ?_
    refine gf_X5_47 (pc := 17) rfl dX5_passMinute_17 (Nat.lt_of_lt_of_le (by decide) hN) kd_1 ?_
    refine g_icmp_ge (pc := 20) 50 dX5_passMinute_20 (by decide) (fun hc10 => ?_) (fun hc10 => ?_)
    · rw [if_pos hc10] at h
      cases h
      exact k
    · rw [if_neg hc10] at h
      refine g_iload_n (pc := 23) dX5_passMinute_23 rfl rfl ?_
      refine g_aload_n (pc := 24) dX5_passMinute_24 rfl rfl ?_
      refine gf_X5_11 (pc := 25) rfl dX5_passMinute_25 g0 h0 ?_
      refine g_iload (pc := 28) dX5_passMinute_28 rfl ?_
      obtain ⟨hg11, h⟩ := gd_some h
      refine r_aald (pc := 30) 24 5 ((a0 + 1) + 1 + i4.toNatClampNeg) dX5_passMinute_30 (Nat.lt_of_lt_of_le (Nat.lt_of_lt_of_le (Nat.lt_of_succ_le (Nat.add_le_add_left (by decide : 2 ≤ 7) _)) (kd_scene h0).2.2) hN) (kd_scene h0).1 (by decide) (kd_scene h0).2.1 hg11 rfl ?_
      refine g_aload_n (pc := 31) dX5_passMinute_31 rfl rfl ?_
      refine gf_X5_50 (pc := 32) rfl dX5_passMinute_32 (Nat.lt_of_lt_of_le (by decide) hN) kd_1 ?_
      refine g_iload (pc := 35) dX5_passMinute_35 rfl ?_
      refine r_aald (pc := 37) 23 5 (2 + 1 + i4.toNatClampNeg) dX5_passMinute_37 (Nat.lt_of_lt_of_le (by decide) hN) kd_2 (by decide) ln_2 hg11 rfl ?_
      refine g_iload_n (pc := 38) dX5_passMinute_38 rfl rfl ?_
      obtain ⟨p13, hp12, h⟩ := Option.bind_eq_some_iff.mp h
      refine r_callV (ci := 8) (pc := 39) (c_X8_passMinute hN ((a0 + 1) + 1 + i4.toNatClampNeg) (2 + 1 + i4.toNatClampNeg) i2 ((kd_warr (kd_scene h0).1 (inb_lt hg11)).1) ((kd_sis (inb_lt hg11)).1) μ hp12) yV_X8_passMinute ⟨rfl, by decide⟩ pX8_passMinute mL_X5_54 dX5_passMinute_39 (Nat.le_of_ble_eq_true rfl) (Nat.le_of_ble_eq_true rfl) (Nat.lt_of_lt_of_le (kd_warr (kd_scene h0).1 (inb_lt hg11)).2 hN) (kd_warr (kd_scene h0).1 (inb_lt hg11)).1 rfl (rK_i ?_)
      refine g_iadd (pc := 42) dX5_passMinute_42 ?_
      refine g_istore_n (pc := 43) (lv' := fun y => [(0, .ref (κ 0 + a0)), (1, .ref (κ 0 + 1)), (2, .int i2), (3, .int y), (4, .int i4)]) dX5_passMinute_43 rfl (Nat.le_of_ble_eq_true rfl) (fun _ => rfl) (fun x14 e15 => ?_)
      rw [lt_of e15] at h
      refine g_iinc (pc := 44) (lv' := fun y => [(0, .ref (κ 0 + a0)), (1, .ref (κ 0 + 1)), (2, .int i2), (3, .int x14), (4, .int y)]) dX5_passMinute_44 rfl (Nat.le_of_ble_eq_true rfl) (fun _ => rfl) (fun x16 e17 => ?_)
      rw [lt_of e17] at h
      refine g_goto (pc := 47) 14 dX5_passMinute_47 (by decide) ?_
      refine g_lv (lv' := [(0, .ref (κ 0 + a0)), (1, .ref (κ 0 + 1)), (2, .int i2), (3, .int x14), (4, .int x16)]) rfl ?_
      exact ih _ _ _ _ h k
set_option maxRecDepth 100000 in
set_option maxHeartbeats 4000000 in
theorem c_X5_passMinute {κ : Nat → Nat} {N : Nat} (hN : 140 ≤ N) (a0 : Nat) (h0 : kd a0 = 5) (μ : gMem) {μ' : gMem} (h : f_X5_passMinute a0 μ = some μ') : CT2 κ N 5 yX5_passMinute iX5_passMinute [.ref (κ 0 + a0), .ref (κ 0 + 1)] μ (qV μ') := by
  refine CT2.of (by decide) rfl rfl (Nat.le_of_ble_eq_true rfl) ?_
  unfold f_X5_passMinute at h
  show RR κ N 5 iX5_passMinute 0 [(0, .ref (κ 0 + a0)), (1, .ref (κ 0 + 1))] [] μ _
  refine g_aload_n (pc := 0) dX5_passMinute_0 rfl rfl ?_
  refine g_aload_n (pc := 1) dX5_passMinute_1 rfl rfl ?_
  refine gf_X5_18 (pc := 2) rfl dX5_passMinute_2 (Nat.lt_of_lt_of_le (kd_obj h0 (by decide)) hN) h0 ?_
  obtain ⟨p2, hp1, h⟩ := Option.bind_eq_some_iff.mp h
  refine r_callV (ci := 7) (pc := 5) (c_X7_isFrost hN (μ a0 0) μ hp1) yV_X7_isFrost ⟨rfl, by decide⟩ pX7_isFrost mL_X5_41 dX5_passMinute_5 (Nat.le_of_ble_eq_true rfl) (Nat.le_of_ble_eq_true rfl) (Nat.lt_of_lt_of_le (by decide) hN) kd_1 rfl (rK_z (fun hz3 => ?_))
  refine g_istore_n (pc := 8) (lv' := fun y => [(0, .ref (κ 0 + a0)), (1, .ref (κ 0 + 1)), (2, .int y)]) dX5_passMinute_8 rfl (Nat.le_of_ble_eq_true rfl) (fun _ => rfl) (fun x4 e5 => ?_)
  rw [lt_of e5] at h
  refine g_iconst (pc := 9) (v := (0 : Int32)) dX5_passMinute_9 rfl ?_
  refine g_istore_n (pc := 10) (lv' := fun y => [(0, .ref (κ 0 + a0)), (1, .ref (κ 0 + 1)), (2, .int x4), (3, .int y)]) dX5_passMinute_10 rfl (Nat.le_of_ble_eq_true rfl) (fun _ => rfl) (fun y6 e7 => ?_)
  rw [e7]
  refine g_iconst (pc := 11) (v := (0 : Int32)) dX5_passMinute_11 rfl ?_
  refine g_istore (pc := 12) (lv' := fun y => [(0, .ref (κ 0 + a0)), (1, .ref (κ 0 + 1)), (2, .int x4), (3, .int (0 : Int32)), (4, .int y)]) dX5_passMinute_12 (Nat.le_of_ble_eq_true rfl) (fun _ => rfl) (fun y8 e9 => ?_)
  rw [e9]
  obtain ⟨p18, hp19, h⟩ := Option.bind_eq_some_iff.mp h
  refine cl_X5_passMinute_14 hN a0 x4 h0 (Nat.lt_of_lt_of_le (kd_obj h0 (by decide)) hN) gF (0 : Int32) (0 : Int32) _ _ hp19 ?_
  refine g_aload_n (pc := 50) dX5_passMinute_50 rfl rfl ?_
  refine g_dup (pc := 51) dX5_passMinute_51 rfl ?_
  refine gf_X5_31 (pc := 52) rfl dX5_passMinute_52 (Nat.lt_of_lt_of_le (kd_obj h0 (by decide)) hN) h0 ?_
  refine g_iload_n (pc := 55) dX5_passMinute_55 rfl rfl ?_
  refine g_iadd (pc := 56) dX5_passMinute_56 ?_
  refine pf_X5_31 (pc := 57) rfl dX5_passMinute_57 (Nat.lt_of_lt_of_le (kd_obj h0 (by decide)) hN) h0 (fun m20 e21 => ?_)
  rw [lt_of e21] at h
  refine g_aload_n (pc := 60) dX5_passMinute_60 rfl rfl ?_
  refine g_aload_n (pc := 61) dX5_passMinute_61 rfl rfl ?_
  refine gf_X5_58 (pc := 62) rfl dX5_passMinute_62 (Nat.lt_of_lt_of_le (by decide) hN) kd_1 ?_
  refine g_aload_n (pc := 65) dX5_passMinute_65 rfl rfl ?_
  refine gf_X5_22 (pc := 66) rfl dX5_passMinute_66 (Nat.lt_of_lt_of_le (kd_obj h0 (by decide)) hN) h0 ?_
  refine g_iload_n (pc := 69) dX5_passMinute_69 rfl rfl ?_
  refine g_iadd (pc := 70) dX5_passMinute_70 ?_
  refine g_mmin (pc := 71) dX5_passMinute_71 mL_X5_61 mMin (Nat.le_of_ble_eq_true rfl) (by decide) ?_
  refine pf_X5_22 (pc := 74) rfl dX5_passMinute_74 (Nat.lt_of_lt_of_le (kd_obj h0 (by decide)) hN) h0 (fun m22 e23 => ?_)
  rw [lt_of e23] at h
  refine g_aload_n (pc := 77) dX5_passMinute_77 rfl rfl ?_
  refine gf_X5_22 (pc := 78) rfl dX5_passMinute_78 (Nat.lt_of_lt_of_le (kd_obj h0 (by decide)) hN) h0 ?_
  refine g_aload_n (pc := 81) dX5_passMinute_81 rfl rfl ?_
  refine gf_X5_58 (pc := 82) rfl dX5_passMinute_82 (Nat.lt_of_lt_of_le (by decide) hN) kd_1 ?_
  refine g_icmp_ne (pc := 85) 98 dX5_passMinute_85 (by decide) (fun hc24 => ?_) (fun hc24 => ?_)
  · rw [if_neg hc24] at h
    refine g_aload_n (pc := 98) dX5_passMinute_98 rfl rfl ?_
    refine g_dup (pc := 99) dX5_passMinute_99 rfl ?_
    refine gf_X5_22 (pc := 100) rfl dX5_passMinute_100 (Nat.lt_of_lt_of_le (kd_obj h0 (by decide)) hN) h0 ?_
    refine g_aload_n (pc := 103) dX5_passMinute_103 rfl rfl ?_
    refine gf_X5_22 (pc := 104) rfl dX5_passMinute_104 (Nat.lt_of_lt_of_le (kd_obj h0 (by decide)) hN) h0 ?_
    refine g_aload_n (pc := 107) dX5_passMinute_107 rfl rfl ?_
    refine gf_X5_25 (pc := 108) rfl dX5_passMinute_108 (Nat.lt_of_lt_of_le (kd_obj h0 (by decide)) hN) h0 ?_
    obtain ⟨p26, hp25, h⟩ := Option.bind_eq_some_iff.mp h
    refine r_callSN (pc := 111) (c_X10_lostByHole hN (m22 a0 1) (m22 a0 2) m22 hp25) yS_X10_lostByHole pX10_lostByHole (fun _ z => z.2.1.2.1) dX5_passMinute_111 (Nat.le_of_ble_eq_true rfl) (Nat.le_of_ble_eq_true rfl) rfl (rK_i ?_)
    refine g_isub (pc := 114) dX5_passMinute_114 ?_
    refine pf_X5_22 (pc := 115) rfl dX5_passMinute_115 (Nat.lt_of_lt_of_le (kd_obj h0 (by decide)) hN) h0 (fun m27 e28 => ?_)
    rw [lt_of e28] at h
    refine g_aload_n (pc := 118) dX5_passMinute_118 rfl rfl ?_
    refine g_dup (pc := 119) dX5_passMinute_119 rfl ?_
    refine gf_X5_18 (pc := 120) rfl dX5_passMinute_120 (Nat.lt_of_lt_of_le (kd_obj h0 (by decide)) hN) h0 ?_
    refine g_iconst (pc := 123) (v := (1 : Int32)) dX5_passMinute_123 rfl ?_
    refine g_iadd (pc := 124) dX5_passMinute_124 ?_
    refine pf_X5_18 (pc := 125) rfl dX5_passMinute_125 (Nat.lt_of_lt_of_le (kd_obj h0 (by decide)) hN) h0 (fun m29 e30 => ?_)
    rw [lt_of e30] at h
    cases h
    exact r_vret dX5_passMinute_128 rfl rfl
  · rw [if_pos hc24] at h
    refine g_aload_n (pc := 88) dX5_passMinute_88 rfl rfl ?_
    refine g_dup (pc := 89) dX5_passMinute_89 rfl ?_
    refine gf_X5_28 (pc := 90) rfl dX5_passMinute_90 (Nat.lt_of_lt_of_le (kd_obj h0 (by decide)) hN) h0 ?_
    refine g_iconst (pc := 93) (v := (1 : Int32)) dX5_passMinute_93 rfl ?_
    refine g_iadd (pc := 94) dX5_passMinute_94 ?_
    refine pf_X5_28 (pc := 95) rfl dX5_passMinute_95 (Nat.lt_of_lt_of_le (kd_obj h0 (by decide)) hN) h0 (fun m31 e32 => ?_)
    rw [lt_of e32] at h
    refine g_aload_n (pc := 98) dX5_passMinute_98 rfl rfl ?_
    refine g_dup (pc := 99) dX5_passMinute_99 rfl ?_
    refine gf_X5_22 (pc := 100) rfl dX5_passMinute_100 (Nat.lt_of_lt_of_le (kd_obj h0 (by decide)) hN) h0 ?_
    refine g_aload_n (pc := 103) dX5_passMinute_103 rfl rfl ?_
    refine gf_X5_22 (pc := 104) rfl dX5_passMinute_104 (Nat.lt_of_lt_of_le (kd_obj h0 (by decide)) hN) h0 ?_
    refine g_aload_n (pc := 107) dX5_passMinute_107 rfl rfl ?_
    refine gf_X5_25 (pc := 108) rfl dX5_passMinute_108 (Nat.lt_of_lt_of_le (kd_obj h0 (by decide)) hN) h0 ?_
    obtain ⟨p34, hp33, h⟩ := Option.bind_eq_some_iff.mp h
    refine r_callSN (pc := 111) (c_X10_lostByHole hN (m31 a0 1) (m31 a0 2) m31 hp33) yS_X10_lostByHole pX10_lostByHole (fun _ z => z.2.1.2.1) dX5_passMinute_111 (Nat.le_of_ble_eq_true rfl) (Nat.le_of_ble_eq_true rfl) rfl (rK_i ?_)
    refine g_isub (pc := 114) dX5_passMinute_114 ?_
    refine pf_X5_22 (pc := 115) rfl dX5_passMinute_115 (Nat.lt_of_lt_of_le (kd_obj h0 (by decide)) hN) h0 (fun m35 e36 => ?_)
    rw [lt_of e36] at h
    refine g_aload_n (pc := 118) dX5_passMinute_118 rfl rfl ?_
    refine g_dup (pc := 119) dX5_passMinute_119 rfl ?_
    refine gf_X5_18 (pc := 120) rfl dX5_passMinute_120 (Nat.lt_of_lt_of_le (kd_obj h0 (by decide)) hN) h0 ?_
    refine g_iconst (pc := 123) (v := (1 : Int32)) dX5_passMinute_123 rfl ?_
    refine g_iadd (pc := 124) dX5_passMinute_124 ?_
    refine pf_X5_18 (pc := 125) rfl dX5_passMinute_125 (Nat.lt_of_lt_of_le (kd_obj h0 (by decide)) hN) h0 (fun m37 e38 => ?_)
    rw [lt_of e38] at h
    cases h
    exact r_vret dX5_passMinute_128 rfl rfl

def f_X10_begin (i1 : Int32) (μ : gMem) : Option (Int32 × gMem) :=
  (f_X10_isUnknown i1 μ).bind (fun p2 =>
  if p2.1 = 0 then
  (if inb i1 5 = true then
  if (p2.2 (17 + 1 + i1.toNatClampNeg) 0) = 0 then
  ((f_X4_push 16 p2.2).bind (fun m8 =>
  (f_X8_draw (17 + 1 + i1.toNatClampNeg) (2 + 1 + i1.toNatClampNeg) m8).bind (fun m10 =>
  some ((m10 (17 + 1 + i1.toNatClampNeg) 1), m10))))
else
  (some ((-4 : Int32), p2.2)) else none)
else
  (some ((-2 : Int32), p2.2)))
set_option maxRecDepth 100000 in
set_option maxHeartbeats 4000000 in
theorem c_X10_begin {κ : Nat → Nat} {N : Nat} (hN : 140 ≤ N) (i1 : Int32)  (μ : gMem) {r : Int32} {μ' : gMem} (h : f_X10_begin i1 μ = some (r, μ')) : CT2 κ N 4 yX10_begin iX10_begin [.ref (κ 0 + 0), .int i1] μ (qI r μ') := by
  refine CT2.of (by decide) rfl rfl (Nat.le_of_ble_eq_true rfl) ?_
  unfold f_X10_begin at h
  show RR κ N 4 iX10_begin 0 [(0, .ref (κ 0 + 0)), (1, .int i1)] [] μ _
  refine g_aload_n (pc := 0) dX10_begin_0 rfl rfl ?_
  refine g_iload_n (pc := 1) dX10_begin_1 rfl rfl ?_
  obtain ⟨p2, hp1, h⟩ := Option.bind_eq_some_iff.mp h
  refine r_callV (ci := 9) (pc := 2) (c_X10_isUnknown hN i1 μ hp1) yV_X10_isUnknown ⟨rfl, by decide⟩ pX10_isUnknown mL_X10_124 dX10_begin_2 (Nat.le_of_ble_eq_true rfl) (Nat.le_of_ble_eq_true rfl) (Nat.lt_of_lt_of_le (by decide) hN) kd_0 rfl (rK_z (fun hz3 => ?_))
  refine g_if_eq (pc := 5) 11 dX10_begin_5 (by decide) (fun hc4 => ?_) (fun hc4 => ?_)
  · rw [if_pos hc4] at h
    refine g_aload_n (pc := 11) dX10_begin_11 rfl rfl ?_
    refine gf_X10_33 (pc := 12) rfl dX10_begin_12 (Nat.lt_of_lt_of_le (by decide) hN) kd_0 ?_
    refine gf_X10_148 (pc := 15) rfl dX10_begin_15 (Nat.lt_of_lt_of_le (by decide) hN) kd_16 ?_
    show RR κ N 4 iX10_begin 18 [(0, .ref (κ 0 + 0)), (1, .int i1)] [.ref (κ 0 + 17)] p2.2 _
    refine g_iload_n (pc := 18) dX10_begin_18 rfl rfl ?_
    obtain ⟨hg5, h⟩ := gd_some h
    refine r_aald (pc := 19) 24 5 (17 + 1 + i1.toNatClampNeg) dX10_begin_19 (Nat.lt_of_lt_of_le (by decide) hN) kd_17 (by decide) ln_17 hg5 rfl ?_
    refine gf_X10_152 (pc := 20) rfl dX10_begin_20 (Nat.lt_of_lt_of_le (kd_warr kd_17 (inb_lt hg5)).2 hN) (kd_warr kd_17 (inb_lt hg5)).1 ?_
    refine g_if_eq (pc := 23) 29 dX10_begin_23 (by decide) (fun hc6 => ?_) (fun hc6 => ?_)
    · rw [if_pos hc6] at h
      refine g_aload_n (pc := 29) dX10_begin_29 rfl rfl ?_
      refine gf_X10_40 (pc := 30) rfl dX10_begin_30 (Nat.lt_of_lt_of_le (by decide) hN) kd_0 ?_
      refine g_aload_n (pc := 33) dX10_begin_33 rfl rfl ?_
      refine gf_X10_33 (pc := 34) rfl dX10_begin_34 (Nat.lt_of_lt_of_le (by decide) hN) kd_0 ?_
      obtain ⟨m8, hp7, h⟩ := Option.bind_eq_some_iff.mp h
      refine r_callV (ci := 4) (pc := 37) (c_X4_push hN 16 kd_16 p2.2 hp7) yV_X4_push ⟨rfl, by decide⟩ pX4_push mL_X10_187 dX10_begin_37 (Nat.le_of_ble_eq_true rfl) (Nat.le_of_ble_eq_true rfl) (Nat.lt_of_lt_of_le (by decide) hN) kd_23 rfl (rK_v ?_)
      refine g_aload_n (pc := 40) dX10_begin_40 rfl rfl ?_
      refine gf_X10_33 (pc := 41) rfl dX10_begin_41 (Nat.lt_of_lt_of_le (by decide) hN) kd_0 ?_
      refine gf_X10_148 (pc := 44) rfl dX10_begin_44 (Nat.lt_of_lt_of_le (by decide) hN) kd_16 ?_
      show RR κ N 4 iX10_begin 47 [(0, .ref (κ 0 + 0)), (1, .int i1)] [.ref (κ 0 + 17)] m8 _
      refine g_iload_n (pc := 47) dX10_begin_47 rfl rfl ?_
      refine r_aald (pc := 48) 24 5 (17 + 1 + i1.toNatClampNeg) dX10_begin_48 (Nat.lt_of_lt_of_le (by decide) hN) kd_17 (by decide) ln_17 hg5 rfl ?_
      refine g_aload_n (pc := 49) dX10_begin_49 rfl rfl ?_
      refine gf_X10_10 (pc := 50) rfl dX10_begin_50 (Nat.lt_of_lt_of_le (by decide) hN) kd_0 ?_
      refine gf_X10_127 (pc := 53) rfl dX10_begin_53 (Nat.lt_of_lt_of_le (by decide) hN) kd_1 ?_
      refine g_iload_n (pc := 56) dX10_begin_56 rfl rfl ?_
      refine r_aald (pc := 57) 23 5 (2 + 1 + i1.toNatClampNeg) dX10_begin_57 (Nat.lt_of_lt_of_le (by decide) hN) kd_2 (by decide) ln_2 hg5 rfl ?_
      obtain ⟨m10, hp9, h⟩ := Option.bind_eq_some_iff.mp h
      refine r_callV (ci := 8) (pc := 58) (c_X8_draw hN (17 + 1 + i1.toNatClampNeg) (2 + 1 + i1.toNatClampNeg) ((kd_warr kd_17 (inb_lt hg5)).1) ((kd_sis (inb_lt hg5)).1) m8 hp9) yV_X8_draw ⟨rfl, by decide⟩ pX8_draw mL_X10_191 dX10_begin_58 (Nat.le_of_ble_eq_true rfl) (Nat.le_of_ble_eq_true rfl) (Nat.lt_of_lt_of_le (kd_warr kd_17 (inb_lt hg5)).2 hN) (kd_warr kd_17 (inb_lt hg5)).1 rfl (rK_v ?_)
      refine g_aload_n (pc := 61) dX10_begin_61 rfl rfl ?_
      refine gf_X10_33 (pc := 62) rfl dX10_begin_62 (Nat.lt_of_lt_of_le (by decide) hN) kd_0 ?_
      refine gf_X10_148 (pc := 65) rfl dX10_begin_65 (Nat.lt_of_lt_of_le (by decide) hN) kd_16 ?_
      show RR κ N 4 iX10_begin 68 [(0, .ref (κ 0 + 0)), (1, .int i1)] [.ref (κ 0 + 17)] m10 _
      refine g_iload_n (pc := 68) dX10_begin_68 rfl rfl ?_
      refine r_aald (pc := 69) 24 5 (17 + 1 + i1.toNatClampNeg) dX10_begin_69 (Nat.lt_of_lt_of_le (by decide) hN) kd_17 (by decide) ln_17 hg5 rfl ?_
      refine gf_X10_157 (pc := 70) rfl dX10_begin_70 (Nat.lt_of_lt_of_le (kd_warr kd_17 (inb_lt hg5)).2 hN) (kd_warr kd_17 (inb_lt hg5)).1 ?_
      cases h
      exact r_iret dX10_begin_73 rfl rfl rfl
    · rw [if_neg hc6] at h
      refine g_bipush (pc := 26) (v := (-4 : Int32)) dX10_begin_26 rfl ?_
      cases h
      exact r_iret dX10_begin_28 rfl rfl rfl
  · rw [if_neg hc4] at h
    refine g_bipush (pc := 8) (v := (-2 : Int32)) dX10_begin_8 rfl ?_
    cases h
    exact r_iret dX10_begin_10 rfl rfl rfl

def f_X10_rest (i1 : Int32) (μ : gMem) : Option (Int32 × gMem) :=
  (f_X10_isUnknown i1 μ).bind (fun p2 =>
  if p2.1 = 0 then
  (if inb i1 5 = true then
  if (p2.2 (17 + 1 + i1.toNatClampNeg) 0) = 0 then
  (some ((-4 : Int32), p2.2))
else
  ((f_X4_push 16 p2.2).bind (fun m8 =>
  lt (m8 (17 + 1 + i1.toNatClampNeg) 2) (fun x9 =>
  (f_X8_sitDown (17 + 1 + i1.toNatClampNeg) m8).bind (fun m12 =>
  some (x9, m12))))) else none)
else
  (some ((-2 : Int32), p2.2)))
set_option maxRecDepth 100000 in
set_option maxHeartbeats 4000000 in
theorem c_X10_rest {κ : Nat → Nat} {N : Nat} (hN : 140 ≤ N) (i1 : Int32)  (μ : gMem) {r : Int32} {μ' : gMem} (h : f_X10_rest i1 μ = some (r, μ')) : CT2 κ N 4 yX10_rest iX10_rest [.ref (κ 0 + 0), .int i1] μ (qI r μ') := by
  refine CT2.of (by decide) rfl rfl (Nat.le_of_ble_eq_true rfl) ?_
  unfold f_X10_rest at h
  show RR κ N 4 iX10_rest 0 [(0, .ref (κ 0 + 0)), (1, .int i1)] [] μ _
  refine g_aload_n (pc := 0) dX10_rest_0 rfl rfl ?_
  refine g_iload_n (pc := 1) dX10_rest_1 rfl rfl ?_
  obtain ⟨p2, hp1, h⟩ := Option.bind_eq_some_iff.mp h
  refine r_callV (ci := 9) (pc := 2) (c_X10_isUnknown hN i1 μ hp1) yV_X10_isUnknown ⟨rfl, by decide⟩ pX10_isUnknown mL_X10_124 dX10_rest_2 (Nat.le_of_ble_eq_true rfl) (Nat.le_of_ble_eq_true rfl) (Nat.lt_of_lt_of_le (by decide) hN) kd_0 rfl (rK_z (fun hz3 => ?_))
  refine g_if_eq (pc := 5) 11 dX10_rest_5 (by decide) (fun hc4 => ?_) (fun hc4 => ?_)
  · rw [if_pos hc4] at h
    refine g_aload_n (pc := 11) dX10_rest_11 rfl rfl ?_
    refine gf_X10_33 (pc := 12) rfl dX10_rest_12 (Nat.lt_of_lt_of_le (by decide) hN) kd_0 ?_
    refine gf_X10_148 (pc := 15) rfl dX10_rest_15 (Nat.lt_of_lt_of_le (by decide) hN) kd_16 ?_
    show RR κ N 4 iX10_rest 18 [(0, .ref (κ 0 + 0)), (1, .int i1)] [.ref (κ 0 + 17)] p2.2 _
    refine g_iload_n (pc := 18) dX10_rest_18 rfl rfl ?_
    obtain ⟨hg5, h⟩ := gd_some h
    refine r_aald (pc := 19) 24 5 (17 + 1 + i1.toNatClampNeg) dX10_rest_19 (Nat.lt_of_lt_of_le (by decide) hN) kd_17 (by decide) ln_17 hg5 rfl ?_
    refine gf_X10_152 (pc := 20) rfl dX10_rest_20 (Nat.lt_of_lt_of_le (kd_warr kd_17 (inb_lt hg5)).2 hN) (kd_warr kd_17 (inb_lt hg5)).1 ?_
    refine g_if_ne (pc := 23) 29 dX10_rest_23 (by decide) (fun hc6 => ?_) (fun hc6 => ?_)
    · rw [if_neg hc6] at h
      refine g_aload_n (pc := 29) dX10_rest_29 rfl rfl ?_
      refine gf_X10_40 (pc := 30) rfl dX10_rest_30 (Nat.lt_of_lt_of_le (by decide) hN) kd_0 ?_
      refine g_aload_n (pc := 33) dX10_rest_33 rfl rfl ?_
      refine gf_X10_33 (pc := 34) rfl dX10_rest_34 (Nat.lt_of_lt_of_le (by decide) hN) kd_0 ?_
      obtain ⟨m8, hp7, h⟩ := Option.bind_eq_some_iff.mp h
      refine r_callV (ci := 4) (pc := 37) (c_X4_push hN 16 kd_16 p2.2 hp7) yV_X4_push ⟨rfl, by decide⟩ pX4_push mL_X10_187 dX10_rest_37 (Nat.le_of_ble_eq_true rfl) (Nat.le_of_ble_eq_true rfl) (Nat.lt_of_lt_of_le (by decide) hN) kd_23 rfl (rK_v ?_)
      refine g_aload_n (pc := 40) dX10_rest_40 rfl rfl ?_
      refine gf_X10_33 (pc := 41) rfl dX10_rest_41 (Nat.lt_of_lt_of_le (by decide) hN) kd_0 ?_
      refine gf_X10_148 (pc := 44) rfl dX10_rest_44 (Nat.lt_of_lt_of_le (by decide) hN) kd_16 ?_
      show RR κ N 4 iX10_rest 47 [(0, .ref (κ 0 + 0)), (1, .int i1)] [.ref (κ 0 + 17)] m8 _
      refine g_iload_n (pc := 47) dX10_rest_47 rfl rfl ?_
      refine r_aald (pc := 48) 24 5 (17 + 1 + i1.toNatClampNeg) dX10_rest_48 (Nat.lt_of_lt_of_le (by decide) hN) kd_17 (by decide) ln_17 hg5 rfl ?_
      refine gf_X10_160 (pc := 49) rfl dX10_rest_49 (Nat.lt_of_lt_of_le (kd_warr kd_17 (inb_lt hg5)).2 hN) (kd_warr kd_17 (inb_lt hg5)).1 ?_
      refine g_istore_n (pc := 52) (lv' := fun y => [(0, .ref (κ 0 + 0)), (1, .int i1), (2, .int y)]) dX10_rest_52 rfl (Nat.le_of_ble_eq_true rfl) (fun _ => rfl) (fun x9 e10 => ?_)
      rw [lt_of e10] at h
      refine g_aload_n (pc := 53) dX10_rest_53 rfl rfl ?_
      refine gf_X10_33 (pc := 54) rfl dX10_rest_54 (Nat.lt_of_lt_of_le (by decide) hN) kd_0 ?_
      refine gf_X10_148 (pc := 57) rfl dX10_rest_57 (Nat.lt_of_lt_of_le (by decide) hN) kd_16 ?_
      show RR κ N 4 iX10_rest 60 [(0, .ref (κ 0 + 0)), (1, .int i1), (2, .int x9)] [.ref (κ 0 + 17)] m8 _
      refine g_iload_n (pc := 60) dX10_rest_60 rfl rfl ?_
      refine r_aald (pc := 61) 24 5 (17 + 1 + i1.toNatClampNeg) dX10_rest_61 (Nat.lt_of_lt_of_le (by decide) hN) kd_17 (by decide) ln_17 hg5 rfl ?_
      obtain ⟨m12, hp11, h⟩ := Option.bind_eq_some_iff.mp h
      refine r_callV (ci := 8) (pc := 62) (c_X8_sitDown hN (17 + 1 + i1.toNatClampNeg) ((kd_warr kd_17 (inb_lt hg5)).1) m8 hp11) yV_X8_sitDown ⟨rfl, by decide⟩ pX8_sitDown mL_X10_195 dX10_rest_62 (Nat.le_of_ble_eq_true rfl) (Nat.le_of_ble_eq_true rfl) (Nat.lt_of_lt_of_le (kd_warr kd_17 (inb_lt hg5)).2 hN) (kd_warr kd_17 (inb_lt hg5)).1 rfl (rK_v ?_)
      refine g_iload_n (pc := 65) dX10_rest_65 rfl rfl ?_
      cases h
      exact r_iret dX10_rest_66 rfl rfl rfl
    · rw [if_pos hc6] at h
      refine g_bipush (pc := 26) (v := (-4 : Int32)) dX10_rest_26 rfl ?_
      cases h
      exact r_iret dX10_rest_28 rfl rfl rfl
  · rw [if_neg hc4] at h
    refine g_bipush (pc := 8) (v := (-2 : Int32)) dX10_rest_8 rfl ?_
    cases h
    exact r_iret dX10_rest_10 rfl rfl rfl

def f_X10_moss (i1 : Int32) (μ : gMem) : Option (Int32 × gMem) :=
  (f_X10_isUnknown i1 μ).bind (fun p2 =>
  if p2.1 = 0 then
  (if inb i1 5 = true then
  if (p2.2 (17 + 1 + i1.toNatClampNeg) 4) ≤ 0 then
  ((f_X4_push 16 p2.2).bind (fun m8 =>
  lt (st m8 (17 + 1 + i1.toNatClampNeg) 4 (30 : Int32)) (fun m9 =>
  some ((30 : Int32), m9))))
else
  (some ((-4 : Int32), p2.2)) else none)
else
  (some ((-2 : Int32), p2.2)))
set_option maxRecDepth 100000 in
set_option maxHeartbeats 4000000 in
theorem c_X10_moss {κ : Nat → Nat} {N : Nat} (hN : 140 ≤ N) (i1 : Int32)  (μ : gMem) {r : Int32} {μ' : gMem} (h : f_X10_moss i1 μ = some (r, μ')) : CT2 κ N 4 yX10_moss iX10_moss [.ref (κ 0 + 0), .int i1] μ (qI r μ') := by
  refine CT2.of (by decide) rfl rfl (Nat.le_of_ble_eq_true rfl) ?_
  unfold f_X10_moss at h
  show RR κ N 4 iX10_moss 0 [(0, .ref (κ 0 + 0)), (1, .int i1)] [] μ _
  refine g_aload_n (pc := 0) dX10_moss_0 rfl rfl ?_
  refine g_iload_n (pc := 1) dX10_moss_1 rfl rfl ?_
  obtain ⟨p2, hp1, h⟩ := Option.bind_eq_some_iff.mp h
  refine r_callV (ci := 9) (pc := 2) (c_X10_isUnknown hN i1 μ hp1) yV_X10_isUnknown ⟨rfl, by decide⟩ pX10_isUnknown mL_X10_124 dX10_moss_2 (Nat.le_of_ble_eq_true rfl) (Nat.le_of_ble_eq_true rfl) (Nat.lt_of_lt_of_le (by decide) hN) kd_0 rfl (rK_z (fun hz3 => ?_))
  refine g_if_eq (pc := 5) 11 dX10_moss_5 (by decide) (fun hc4 => ?_) (fun hc4 => ?_)
  · rw [if_pos hc4] at h
    refine g_aload_n (pc := 11) dX10_moss_11 rfl rfl ?_
    refine gf_X10_33 (pc := 12) rfl dX10_moss_12 (Nat.lt_of_lt_of_le (by decide) hN) kd_0 ?_
    refine gf_X10_148 (pc := 15) rfl dX10_moss_15 (Nat.lt_of_lt_of_le (by decide) hN) kd_16 ?_
    show RR κ N 4 iX10_moss 18 [(0, .ref (κ 0 + 0)), (1, .int i1)] [.ref (κ 0 + 17)] p2.2 _
    refine g_iload_n (pc := 18) dX10_moss_18 rfl rfl ?_
    obtain ⟨hg5, h⟩ := gd_some h
    refine r_aald (pc := 19) 24 5 (17 + 1 + i1.toNatClampNeg) dX10_moss_19 (Nat.lt_of_lt_of_le (by decide) hN) kd_17 (by decide) ln_17 hg5 rfl ?_
    refine gf_X10_166 (pc := 20) rfl dX10_moss_20 (Nat.lt_of_lt_of_le (kd_warr kd_17 (inb_lt hg5)).2 hN) (kd_warr kd_17 (inb_lt hg5)).1 ?_
    refine g_if_le (pc := 23) 29 dX10_moss_23 (by decide) (fun hc6 => ?_) (fun hc6 => ?_)
    · rw [if_pos hc6] at h
      refine g_aload_n (pc := 29) dX10_moss_29 rfl rfl ?_
      refine gf_X10_40 (pc := 30) rfl dX10_moss_30 (Nat.lt_of_lt_of_le (by decide) hN) kd_0 ?_
      refine g_aload_n (pc := 33) dX10_moss_33 rfl rfl ?_
      refine gf_X10_33 (pc := 34) rfl dX10_moss_34 (Nat.lt_of_lt_of_le (by decide) hN) kd_0 ?_
      obtain ⟨m8, hp7, h⟩ := Option.bind_eq_some_iff.mp h
      refine r_callV (ci := 4) (pc := 37) (c_X4_push hN 16 kd_16 p2.2 hp7) yV_X4_push ⟨rfl, by decide⟩ pX4_push mL_X10_187 dX10_moss_37 (Nat.le_of_ble_eq_true rfl) (Nat.le_of_ble_eq_true rfl) (Nat.lt_of_lt_of_le (by decide) hN) kd_23 rfl (rK_v ?_)
      refine g_aload_n (pc := 40) dX10_moss_40 rfl rfl ?_
      refine gf_X10_33 (pc := 41) rfl dX10_moss_41 (Nat.lt_of_lt_of_le (by decide) hN) kd_0 ?_
      refine gf_X10_148 (pc := 44) rfl dX10_moss_44 (Nat.lt_of_lt_of_le (by decide) hN) kd_16 ?_
      show RR κ N 4 iX10_moss 47 [(0, .ref (κ 0 + 0)), (1, .int i1)] [.ref (κ 0 + 17)] m8 _
      refine g_iload_n (pc := 47) dX10_moss_47 rfl rfl ?_
      refine r_aald (pc := 48) 24 5 (17 + 1 + i1.toNatClampNeg) dX10_moss_48 (Nat.lt_of_lt_of_le (by decide) hN) kd_17 (by decide) ln_17 hg5 rfl ?_
      refine g_bipush (pc := 49) (v := (30 : Int32)) dX10_moss_49 rfl ?_
      refine pf_X10_166 (pc := 51) rfl dX10_moss_51 (Nat.lt_of_lt_of_le (kd_warr kd_17 (inb_lt hg5)).2 hN) (kd_warr kd_17 (inb_lt hg5)).1 (fun m9 e10 => ?_)
      rw [lt_of e10] at h
      refine g_bipush (pc := 54) (v := (30 : Int32)) dX10_moss_54 rfl ?_
      cases h
      exact r_iret dX10_moss_56 rfl rfl rfl
    · rw [if_neg hc6] at h
      refine g_bipush (pc := 26) (v := (-4 : Int32)) dX10_moss_26 rfl ?_
      cases h
      exact r_iret dX10_moss_28 rfl rfl rfl
  · rw [if_neg hc4] at h
    refine g_bipush (pc := 8) (v := (-2 : Int32)) dX10_moss_8 rfl ?_
    cases h
    exact r_iret dX10_moss_10 rfl rfl rfl

def f_X10_smear (i1 : Int32) (μ : gMem) : Option (Int32 × gMem) :=
  (f_X10_isOutside i1 (1 : Int32) (9 : Int32) μ).bind (fun p2 =>
  if p2.1 = 0 then
  (if (p2.2 16 2) = 0 then
  (some ((-4 : Int32), p2.2))
else
  ((f_X4_push 16 p2.2).bind (fun m7 =>
  lt (st m7 16 2 (if (0 : Int32) < ((m7 16 2) - i1) then ((m7 16 2) - i1) else (0 : Int32))) (fun m8 =>
  some ((m8 16 2), m8)))))
else
  (some ((-3 : Int32), p2.2)))
set_option maxRecDepth 100000 in
set_option maxHeartbeats 4000000 in
theorem c_X10_smear {κ : Nat → Nat} {N : Nat} (hN : 140 ≤ N) (i1 : Int32)  (μ : gMem) {r : Int32} {μ' : gMem} (h : f_X10_smear i1 μ = some (r, μ')) : CT2 κ N 4 yX10_smear iX10_smear [.ref (κ 0 + 0), .int i1] μ (qI r μ') := by
  refine CT2.of (by decide) rfl rfl (Nat.le_of_ble_eq_true rfl) ?_
  unfold f_X10_smear at h
  show RR κ N 4 iX10_smear 0 [(0, .ref (κ 0 + 0)), (1, .int i1)] [] μ _
  refine g_iload_n (pc := 0) dX10_smear_0 rfl rfl ?_
  refine g_iconst (pc := 1) (v := (1 : Int32)) dX10_smear_1 rfl ?_
  refine g_bipush (pc := 2) (v := (9 : Int32)) dX10_smear_2 rfl ?_
  obtain ⟨p2, hp1, h⟩ := Option.bind_eq_some_iff.mp h
  refine r_callS (pc := 4) (c_X10_isOutside hN i1 (1 : Int32) (9 : Int32) μ hp1) yS_X10_isOutside pX10_isOutside mL_X10_83 dX10_smear_4 (Nat.le_of_ble_eq_true rfl) (Nat.le_of_ble_eq_true rfl) rfl (rK_z (fun hz3 => ?_))
  refine g_if_eq (pc := 7) 13 dX10_smear_7 (by decide) (fun hc4 => ?_) (fun hc4 => ?_)
  · rw [if_pos hc4] at h
    refine g_aload_n (pc := 13) dX10_smear_13 rfl rfl ?_
    refine gf_X10_33 (pc := 14) rfl dX10_smear_14 (Nat.lt_of_lt_of_le (by decide) hN) kd_0 ?_
    refine gf_X10_198 (pc := 17) rfl dX10_smear_17 (Nat.lt_of_lt_of_le (by decide) hN) kd_16 ?_
    refine g_if_ne (pc := 20) 26 dX10_smear_20 (by decide) (fun hc5 => ?_) (fun hc5 => ?_)
    · rw [if_neg hc5] at h
      refine g_aload_n (pc := 26) dX10_smear_26 rfl rfl ?_
      refine gf_X10_40 (pc := 27) rfl dX10_smear_27 (Nat.lt_of_lt_of_le (by decide) hN) kd_0 ?_
      refine g_aload_n (pc := 30) dX10_smear_30 rfl rfl ?_
      refine gf_X10_33 (pc := 31) rfl dX10_smear_31 (Nat.lt_of_lt_of_le (by decide) hN) kd_0 ?_
      obtain ⟨m7, hp6, h⟩ := Option.bind_eq_some_iff.mp h
      refine r_callV (ci := 4) (pc := 34) (c_X4_push hN 16 kd_16 p2.2 hp6) yV_X4_push ⟨rfl, by decide⟩ pX4_push mL_X10_187 dX10_smear_34 (Nat.le_of_ble_eq_true rfl) (Nat.le_of_ble_eq_true rfl) (Nat.lt_of_lt_of_le (by decide) hN) kd_23 rfl (rK_v ?_)
      refine g_aload_n (pc := 37) dX10_smear_37 rfl rfl ?_
      refine gf_X10_33 (pc := 38) rfl dX10_smear_38 (Nat.lt_of_lt_of_le (by decide) hN) kd_0 ?_
      refine g_iconst (pc := 41) (v := (0 : Int32)) dX10_smear_41 rfl ?_
      refine g_aload_n (pc := 42) dX10_smear_42 rfl rfl ?_
      refine gf_X10_33 (pc := 43) rfl dX10_smear_43 (Nat.lt_of_lt_of_le (by decide) hN) kd_0 ?_
      refine gf_X10_198 (pc := 46) rfl dX10_smear_46 (Nat.lt_of_lt_of_le (by decide) hN) kd_16 ?_
      refine g_iload_n (pc := 49) dX10_smear_49 rfl rfl ?_
      refine g_isub (pc := 50) dX10_smear_50 ?_
      refine g_mmax (pc := 51) dX10_smear_51 mL_X10_199 mMax (Nat.le_of_ble_eq_true rfl) (by decide) ?_
      refine pf_X10_198 (pc := 54) rfl dX10_smear_54 (Nat.lt_of_lt_of_le (by decide) hN) kd_16 (fun m8 e9 => ?_)
      rw [lt_of e9] at h
      refine g_aload_n (pc := 57) dX10_smear_57 rfl rfl ?_
      refine gf_X10_33 (pc := 58) rfl dX10_smear_58 (Nat.lt_of_lt_of_le (by decide) hN) kd_0 ?_
      refine gf_X10_198 (pc := 61) rfl dX10_smear_61 (Nat.lt_of_lt_of_le (by decide) hN) kd_16 ?_
      cases h
      exact r_iret dX10_smear_64 rfl rfl rfl
    · rw [if_pos hc5] at h
      refine g_bipush (pc := 23) (v := (-4 : Int32)) dX10_smear_23 rfl ?_
      cases h
      exact r_iret dX10_smear_25 rfl rfl rfl
  · rw [if_neg hc4] at h
    refine g_bipush (pc := 10) (v := (-3 : Int32)) dX10_smear_10 rfl ?_
    cases h
    exact r_iret dX10_smear_12 rfl rfl rfl

def l_X10_go_44 (i1 : Int32) : Nat → Int32 → gMem → Option (Int32 × gMem)
  | 0, _, _ => none
  | n + 1, i2, μ =>
  if i1 ≤ i2 then
  (some (i2, μ))
else
  ((f_X5_passMinute 16 μ).bind (fun m12 =>
  lt (i2 + Int32.ofInt 1) (fun x13 =>
  l_X10_go_44 i1 n x13 m12)))
def f_X10_go (i1 : Int32) (μ : gMem) : Option (Int32 × gMem) :=
  (f_X10_isOutside i1 (1 : Int32) (99 : Int32) μ).bind (fun p2 =>
  if p2.1 = 0 then
  (if ((p2.2 16 0) + i1) ≤ (999 : Int32) then
  ((f_X4_push 16 p2.2).bind (fun m7 =>
  (l_X10_go_44 i1 gF (0 : Int32) m7).bind (fun p15 =>
  some ((p15.2 16 1), p15.2))))
else
  (some ((-5 : Int32), p2.2)))
else
  (some ((-3 : Int32), p2.2)))
set_option maxRecDepth 100000 in
set_option maxHeartbeats 4000000 in
theorem cl_X10_go_44 {κ : Nat → Nat} {N : Nat} {Q : rQ} (hN : 140 ≤ N) (i1 : Int32)  : ∀ (n : Nat) (i2 : Int32) (μ : gMem) (p : Int32 × gMem), l_X10_go_44 i1 n i2 μ = some p → RR κ N 6 iX10_go 66 [(0, .ref (κ 0 + 0)), (1, .int i1), (2, .int p.1)] [] p.2 Q → RR κ N 6 iX10_go 44 [(0, .ref (κ 0 + 0)), (1, .int i1), (2, .int i2)] [] μ Q := by
  intro n
  induction n with
  | zero =>
    intro i2 μ p h k
    unfold l_X10_go_44 at h
    cases h
  | succ n ih =>
    intro i2 μ p h k
    unfold l_X10_go_44 at h
    refine g_iload_n (pc := 44) dX10_go_44 rfl rfl ?_
    refine g_iload_n (pc := 45) dX10_go_45 rfl rfl ?_
    refine g_icmp_ge (pc := 46) 66 dX10_go_46 (by decide) (fun hc10 => ?_) (fun hc10 => ?_)
    · rw [if_pos hc10] at h
      cases h
      exact k
    · rw [if_neg hc10] at h
      refine g_aload_n (pc := 49) dX10_go_49 rfl rfl ?_
      refine gf_X10_33 (pc := 50) rfl dX10_go_50 (Nat.lt_of_lt_of_le (by decide) hN) kd_0 ?_
      refine g_aload_n (pc := 53) dX10_go_53 rfl rfl ?_
      refine gf_X10_10 (pc := 54) rfl dX10_go_54 (Nat.lt_of_lt_of_le (by decide) hN) kd_0 ?_
      obtain ⟨m12, hp11, h⟩ := Option.bind_eq_some_iff.mp h
      refine r_callV (ci := 5) (pc := 57) (c_X5_passMinute hN 16 kd_16 μ hp11) yV_X5_passMinute ⟨rfl, by decide⟩ pX5_passMinute mL_X10_208 dX10_go_57 (Nat.le_of_ble_eq_true rfl) (Nat.le_of_ble_eq_true rfl) (Nat.lt_of_lt_of_le (by decide) hN) kd_16 rfl (rK_v ?_)
      refine g_iinc (pc := 60) (lv' := fun y => [(0, .ref (κ 0 + 0)), (1, .int i1), (2, .int y)]) dX10_go_60 rfl (Nat.le_of_ble_eq_true rfl) (fun _ => rfl) (fun x13 e14 => ?_)
      rw [lt_of e14] at h
      refine g_goto (pc := 63) 44 dX10_go_63 (by decide) ?_
      refine g_lv (lv' := [(0, .ref (κ 0 + 0)), (1, .int i1), (2, .int x13)]) rfl ?_
      exact ih _ _ _ h k
set_option maxRecDepth 100000 in
set_option maxHeartbeats 4000000 in
theorem c_X10_go {κ : Nat → Nat} {N : Nat} (hN : 140 ≤ N) (i1 : Int32)  (μ : gMem) {r : Int32} {μ' : gMem} (h : f_X10_go i1 μ = some (r, μ')) : CT2 κ N 6 yX10_go iX10_go [.ref (κ 0 + 0), .int i1] μ (qI r μ') := by
  refine CT2.of (by decide) rfl rfl (Nat.le_of_ble_eq_true rfl) ?_
  unfold f_X10_go at h
  show RR κ N 6 iX10_go 0 [(0, .ref (κ 0 + 0)), (1, .int i1)] [] μ _
  refine g_iload_n (pc := 0) dX10_go_0 rfl rfl ?_
  refine g_iconst (pc := 1) (v := (1 : Int32)) dX10_go_1 rfl ?_
  refine g_bipush (pc := 2) (v := (99 : Int32)) dX10_go_2 rfl ?_
  obtain ⟨p2, hp1, h⟩ := Option.bind_eq_some_iff.mp h
  refine r_callS (pc := 4) (c_X10_isOutside hN i1 (1 : Int32) (99 : Int32) μ hp1) yS_X10_isOutside pX10_isOutside mL_X10_83 dX10_go_4 (Nat.le_of_ble_eq_true rfl) (Nat.le_of_ble_eq_true rfl) rfl (rK_z (fun hz3 => ?_))
  refine g_if_eq (pc := 7) 13 dX10_go_7 (by decide) (fun hc4 => ?_) (fun hc4 => ?_)
  · rw [if_pos hc4] at h
    refine g_aload_n (pc := 13) dX10_go_13 rfl rfl ?_
    refine gf_X10_33 (pc := 14) rfl dX10_go_14 (Nat.lt_of_lt_of_le (by decide) hN) kd_0 ?_
    refine gf_X10_205 (pc := 17) rfl dX10_go_17 (Nat.lt_of_lt_of_le (by decide) hN) kd_16 ?_
    refine g_iload_n (pc := 20) dX10_go_20 rfl rfl ?_
    refine g_iadd (pc := 21) dX10_go_21 ?_
    refine g_sipush (pc := 22) (v := (999 : Int32)) dX10_go_22 rfl ?_
    refine g_icmp_le (pc := 25) 31 dX10_go_25 (by decide) (fun hc5 => ?_) (fun hc5 => ?_)
    · rw [if_pos hc5] at h
      refine g_aload_n (pc := 31) dX10_go_31 rfl rfl ?_
      refine gf_X10_40 (pc := 32) rfl dX10_go_32 (Nat.lt_of_lt_of_le (by decide) hN) kd_0 ?_
      refine g_aload_n (pc := 35) dX10_go_35 rfl rfl ?_
      refine gf_X10_33 (pc := 36) rfl dX10_go_36 (Nat.lt_of_lt_of_le (by decide) hN) kd_0 ?_
      obtain ⟨m7, hp6, h⟩ := Option.bind_eq_some_iff.mp h
      refine r_callV (ci := 4) (pc := 39) (c_X4_push hN 16 kd_16 p2.2 hp6) yV_X4_push ⟨rfl, by decide⟩ pX4_push mL_X10_187 dX10_go_39 (Nat.le_of_ble_eq_true rfl) (Nat.le_of_ble_eq_true rfl) (Nat.lt_of_lt_of_le (by decide) hN) kd_23 rfl (rK_v ?_)
      refine g_iconst (pc := 42) (v := (0 : Int32)) dX10_go_42 rfl ?_
      refine g_istore_n (pc := 43) (lv' := fun y => [(0, .ref (κ 0 + 0)), (1, .int i1), (2, .int y)]) dX10_go_43 rfl (Nat.le_of_ble_eq_true rfl) (fun _ => rfl) (fun y8 e9 => ?_)
      rw [e9]
      obtain ⟨p15, hp16, h⟩ := Option.bind_eq_some_iff.mp h
      refine cl_X10_go_44 hN i1  gF (0 : Int32) _ _ hp16 ?_
      refine g_aload_n (pc := 66) dX10_go_66 rfl rfl ?_
      refine gf_X10_33 (pc := 67) rfl dX10_go_67 (Nat.lt_of_lt_of_le (by decide) hN) kd_0 ?_
      refine gf_X10_211 (pc := 70) rfl dX10_go_70 (Nat.lt_of_lt_of_le (by decide) hN) kd_16 ?_
      cases h
      exact r_iret dX10_go_73 rfl rfl rfl
    · rw [if_neg hc5] at h
      refine g_bipush (pc := 28) (v := (-5 : Int32)) dX10_go_28 rfl ?_
      cases h
      exact r_iret dX10_go_30 rfl rfl rfl
  · rw [if_neg hc4] at h
    refine g_bipush (pc := 10) (v := (-3 : Int32)) dX10_go_10 rfl ?_
    cases h
    exact r_iret dX10_go_12 rfl rfl rfl

def f_X10_undo  (μ : gMem) : Option (Int32 × gMem) :=
  (f_X4_pop 16 μ).bind (fun p2 =>
  lt (if p2.1 = 0 then (-4 : Int32) else (p2.2 23 2)) (fun x4 =>
  some (x4, p2.2)))
set_option maxRecDepth 100000 in
set_option maxHeartbeats 4000000 in
theorem c_X10_undo {κ : Nat → Nat} {N : Nat} (hN : 140 ≤ N)   (μ : gMem) {r : Int32} {μ' : gMem} (h : f_X10_undo  μ = some (r, μ')) : CT2 κ N 4 yX10_undo iX10_undo [.ref (κ 0 + 0)] μ (qI r μ') := by
  refine CT2.of (by decide) rfl rfl (Nat.le_of_ble_eq_true rfl) ?_
  unfold f_X10_undo at h
  show RR κ N 4 iX10_undo 0 [(0, .ref (κ 0 + 0))] [] μ _
  refine g_aload_n (pc := 0) dX10_undo_0 rfl rfl ?_
  refine gf_X10_40 (pc := 1) rfl dX10_undo_1 (Nat.lt_of_lt_of_le (by decide) hN) kd_0 ?_
  refine g_aload_n (pc := 4) dX10_undo_4 rfl rfl ?_
  refine gf_X10_33 (pc := 5) rfl dX10_undo_5 (Nat.lt_of_lt_of_le (by decide) hN) kd_0 ?_
  obtain ⟨p2, hp1, h⟩ := Option.bind_eq_some_iff.mp h
  refine r_callV (ci := 4) (pc := 8) (c_X4_pop hN 16 kd_16 μ hp1) yV_X4_pop ⟨rfl, by decide⟩ pX4_pop mL_X10_214 dX10_undo_8 (Nat.le_of_ble_eq_true rfl) (Nat.le_of_ble_eq_true rfl) (Nat.lt_of_lt_of_le (by decide) hN) kd_23 rfl (rK_z (fun hz3 => ?_))
  have key6 : ∀ x4 : Int32, x4 = (if p2.1 = 0 then (-4 : Int32) else (p2.2 23 2)) → RR κ N 4 iX10_undo 26 [(0, .ref (κ 0 + 0))] [.int x4] p2.2 (qI r μ') := by
    intro x4 e5
    rw [lt_of e5] at h
    cases h
    exact r_iret dX10_undo_26 rfl rfl rfl
  refine g_if_eq (pc := 11) 24 dX10_undo_11 (by decide) (fun hc7 => ?_) (fun hc7 => ?_)
  · refine g_bipush (pc := 24) (v := (-4 : Int32)) dX10_undo_24 rfl ?_
    exact key6 _ (by rw [if_pos hc7])
  · refine g_aload_n (pc := 14) dX10_undo_14 rfl rfl ?_
    refine gf_X10_40 (pc := 15) rfl dX10_undo_15 (Nat.lt_of_lt_of_le (by decide) hN) kd_0 ?_
    refine gf_X10_118 (pc := 18) rfl dX10_undo_18 (Nat.lt_of_lt_of_le (by decide) hN) kd_23 ?_
    refine g_goto (pc := 21) 26 dX10_undo_21 (by decide) ?_
    exact key6 _ (by rw [if_neg hc7])

def l_X0_read_14 (i2 : Int32) : Nat → gMem → Option (Int32 × gMem)
  | 0, _ => none
  | n + 1, μ =>
  if (14 : Int32) ≤ (μ 10 5) then
  (some ((μ 8 3), μ))
else
  ((f_X0_readClause  μ).bind (fun p9 =>
  if p9.1 = 0 then
  (some ((p9.2 8 3), p9.2))
else
  (lt (st p9.2 10 5 ((p9.2 10 5) + (1 : Int32))) (fun m12 =>
  (f_X3_readToken  m12).bind (fun m15 =>
  if (m15 8 2) = 0 then
  (some ((-1 : Int32), m15))
else
  ((f_X3_isSemicolon  m15).bind (fun p18 =>
  if p18.1 = 0 then
  (some ((p18.2 8 3), p18.2))
else
  (l_X0_read_14 i2 n  p18.2))))))))
def f_X0_read (i2 : Int32) (μ : gMem) : Option (Int32 × gMem) :=
  lt (st μ 10 6 i2) (fun m1 =>
  lt (st m1 10 5 (0 : Int32)) (fun m3 =>
  (f_X3_readFromStart  m3).bind (fun m6 =>
  l_X0_read_14 i2 gF  m6)))
set_option maxRecDepth 100000 in
set_option maxHeartbeats 4000000 in
theorem cl_X0_read_14 {κ : Nat → Nat} {N : Nat} {r : Int32} {μ' : gMem} (hN : 140 ≤ N) (i2 : Int32)  : ∀ (n : Nat)  (μ : gMem), l_X0_read_14 i2 n  μ = some (r, μ') → RR κ N 8 iX0_read 14 [(0, .ref (κ 0 + 10)), (1, .ref (κ 0 + 8)), (2, .int i2)] [] μ (qI r μ') := by
  intro n
  induction n with
  | zero =>
    intro  μ h
    unfold l_X0_read_14 at h
    cases h
  | succ n ih =>
    intro  μ h
    unfold l_X0_read_14 at h
    refine g_aload_n (pc := 14) dX0_read_14 rfl rfl ?_
    refine gf_X0_38 (pc := 15) rfl dX0_read_15 (Nat.lt_of_lt_of_le (by decide) hN) kd_10 ?_
    refine g_bipush (pc := 18) (v := (14 : Int32)) dX0_read_18 rfl ?_
    refine g_icmp_ge (pc := 20) 71 dX0_read_20 (by decide) (fun hc7 => ?_) (fun hc7 => ?_)
    · rw [if_pos hc7] at h
      refine g_aload_n (pc := 71) dX0_read_71 rfl rfl ?_
      refine gf_X0_50 (pc := 72) rfl dX0_read_72 (Nat.lt_of_lt_of_le (by decide) hN) kd_8 ?_
      cases h
      exact r_iret dX0_read_75 rfl rfl rfl
    · rw [if_neg hc7] at h
      refine g_aload_n (pc := 23) dX0_read_23 rfl rfl ?_
      refine g_aload_n (pc := 24) dX0_read_24 rfl rfl ?_
      obtain ⟨p9, hp8, h⟩ := Option.bind_eq_some_iff.mp h
      refine r_callV (ci := 0) (pc := 25) (c_X0_readClause hN  μ hp8) yV_X0_readClause ⟨rfl, by decide⟩ pX0_readClause mL_X0_46 dX0_read_25 (Nat.le_of_ble_eq_true rfl) (Nat.le_of_ble_eq_true rfl) (Nat.lt_of_lt_of_le (by decide) hN) kd_10 rfl (rK_z (fun hz10 => ?_))
      refine g_if_ne (pc := 28) 36 dX0_read_28 (by decide) (fun hc11 => ?_) (fun hc11 => ?_)
      · rw [if_neg hc11] at h
        refine g_aload_n (pc := 36) dX0_read_36 rfl rfl ?_
        refine g_dup (pc := 37) dX0_read_37 rfl ?_
        refine gf_X0_38 (pc := 38) rfl dX0_read_38 (Nat.lt_of_lt_of_le (by decide) hN) kd_10 ?_
        refine g_iconst (pc := 41) (v := (1 : Int32)) dX0_read_41 rfl ?_
        refine g_iadd (pc := 42) dX0_read_42 ?_
        refine pf_X0_38 (pc := 43) rfl dX0_read_43 (Nat.lt_of_lt_of_le (by decide) hN) kd_10 (fun m12 e13 => ?_)
        rw [lt_of e13] at h
        refine g_aload_n (pc := 46) dX0_read_46 rfl rfl ?_
        obtain ⟨m15, hp14, h⟩ := Option.bind_eq_some_iff.mp h
        refine r_callV (ci := 3) (pc := 47) (c_X3_readToken hN  m12 hp14) yV_X3_readToken ⟨rfl, by decide⟩ pX3_readToken mL_X0_53 dX0_read_47 (Nat.le_of_ble_eq_true rfl) (Nat.le_of_ble_eq_true rfl) (Nat.lt_of_lt_of_le (by decide) hN) kd_8 rfl (rK_v ?_)
        refine g_aload_n (pc := 50) dX0_read_50 rfl rfl ?_
        refine gf_X0_56 (pc := 51) rfl dX0_read_51 (Nat.lt_of_lt_of_le (by decide) hN) kd_8 ?_
        refine g_if_ne (pc := 54) 59 dX0_read_54 (by decide) (fun hc16 => ?_) (fun hc16 => ?_)
        · rw [if_neg hc16] at h
          refine g_aload_n (pc := 59) dX0_read_59 rfl rfl ?_
          obtain ⟨p18, hp17, h⟩ := Option.bind_eq_some_iff.mp h
          refine r_callV (ci := 3) (pc := 60) (c_X3_isSemicolon hN  m15 hp17) yV_X3_isSemicolon ⟨rfl, by decide⟩ pX3_isSemicolon mL_X0_59 dX0_read_60 (Nat.le_of_ble_eq_true rfl) (Nat.le_of_ble_eq_true rfl) (Nat.lt_of_lt_of_le (by decide) hN) kd_8 rfl (rK_z (fun hz19 => ?_))
          refine g_if_ne (pc := 63) 14 dX0_read_63 (by decide) (fun hc20 => ?_) (fun hc20 => ?_)
          · rw [if_neg hc20] at h
            refine g_lv (lv' := [(0, .ref (κ 0 + 10)), (1, .ref (κ 0 + 8)), (2, .int i2)]) rfl ?_
            exact ih  _ h
          · rw [if_pos hc20] at h
            refine g_aload_n (pc := 66) dX0_read_66 rfl rfl ?_
            refine gf_X0_50 (pc := 67) rfl dX0_read_67 (Nat.lt_of_lt_of_le (by decide) hN) kd_8 ?_
            cases h
            exact r_iret dX0_read_70 rfl rfl rfl
        · rw [if_pos hc16] at h
          refine g_iconst (pc := 57) (v := (-1 : Int32)) dX0_read_57 rfl ?_
          cases h
          exact r_iret dX0_read_58 rfl rfl rfl
      · rw [if_pos hc11] at h
        refine g_aload_n (pc := 31) dX0_read_31 rfl rfl ?_
        refine gf_X0_50 (pc := 32) rfl dX0_read_32 (Nat.lt_of_lt_of_le (by decide) hN) kd_8 ?_
        cases h
        exact r_iret dX0_read_35 rfl rfl rfl
set_option maxRecDepth 100000 in
set_option maxHeartbeats 4000000 in
theorem c_X0_read {κ : Nat → Nat} {N : Nat} (hN : 140 ≤ N) (i2 : Int32)  (μ : gMem) {r : Int32} {μ' : gMem} (h : f_X0_read i2 μ = some (r, μ')) : CT2 κ N 8 yX0_read iX0_read [.ref (κ 0 + 10), .ref (κ 0 + 8), .int i2] μ (qI r μ') := by
  refine CT2.of (by decide) rfl rfl (Nat.le_of_ble_eq_true rfl) ?_
  unfold f_X0_read at h
  show RR κ N 8 iX0_read 0 [(0, .ref (κ 0 + 10)), (1, .ref (κ 0 + 8)), (2, .int i2)] [] μ _
  refine g_aload_n (pc := 0) dX0_read_0 rfl rfl ?_
  refine g_iload_n (pc := 1) dX0_read_1 rfl rfl ?_
  refine pf_X0_34 (pc := 2) rfl dX0_read_2 (Nat.lt_of_lt_of_le (by decide) hN) kd_10 (fun m1 e2 => ?_)
  rw [lt_of e2] at h
  refine g_aload_n (pc := 5) dX0_read_5 rfl rfl ?_
  refine g_iconst (pc := 6) (v := (0 : Int32)) dX0_read_6 rfl ?_
  refine pf_X0_38 (pc := 7) rfl dX0_read_7 (Nat.lt_of_lt_of_le (by decide) hN) kd_10 (fun m3 e4 => ?_)
  rw [lt_of e4] at h
  refine g_aload_n (pc := 10) dX0_read_10 rfl rfl ?_
  obtain ⟨m6, hp5, h⟩ := Option.bind_eq_some_iff.mp h
  refine r_callV (ci := 3) (pc := 11) (c_X3_readFromStart hN  m3 hp5) yV_X3_readFromStart ⟨rfl, by decide⟩ pX3_readFromStart mL_X0_41 dX0_read_11 (Nat.le_of_ble_eq_true rfl) (Nat.le_of_ble_eq_true rfl) (Nat.lt_of_lt_of_le (by decide) hN) kd_8 rfl (rK_v ?_)
  exact cl_X0_read_14 hN i2  gF  _ h

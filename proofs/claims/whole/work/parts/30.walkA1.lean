def f_X0_countSisters (j1 : Nat) (μ : gMem) : Option (Int32 × gMem) :=
  if (gDeed.getD j1 0) = 0 then
  (lt (st μ 10 6 (0 : Int32)) (fun m13 =>
  lt (if (5 : Int32) < (m13 10 6) then (0 : Int32) else (1 : Int32)) (fun x15 =>
  some (x15, m13))))
else
  (if (gDeed.getD j1 0) = (1 : Int32) then
  (lt (st μ 10 6 ((μ 10 6) + (1 : Int32))) (fun m7 =>
  lt (if (5 : Int32) < (m7 10 6) then (0 : Int32) else (1 : Int32)) (fun x9 =>
  some (x9, m7))))
else
  (lt (if (5 : Int32) < (μ 10 6) then (0 : Int32) else (1 : Int32)) (fun x3 =>
  some (x3, μ))))
set_option maxRecDepth 100000 in
set_option maxHeartbeats 4000000 in
theorem c_X0_countSisters {κ : Nat → Nat} {N : Nat} (hN : 140 ≤ N) (j1 : Nat) (hj1 : j1 < 12) (μ : gMem) {r : Int32} {μ' : gMem} (h : f_X0_countSisters j1 μ = some (r, μ')) : CT2 κ N 1 yX0_countSisters iX0_countSisters [.ref (κ 0 + 10), .ref (κ (40 + j1))] μ (qZ r μ') := by
  refine CT2.of (by decide) rfl rfl (Nat.le_of_ble_eq_true rfl) ?_
  unfold f_X0_countSisters at h
  show RR κ N 1 iX0_countSisters 0 [(0, .ref (κ 0 + 10)), (1, .ref (κ (40 + j1)))] [] μ _
  refine g_aload_n (pc := 0) dX0_countSisters_0 rfl rfl ?_
  refine g_getO (pc := 1) dX0_countSisters_1 (fun _ _ z => (z.2.2.2.1 _ hj1).2.2.1) wF_X0_90 ?_
  refine g_if_ne (pc := 4) 15 dX0_countSisters_4 (by decide) (fun hc1 => ?_) (fun hc1 => ?_)
  · rw [if_neg hc1] at h
    refine g_aload_n (pc := 15) dX0_countSisters_15 rfl rfl ?_
    refine g_getO (pc := 16) dX0_countSisters_16 (fun _ _ z => (z.2.2.2.1 _ hj1).2.2.1) wF_X0_90 ?_
    refine g_iconst (pc := 19) (v := (1 : Int32)) dX0_countSisters_19 rfl ?_
    refine g_icmp_ne (pc := 20) 33 dX0_countSisters_20 (by decide) (fun hc2 => ?_) (fun hc2 => ?_)
    · rw [if_neg hc2] at h
      refine g_aload_n (pc := 33) dX0_countSisters_33 rfl rfl ?_
      refine gf_X0_34 (pc := 34) rfl dX0_countSisters_34 (Nat.lt_of_lt_of_le (by decide) hN) kd_10 ?_
      refine g_iconst (pc := 37) (v := (5 : Int32)) dX0_countSisters_37 rfl ?_
      have key5 : ∀ x3 : Int32, x3 = (if (5 : Int32) < (μ 10 6) then (0 : Int32) else (1 : Int32)) → RR κ N 1 iX0_countSisters 46 [(0, .ref (κ 0 + 10)), (1, .ref (κ (40 + j1)))] [.int x3] μ (qZ r μ') := by
        intro x3 e4
        rw [lt_of e4] at h
        cases h
        exact r_zret dX0_countSisters_46 rfl (nz_if' e4) rfl rfl
      refine g_icmp_gt (pc := 38) 45 dX0_countSisters_38 (by decide) (fun hc6 => ?_) (fun hc6 => ?_)
      · refine g_iconst (pc := 45) (v := (0 : Int32)) dX0_countSisters_45 rfl ?_
        exact key5 _ (by rw [if_pos hc6])
      · refine g_iconst (pc := 41) (v := (1 : Int32)) dX0_countSisters_41 rfl ?_
        refine g_goto (pc := 42) 46 dX0_countSisters_42 (by decide) ?_
        exact key5 _ (by rw [if_neg hc6])
    · rw [if_pos hc2] at h
      refine g_aload_n (pc := 23) dX0_countSisters_23 rfl rfl ?_
      refine g_dup (pc := 24) dX0_countSisters_24 rfl ?_
      refine gf_X0_34 (pc := 25) rfl dX0_countSisters_25 (Nat.lt_of_lt_of_le (by decide) hN) kd_10 ?_
      refine g_iconst (pc := 28) (v := (1 : Int32)) dX0_countSisters_28 rfl ?_
      refine g_iadd (pc := 29) dX0_countSisters_29 ?_
      refine pf_X0_34 (pc := 30) rfl dX0_countSisters_30 (Nat.lt_of_lt_of_le (by decide) hN) kd_10 (fun m7 e8 => ?_)
      rw [lt_of e8] at h
      refine g_aload_n (pc := 33) dX0_countSisters_33 rfl rfl ?_
      refine gf_X0_34 (pc := 34) rfl dX0_countSisters_34 (Nat.lt_of_lt_of_le (by decide) hN) kd_10 ?_
      refine g_iconst (pc := 37) (v := (5 : Int32)) dX0_countSisters_37 rfl ?_
      have key11 : ∀ x9 : Int32, x9 = (if (5 : Int32) < (m7 10 6) then (0 : Int32) else (1 : Int32)) → RR κ N 1 iX0_countSisters 46 [(0, .ref (κ 0 + 10)), (1, .ref (κ (40 + j1)))] [.int x9] m7 (qZ r μ') := by
        intro x9 e10
        rw [lt_of e10] at h
        cases h
        exact r_zret dX0_countSisters_46 rfl (nz_if' e10) rfl rfl
      refine g_icmp_gt (pc := 38) 45 dX0_countSisters_38 (by decide) (fun hc12 => ?_) (fun hc12 => ?_)
      · refine g_iconst (pc := 45) (v := (0 : Int32)) dX0_countSisters_45 rfl ?_
        exact key11 _ (by rw [if_pos hc12])
      · refine g_iconst (pc := 41) (v := (1 : Int32)) dX0_countSisters_41 rfl ?_
        refine g_goto (pc := 42) 46 dX0_countSisters_42 (by decide) ?_
        exact key11 _ (by rw [if_neg hc12])
  · rw [if_pos hc1] at h
    refine g_aload_n (pc := 7) dX0_countSisters_7 rfl rfl ?_
    refine g_iconst (pc := 8) (v := (0 : Int32)) dX0_countSisters_8 rfl ?_
    refine pf_X0_34 (pc := 9) rfl dX0_countSisters_9 (Nat.lt_of_lt_of_le (by decide) hN) kd_10 (fun m13 e14 => ?_)
    rw [lt_of e14] at h
    refine g_goto (pc := 12) 33 dX0_countSisters_12 (by decide) ?_
    refine g_aload_n (pc := 33) dX0_countSisters_33 rfl rfl ?_
    refine gf_X0_34 (pc := 34) rfl dX0_countSisters_34 (Nat.lt_of_lt_of_le (by decide) hN) kd_10 ?_
    refine g_iconst (pc := 37) (v := (5 : Int32)) dX0_countSisters_37 rfl ?_
    have key17 : ∀ x15 : Int32, x15 = (if (5 : Int32) < (m13 10 6) then (0 : Int32) else (1 : Int32)) → RR κ N 1 iX0_countSisters 46 [(0, .ref (κ 0 + 10)), (1, .ref (κ (40 + j1)))] [.int x15] m13 (qZ r μ') := by
      intro x15 e16
      rw [lt_of e16] at h
      cases h
      exact r_zret dX0_countSisters_46 rfl (nz_if' e16) rfl rfl
    refine g_icmp_gt (pc := 38) 45 dX0_countSisters_38 (by decide) (fun hc18 => ?_) (fun hc18 => ?_)
    · refine g_iconst (pc := 45) (v := (0 : Int32)) dX0_countSisters_45 rfl ?_
      exact key17 _ (by rw [if_pos hc18])
    · refine g_iconst (pc := 41) (v := (1 : Int32)) dX0_countSisters_41 rfl ?_
      refine g_goto (pc := 42) 46 dX0_countSisters_42 (by decide) ?_
      exact key17 _ (by rw [if_neg hc18])

def l_X1_addRow_32 (i1 : Int32) (i2 : Int32) (a3 : Nat) (a4 : Nat) (a5 : Nat) : Nat → Int32 → gMem → Option (Int32 × gMem)
  | 0, _, _ => none
  | n + 1, i6, μ =>
  if (μ 106 9) ≤ i6 then
  (some (i6, μ))
else
  (if inb i6 40 = true then
  lt (st μ a5 i6.toNatClampNeg ((μ a3 i6.toNatClampNeg) + (μ a4 i6.toNatClampNeg))) (fun m14 =>
  lt (i6 + Int32.ofInt 1) (fun x16 =>
  l_X1_addRow_32 i1 i2 a3 a4 a5 n x16 m14)) else none)
def f_X1_addRow (i1 : Int32) (i2 : Int32) (μ : gMem) : Option (gMem) :=
  if inb i1 6 = true then
  if inb ((i1 * (4 : Int32)) + i2) 20 = true then
  if inb (i1 + (1 : Int32)) 6 = true then
  (l_X1_addRow_32 i1 i2 (128 + 1 + i1.toNatClampNeg) (107 + 1 + ((i1 * (4 : Int32)) + i2).toNatClampNeg) (128 + 1 + (i1 + (1 : Int32)).toNatClampNeg) gF (0 : Int32) μ).bind (fun p18 =>
  some p18.2) else none else none else none
set_option maxRecDepth 100000 in
set_option maxHeartbeats 4000000 in
theorem cl_X1_addRow_32 {κ : Nat → Nat} {N : Nat} {Q : rQ} (hN : 140 ≤ N) (i1 : Int32) (i2 : Int32) (a3 : Nat) (a4 : Nat) (a5 : Nat) (h3 : kd a3 = 20) (g3 : a3 < N) (n3 : ln a3 = 40) (h4 : kd a4 = 20) (g4 : a4 < N) (n4 : ln a4 = 40) (h5 : kd a5 = 20) (g5 : a5 < N) (n5 : ln a5 = 40) : ∀ (n : Nat) (i6 : Int32) (μ : gMem) (p : Int32 × gMem), l_X1_addRow_32 i1 i2 a3 a4 a5 n i6 μ = some p → RR κ N 1 iX1_addRow 62 [(0, .ref (κ 0 + 106)), (1, .int i1), (2, .int i2), (3, .ref (κ 0 + a3)), (4, .ref (κ 0 + a4)), (5, .ref (κ 0 + a5)), (6, .int p.1)] [] p.2 Q → RR κ N 1 iX1_addRow 32 [(0, .ref (κ 0 + 106)), (1, .int i1), (2, .int i2), (3, .ref (κ 0 + a3)), (4, .ref (κ 0 + a4)), (5, .ref (κ 0 + a5)), (6, .int i6)] [] μ Q := by
  intro n
  induction n with
  | zero =>
    intro i6 μ p h k
    unfold l_X1_addRow_32 at h
    cases h
  | succ n ih =>
    intro i6 μ p h k
    unfold l_X1_addRow_32 at h
    refine g_iload (pc := 32) dX1_addRow_32 rfl ?_
    refine g_aload_n (pc := 34) dX1_addRow_34 rfl rfl ?_
    refine gf_X1_48 (pc := 35) rfl dX1_addRow_35 (Nat.lt_of_lt_of_le (by decide) hN) kd_106 ?_
    refine g_icmp_ge (pc := 38) 62 dX1_addRow_38 (by decide) (fun hc12 => ?_) (fun hc12 => ?_)
    · rw [if_pos hc12] at h
      cases h
      exact k
    · rw [if_neg hc12] at h
      refine g_aload (pc := 41) dX1_addRow_41 rfl ?_
      refine g_iload (pc := 43) dX1_addRow_43 rfl ?_
      refine g_aload_n (pc := 45) dX1_addRow_45 rfl rfl ?_
      refine g_iload (pc := 46) dX1_addRow_46 rfl ?_
      obtain ⟨hg13, h⟩ := gd_some h
      refine r_iald (pc := 48) 40 dX1_addRow_48 g3 h3 n3 hg13 ?_
      refine g_aload (pc := 49) dX1_addRow_49 rfl ?_
      refine g_iload (pc := 51) dX1_addRow_51 rfl ?_
      refine r_iald (pc := 53) 40 dX1_addRow_53 g4 h4 n4 hg13 ?_
      refine g_iadd (pc := 54) dX1_addRow_54 ?_
      refine r_iast (pc := 55) 40 dX1_addRow_55 g5 h5 n5 hg13 (fun m14 e15 => ?_)
      rw [lt_of e15] at h
      refine g_iinc (pc := 56) (lv' := fun y => [(0, .ref (κ 0 + 106)), (1, .int i1), (2, .int i2), (3, .ref (κ 0 + a3)), (4, .ref (κ 0 + a4)), (5, .ref (κ 0 + a5)), (6, .int y)]) dX1_addRow_56 rfl (Nat.le_of_ble_eq_true rfl) (fun _ => rfl) (fun x16 e17 => ?_)
      rw [lt_of e17] at h
      refine g_goto (pc := 59) 32 dX1_addRow_59 (by decide) ?_
      refine g_lv (lv' := [(0, .ref (κ 0 + 106)), (1, .int i1), (2, .int i2), (3, .ref (κ 0 + a3)), (4, .ref (κ 0 + a4)), (5, .ref (κ 0 + a5)), (6, .int x16)]) rfl ?_
      exact ih _ _ _ h k
set_option maxRecDepth 100000 in
set_option maxHeartbeats 4000000 in
theorem c_X1_addRow {κ : Nat → Nat} {N : Nat} (hN : 140 ≤ N) (i1 : Int32) (i2 : Int32)  (μ : gMem) {μ' : gMem} (h : f_X1_addRow i1 i2 μ = some μ') : CT2 κ N 1 yX1_addRow iX1_addRow [.ref (κ 0 + 106), .int i1, .int i2] μ (qV μ') := by
  refine CT2.of (by decide) rfl rfl (Nat.le_of_ble_eq_true rfl) ?_
  unfold f_X1_addRow at h
  show RR κ N 1 iX1_addRow 0 [(0, .ref (κ 0 + 106)), (1, .int i1), (2, .int i2)] [] μ _
  refine g_aload_n (pc := 0) dX1_addRow_0 rfl rfl ?_
  refine gf_X1_20 (pc := 1) rfl dX1_addRow_1 (Nat.lt_of_lt_of_le (by decide) hN) kd_106 ?_
  refine g_iload_n (pc := 4) dX1_addRow_4 rfl rfl ?_
  obtain ⟨hg1, h⟩ := gd_some h
  refine r_aald (pc := 5) 25 6 (128 + 1 + i1.toNatClampNeg) dX1_addRow_5 (Nat.lt_of_lt_of_le (by decide) hN) kd_128 (by decide) ln_128 hg1 rfl ?_
  refine g_astore_n (pc := 6) (lv' := fun y => [(0, .ref (κ 0 + 106)), (1, .int i1), (2, .int i2), (3, .ref y)]) dX1_addRow_6 rfl (Nat.le_of_ble_eq_true rfl) (fun _ => rfl) (fun y2 e3 => ?_)
  rw [e3]
  refine g_aload_n (pc := 7) dX1_addRow_7 rfl rfl ?_
  refine gf_X1_17 (pc := 8) rfl dX1_addRow_8 (Nat.lt_of_lt_of_le (by decide) hN) kd_106 ?_
  refine g_iload_n (pc := 11) dX1_addRow_11 rfl rfl ?_
  refine g_iconst (pc := 12) (v := (4 : Int32)) dX1_addRow_12 rfl ?_
  refine g_imul (pc := 13) dX1_addRow_13 ?_
  refine g_iload_n (pc := 14) dX1_addRow_14 rfl rfl ?_
  refine g_iadd (pc := 15) dX1_addRow_15 ?_
  obtain ⟨hg4, h⟩ := gd_some h
  refine r_aald (pc := 16) 25 20 (107 + 1 + ((i1 * (4 : Int32)) + i2).toNatClampNeg) dX1_addRow_16 (Nat.lt_of_lt_of_le (by decide) hN) kd_107 (by decide) ln_107 hg4 rfl ?_
  refine g_astore (pc := 17) (lv' := fun y => [(0, .ref (κ 0 + 106)), (1, .int i1), (2, .int i2), (3, .ref (κ 0 + (128 + 1 + i1.toNatClampNeg))), (4, .ref y)]) dX1_addRow_17 (Nat.le_of_ble_eq_true rfl) (fun _ => rfl) (fun y5 e6 => ?_)
  rw [e6]
  refine g_aload_n (pc := 19) dX1_addRow_19 rfl rfl ?_
  refine gf_X1_20 (pc := 20) rfl dX1_addRow_20 (Nat.lt_of_lt_of_le (by decide) hN) kd_106 ?_
  refine g_iload_n (pc := 23) dX1_addRow_23 rfl rfl ?_
  refine g_iconst (pc := 24) (v := (1 : Int32)) dX1_addRow_24 rfl ?_
  refine g_iadd (pc := 25) dX1_addRow_25 ?_
  obtain ⟨hg7, h⟩ := gd_some h
  refine r_aald (pc := 26) 25 6 (128 + 1 + (i1 + (1 : Int32)).toNatClampNeg) dX1_addRow_26 (Nat.lt_of_lt_of_le (by decide) hN) kd_128 (by decide) ln_128 hg7 rfl ?_
  refine g_astore (pc := 27) (lv' := fun y => [(0, .ref (κ 0 + 106)), (1, .int i1), (2, .int i2), (3, .ref (κ 0 + (128 + 1 + i1.toNatClampNeg))), (4, .ref (κ 0 + (107 + 1 + ((i1 * (4 : Int32)) + i2).toNatClampNeg))), (5, .ref y)]) dX1_addRow_27 (Nat.le_of_ble_eq_true rfl) (fun _ => rfl) (fun y8 e9 => ?_)
  rw [e9]
  refine g_iconst (pc := 29) (v := (0 : Int32)) dX1_addRow_29 rfl ?_
  refine g_istore (pc := 30) (lv' := fun y => [(0, .ref (κ 0 + 106)), (1, .int i1), (2, .int i2), (3, .ref (κ 0 + (128 + 1 + i1.toNatClampNeg))), (4, .ref (κ 0 + (107 + 1 + ((i1 * (4 : Int32)) + i2).toNatClampNeg))), (5, .ref (κ 0 + (128 + 1 + (i1 + (1 : Int32)).toNatClampNeg))), (6, .int y)]) dX1_addRow_30 (Nat.le_of_ble_eq_true rfl) (fun _ => rfl) (fun y10 e11 => ?_)
  rw [e11]
  obtain ⟨p18, hp19, h⟩ := Option.bind_eq_some_iff.mp h
  refine cl_X1_addRow_32 hN i1 i2 (128 + 1 + i1.toNatClampNeg) (107 + 1 + ((i1 * (4 : Int32)) + i2).toNatClampNeg) (128 + 1 + (i1 + (1 : Int32)).toNatClampNeg) ((kd_r128 (inb_lt hg1)).1) (Nat.lt_of_lt_of_le (kd_r128 (inb_lt hg1)).2.2 hN) ((kd_r128 (inb_lt hg1)).2.1) ((kd_r107 (inb_lt hg4)).1) (Nat.lt_of_lt_of_le (kd_r107 (inb_lt hg4)).2.2 hN) ((kd_r107 (inb_lt hg4)).2.1) ((kd_r128 (inb_lt hg7)).1) (Nat.lt_of_lt_of_le (kd_r128 (inb_lt hg7)).2.2 hN) ((kd_r128 (inb_lt hg7)).2.1) gF (0 : Int32) _ _ hp19 ?_
  cases h
  exact r_vret dX1_addRow_62 rfl rfl

def l_X2_pouredIn_4 (i1 : Int32) : Nat → Int32 → Int32 → gMem → Option (Int32 × Int32 × gMem)
  | 0, _, _, _ => none
  | n + 1, i2, i3, μ =>
  if (μ 1 1) ≤ i3 then
  (some (i2, i3, μ))
else
  (if (((μ 97 4) >>> (i3 &&& 31)) &&& (1 : Int32)) = 0 then
  (lt (i3 + Int32.ofInt 1) (fun x7 =>
  l_X2_pouredIn_4 i1 n i2 x7 μ))
else
  (if inb i3 5 = true then
  if inb i1 99 = true then
  lt (i2 + (μ (98 + 1 + i3.toNatClampNeg) i1.toNatClampNeg)) (fun x11 =>
  lt (i3 + Int32.ofInt 1) (fun x13 =>
  l_X2_pouredIn_4 i1 n x11 x13 μ)) else none else none))
def f_X2_pouredIn (i1 : Int32) (μ : gMem) : Option (Int32 × gMem) :=
  (l_X2_pouredIn_4 i1 gF (0 : Int32) (0 : Int32) μ).bind (fun p15 =>
  some (p15.1, p15.2.2))
set_option maxRecDepth 100000 in
set_option maxHeartbeats 4000000 in
theorem cl_X2_pouredIn_4 {κ : Nat → Nat} {N : Nat} {Q : rQ} (hN : 140 ≤ N) (i1 : Int32)  : ∀ (n : Nat) (i2 : Int32) (i3 : Int32) (μ : gMem) (p : Int32 × Int32 × gMem), l_X2_pouredIn_4 i1 n i2 i3 μ = some p → RR κ N 1 iX2_pouredIn 43 [(0, .ref (κ 0 + 97)), (1, .int i1), (2, .int p.1), (3, .int p.2.1)] [] p.2.2 Q → RR κ N 1 iX2_pouredIn 4 [(0, .ref (κ 0 + 97)), (1, .int i1), (2, .int i2), (3, .int i3)] [] μ Q := by
  intro n
  induction n with
  | zero =>
    intro i2 i3 μ p h k
    unfold l_X2_pouredIn_4 at h
    cases h
  | succ n ih =>
    intro i2 i3 μ p h k
    unfold l_X2_pouredIn_4 at h
    refine g_iload_n (pc := 4) dX2_pouredIn_4 rfl rfl ?_
    refine g_aload_n (pc := 5) dX2_pouredIn_5 rfl rfl ?_
    refine gf_X2_9 (pc := 6) rfl dX2_pouredIn_6 (Nat.lt_of_lt_of_le (by decide) hN) kd_97 ?_
    refine gf_X2_31 (pc := 9) rfl dX2_pouredIn_9 (Nat.lt_of_lt_of_le (by decide) hN) kd_1 ?_
    refine g_icmp_ge (pc := 12) 43 dX2_pouredIn_12 (by decide) (fun hc5 => ?_) (fun hc5 => ?_)
    · rw [if_pos hc5] at h
      cases h
      exact k
    · rw [if_neg hc5] at h
      refine g_aload_n (pc := 15) dX2_pouredIn_15 rfl rfl ?_
      refine gf_X2_54 (pc := 16) rfl dX2_pouredIn_16 (Nat.lt_of_lt_of_le (by decide) hN) kd_97 ?_
      refine g_iload_n (pc := 19) dX2_pouredIn_19 rfl rfl ?_
      refine g_ishr (pc := 20) dX2_pouredIn_20 ?_
      refine g_iconst (pc := 21) (v := (1 : Int32)) dX2_pouredIn_21 rfl ?_
      refine g_iand (pc := 22) dX2_pouredIn_22 ?_
      refine g_if_eq (pc := 23) 37 dX2_pouredIn_23 (by decide) (fun hc6 => ?_) (fun hc6 => ?_)
      · rw [if_pos hc6] at h
        refine g_iinc (pc := 37) (lv' := fun y => [(0, .ref (κ 0 + 97)), (1, .int i1), (2, .int i2), (3, .int y)]) dX2_pouredIn_37 rfl (Nat.le_of_ble_eq_true rfl) (fun _ => rfl) (fun x7 e8 => ?_)
        rw [lt_of e8] at h
        refine g_goto (pc := 40) 4 dX2_pouredIn_40 (by decide) ?_
        refine g_lv (lv' := [(0, .ref (κ 0 + 97)), (1, .int i1), (2, .int i2), (3, .int x7)]) rfl ?_
        exact ih _ _ _ _ h k
      · rw [if_neg hc6] at h
        refine g_iload_n (pc := 26) dX2_pouredIn_26 rfl rfl ?_
        refine g_aload_n (pc := 27) dX2_pouredIn_27 rfl rfl ?_
        refine gf_X2_17 (pc := 28) rfl dX2_pouredIn_28 (Nat.lt_of_lt_of_le (by decide) hN) kd_97 ?_
        refine g_iload_n (pc := 31) dX2_pouredIn_31 rfl rfl ?_
        obtain ⟨hg9, h⟩ := gd_some h
        refine r_aald (pc := 32) 25 5 (98 + 1 + i3.toNatClampNeg) dX2_pouredIn_32 (Nat.lt_of_lt_of_le (by decide) hN) kd_98 (by decide) ln_98 hg9 rfl ?_
        refine g_iload_n (pc := 33) dX2_pouredIn_33 rfl rfl ?_
        obtain ⟨hg10, h⟩ := gd_some h
        refine r_iald (pc := 34) 99 dX2_pouredIn_34 (Nat.lt_of_lt_of_le (kd_r98 (inb_lt hg9)).2.2 hN) (kd_r98 (inb_lt hg9)).1 (kd_r98 (inb_lt hg9)).2.1 hg10 ?_
        refine g_iadd (pc := 35) dX2_pouredIn_35 ?_
        refine g_istore_n (pc := 36) (lv' := fun y => [(0, .ref (κ 0 + 97)), (1, .int i1), (2, .int y), (3, .int i3)]) dX2_pouredIn_36 rfl (Nat.le_of_ble_eq_true rfl) (fun _ => rfl) (fun x11 e12 => ?_)
        rw [lt_of e12] at h
        refine g_iinc (pc := 37) (lv' := fun y => [(0, .ref (κ 0 + 97)), (1, .int i1), (2, .int x11), (3, .int y)]) dX2_pouredIn_37 rfl (Nat.le_of_ble_eq_true rfl) (fun _ => rfl) (fun x13 e14 => ?_)
        rw [lt_of e14] at h
        refine g_goto (pc := 40) 4 dX2_pouredIn_40 (by decide) ?_
        refine g_lv (lv' := [(0, .ref (κ 0 + 97)), (1, .int i1), (2, .int x11), (3, .int x13)]) rfl ?_
        exact ih _ _ _ _ h k
set_option maxRecDepth 100000 in
set_option maxHeartbeats 4000000 in
theorem c_X2_pouredIn {κ : Nat → Nat} {N : Nat} (hN : 140 ≤ N) (i1 : Int32)  (μ : gMem) {r : Int32} {μ' : gMem} (h : f_X2_pouredIn i1 μ = some (r, μ')) : CT2 κ N 1 yX2_pouredIn iX2_pouredIn [.ref (κ 0 + 97), .int i1] μ (qI r μ') := by
  refine CT2.of (by decide) rfl rfl (Nat.le_of_ble_eq_true rfl) ?_
  unfold f_X2_pouredIn at h
  show RR κ N 1 iX2_pouredIn 0 [(0, .ref (κ 0 + 97)), (1, .int i1)] [] μ _
  refine g_iconst (pc := 0) (v := (0 : Int32)) dX2_pouredIn_0 rfl ?_
  refine g_istore_n (pc := 1) (lv' := fun y => [(0, .ref (κ 0 + 97)), (1, .int i1), (2, .int y)]) dX2_pouredIn_1 rfl (Nat.le_of_ble_eq_true rfl) (fun _ => rfl) (fun y1 e2 => ?_)
  rw [e2]
  refine g_iconst (pc := 2) (v := (0 : Int32)) dX2_pouredIn_2 rfl ?_
  refine g_istore_n (pc := 3) (lv' := fun y => [(0, .ref (κ 0 + 97)), (1, .int i1), (2, .int (0 : Int32)), (3, .int y)]) dX2_pouredIn_3 rfl (Nat.le_of_ble_eq_true rfl) (fun _ => rfl) (fun y3 e4 => ?_)
  rw [e4]
  obtain ⟨p15, hp16, h⟩ := Option.bind_eq_some_iff.mp h
  refine cl_X2_pouredIn_4 hN i1  gF (0 : Int32) (0 : Int32) _ _ hp16 ?_
  refine g_iload_n (pc := 43) dX2_pouredIn_43 rfl rfl ?_
  cases h
  exact r_iret dX2_pouredIn_44 rfl rfl rfl

def f_X3_add (i1 : Int32) (μ : gMem) : Option (Int32 × gMem) :=
  if (μ 8 1) < (160 : Int32) then
  (if inb (μ 8 1) 160 = true then
  lt (st μ 9 (μ 8 1).toNatClampNeg i1) (fun m2 =>
  lt (st m2 8 1 ((m2 8 1) + (1 : Int32))) (fun m5 =>
  some ((1 : Int32), m5))) else none)
else
  (some ((0 : Int32), μ))
set_option maxRecDepth 100000 in
set_option maxHeartbeats 4000000 in
theorem c_X3_add {κ : Nat → Nat} {N : Nat} (hN : 140 ≤ N) (i1 : Int32)  (μ : gMem) {r : Int32} {μ' : gMem} (h : f_X3_add i1 μ = some (r, μ')) : CT2 κ N 1 yX3_add iX3_add [.ref (κ 0 + 8), .int i1] μ (qZ r μ') := by
  refine CT2.of (by decide) rfl rfl (Nat.le_of_ble_eq_true rfl) ?_
  unfold f_X3_add at h
  show RR κ N 1 iX3_add 0 [(0, .ref (κ 0 + 8)), (1, .int i1)] [] μ _
  refine g_aload_n (pc := 0) dX3_add_0 rfl rfl ?_
  refine gf_X3_15 (pc := 1) rfl dX3_add_1 (Nat.lt_of_lt_of_le (by decide) hN) kd_8 ?_
  refine g_sipush (pc := 4) (v := (160 : Int32)) dX3_add_4 rfl ?_
  refine g_icmp_lt (pc := 7) 12 dX3_add_7 (by decide) (fun hc1 => ?_) (fun hc1 => ?_)
  · rw [if_pos hc1] at h
    refine g_aload_n (pc := 12) dX3_add_12 rfl rfl ?_
    refine gf_X3_9 (pc := 13) rfl dX3_add_13 (Nat.lt_of_lt_of_le (by decide) hN) kd_8 ?_
    refine g_aload_n (pc := 16) dX3_add_16 rfl rfl ?_
    refine gf_X3_15 (pc := 17) rfl dX3_add_17 (Nat.lt_of_lt_of_le (by decide) hN) kd_8 ?_
    refine g_iload_n (pc := 20) dX3_add_20 rfl rfl ?_
    obtain ⟨hg4, h⟩ := gd_some h
    refine r_iast (pc := 21) 160 dX3_add_21 (Nat.lt_of_lt_of_le (by decide) hN) kd_9 ln_9 hg4 (fun m2 e3 => ?_)
    rw [lt_of e3] at h
    refine g_aload_n (pc := 22) dX3_add_22 rfl rfl ?_
    refine g_dup (pc := 23) dX3_add_23 rfl ?_
    refine gf_X3_15 (pc := 24) rfl dX3_add_24 (Nat.lt_of_lt_of_le (by decide) hN) kd_8 ?_
    refine g_iconst (pc := 27) (v := (1 : Int32)) dX3_add_27 rfl ?_
    refine g_iadd (pc := 28) dX3_add_28 ?_
    refine pf_X3_15 (pc := 29) rfl dX3_add_29 (Nat.lt_of_lt_of_le (by decide) hN) kd_8 (fun m5 e6 => ?_)
    rw [lt_of e6] at h
    refine g_iconst (pc := 32) (v := (1 : Int32)) dX3_add_32 rfl ?_
    cases h
    exact r_zret dX3_add_33 rfl rfl rfl rfl
  · rw [if_neg hc1] at h
    refine g_iconst (pc := 10) (v := (0 : Int32)) dX3_add_10 rfl ?_
    cases h
    exact r_zret dX3_add_11 rfl rfl rfl rfl

def f_X3_readFromStart  (μ : gMem) : Option (gMem) :=
  lt (st μ 8 4 (0 : Int32)) (fun m1 =>
  some m1)
set_option maxRecDepth 100000 in
set_option maxHeartbeats 4000000 in
theorem c_X3_readFromStart {κ : Nat → Nat} {N : Nat} (hN : 140 ≤ N)   (μ : gMem) {μ' : gMem} (h : f_X3_readFromStart  μ = some μ') : CT2 κ N 1 yX3_readFromStart iX3_readFromStart [.ref (κ 0 + 8)] μ (qV μ') := by
  refine CT2.of (by decide) rfl rfl (Nat.le_of_ble_eq_true rfl) ?_
  unfold f_X3_readFromStart at h
  show RR κ N 1 iX3_readFromStart 0 [(0, .ref (κ 0 + 8))] [] μ _
  refine g_aload_n (pc := 0) dX3_readFromStart_0 rfl rfl ?_
  refine g_iconst (pc := 1) (v := (0 : Int32)) dX3_readFromStart_1 rfl ?_
  refine pf_X3_19 (pc := 2) rfl dX3_readFromStart_2 (Nat.lt_of_lt_of_le (by decide) hN) kd_8 (fun m1 e2 => ?_)
  rw [lt_of e2] at h
  cases h
  exact r_vret dX3_readFromStart_5 rfl rfl

def f_X3_typeAt (i1 : Int32) (μ : gMem) : Option (Int32 × gMem) :=
  if i1 < 0 then
  (some ((0 : Int32), μ))
else
  (if i1 < (μ 8 1) then
  (if inb i1 160 = true then
  lt (μ 9 i1.toNatClampNeg) (fun x4 =>
  if x4 < (97 : Int32) then
  (if x4 < (48 : Int32) then
  (some ((3 : Int32), μ))
else
  (lt (if (57 : Int32) < x4 then (3 : Int32) else (2 : Int32)) (fun x8 =>
  some (x8, μ))))
else
  (if (122 : Int32) < x4 then
  (if x4 < (48 : Int32) then
  (some ((3 : Int32), μ))
else
  (lt (if (57 : Int32) < x4 then (3 : Int32) else (2 : Int32)) (fun x14 =>
  some (x14, μ))))
else
  (some ((1 : Int32), μ)))) else none)
else
  (some ((0 : Int32), μ)))
set_option maxRecDepth 100000 in
set_option maxHeartbeats 4000000 in
theorem c_X3_typeAt {κ : Nat → Nat} {N : Nat} (hN : 140 ≤ N) (i1 : Int32)  (μ : gMem) {r : Int32} {μ' : gMem} (h : f_X3_typeAt i1 μ = some (r, μ')) : CT2 κ N 1 yX3_typeAt iX3_typeAt [.ref (κ 0 + 8), .int i1] μ (qI r μ') := by
  refine CT2.of (by decide) rfl rfl (Nat.le_of_ble_eq_true rfl) ?_
  unfold f_X3_typeAt at h
  show RR κ N 1 iX3_typeAt 0 [(0, .ref (κ 0 + 8)), (1, .int i1)] [] μ _
  refine g_iload_n (pc := 0) dX3_typeAt_0 rfl rfl ?_
  refine g_if_lt (pc := 1) 12 dX3_typeAt_1 (by decide) (fun hc1 => ?_) (fun hc1 => ?_)
  · rw [if_pos hc1] at h
    refine g_iconst (pc := 12) (v := (0 : Int32)) dX3_typeAt_12 rfl ?_
    cases h
    exact r_iret dX3_typeAt_13 rfl rfl rfl
  · rw [if_neg hc1] at h
    refine g_iload_n (pc := 4) dX3_typeAt_4 rfl rfl ?_
    refine g_aload_n (pc := 5) dX3_typeAt_5 rfl rfl ?_
    refine gf_X3_15 (pc := 6) rfl dX3_typeAt_6 (Nat.lt_of_lt_of_le (by decide) hN) kd_8 ?_
    refine g_icmp_lt (pc := 9) 14 dX3_typeAt_9 (by decide) (fun hc2 => ?_) (fun hc2 => ?_)
    · rw [if_pos hc2] at h
      refine g_aload_n (pc := 14) dX3_typeAt_14 rfl rfl ?_
      refine gf_X3_9 (pc := 15) rfl dX3_typeAt_15 (Nat.lt_of_lt_of_le (by decide) hN) kd_8 ?_
      refine g_iload_n (pc := 18) dX3_typeAt_18 rfl rfl ?_
      obtain ⟨hg3, h⟩ := gd_some h
      refine r_iald (pc := 19) 160 dX3_typeAt_19 (Nat.lt_of_lt_of_le (by decide) hN) kd_9 ln_9 hg3 ?_
      refine g_istore_n (pc := 20) (lv' := fun y => [(0, .ref (κ 0 + 8)), (1, .int i1), (2, .int y)]) dX3_typeAt_20 rfl (Nat.le_of_ble_eq_true rfl) (fun _ => rfl) (fun x4 e5 => ?_)
      rw [lt_of e5] at h
      refine g_iload_n (pc := 21) dX3_typeAt_21 rfl rfl ?_
      refine g_bipush (pc := 22) (v := (97 : Int32)) dX3_typeAt_22 rfl ?_
      refine g_icmp_lt (pc := 24) 35 dX3_typeAt_24 (by decide) (fun hc6 => ?_) (fun hc6 => ?_)
      · rw [if_pos hc6] at h
        refine g_iload_n (pc := 35) dX3_typeAt_35 rfl rfl ?_
        refine g_bipush (pc := 36) (v := (48 : Int32)) dX3_typeAt_36 rfl ?_
        refine g_icmp_lt (pc := 38) 51 dX3_typeAt_38 (by decide) (fun hc7 => ?_) (fun hc7 => ?_)
        · rw [if_pos hc7] at h
          refine g_iconst (pc := 51) (v := (3 : Int32)) dX3_typeAt_51 rfl ?_
          cases h
          exact r_iret dX3_typeAt_52 rfl rfl rfl
        · rw [if_neg hc7] at h
          refine g_iload_n (pc := 41) dX3_typeAt_41 rfl rfl ?_
          refine g_bipush (pc := 42) (v := (57 : Int32)) dX3_typeAt_42 rfl ?_
          have key10 : ∀ x8 : Int32, x8 = (if (57 : Int32) < x4 then (3 : Int32) else (2 : Int32)) → RR κ N 1 iX3_typeAt 52 [(0, .ref (κ 0 + 8)), (1, .int i1), (2, .int x4)] [.int x8] μ (qI r μ') := by
            intro x8 e9
            rw [lt_of e9] at h
            cases h
            exact r_iret dX3_typeAt_52 rfl rfl rfl
          refine g_icmp_gt (pc := 44) 51 dX3_typeAt_44 (by decide) (fun hc11 => ?_) (fun hc11 => ?_)
          · refine g_iconst (pc := 51) (v := (3 : Int32)) dX3_typeAt_51 rfl ?_
            exact key10 _ (by rw [if_pos hc11])
          · refine g_iconst (pc := 47) (v := (2 : Int32)) dX3_typeAt_47 rfl ?_
            refine g_goto (pc := 48) 52 dX3_typeAt_48 (by decide) ?_
            exact key10 _ (by rw [if_neg hc11])
      · rw [if_neg hc6] at h
        refine g_iload_n (pc := 27) dX3_typeAt_27 rfl rfl ?_
        refine g_bipush (pc := 28) (v := (122 : Int32)) dX3_typeAt_28 rfl ?_
        refine g_icmp_gt (pc := 30) 35 dX3_typeAt_30 (by decide) (fun hc12 => ?_) (fun hc12 => ?_)
        · rw [if_pos hc12] at h
          refine g_iload_n (pc := 35) dX3_typeAt_35 rfl rfl ?_
          refine g_bipush (pc := 36) (v := (48 : Int32)) dX3_typeAt_36 rfl ?_
          refine g_icmp_lt (pc := 38) 51 dX3_typeAt_38 (by decide) (fun hc13 => ?_) (fun hc13 => ?_)
          · rw [if_pos hc13] at h
            refine g_iconst (pc := 51) (v := (3 : Int32)) dX3_typeAt_51 rfl ?_
            cases h
            exact r_iret dX3_typeAt_52 rfl rfl rfl
          · rw [if_neg hc13] at h
            refine g_iload_n (pc := 41) dX3_typeAt_41 rfl rfl ?_
            refine g_bipush (pc := 42) (v := (57 : Int32)) dX3_typeAt_42 rfl ?_
            have key16 : ∀ x14 : Int32, x14 = (if (57 : Int32) < x4 then (3 : Int32) else (2 : Int32)) → RR κ N 1 iX3_typeAt 52 [(0, .ref (κ 0 + 8)), (1, .int i1), (2, .int x4)] [.int x14] μ (qI r μ') := by
              intro x14 e15
              rw [lt_of e15] at h
              cases h
              exact r_iret dX3_typeAt_52 rfl rfl rfl
            refine g_icmp_gt (pc := 44) 51 dX3_typeAt_44 (by decide) (fun hc17 => ?_) (fun hc17 => ?_)
            · refine g_iconst (pc := 51) (v := (3 : Int32)) dX3_typeAt_51 rfl ?_
              exact key16 _ (by rw [if_pos hc17])
            · refine g_iconst (pc := 47) (v := (2 : Int32)) dX3_typeAt_47 rfl ?_
              refine g_goto (pc := 48) 52 dX3_typeAt_48 (by decide) ?_
              exact key16 _ (by rw [if_neg hc17])
        · rw [if_neg hc12] at h
          refine g_iconst (pc := 33) (v := (1 : Int32)) dX3_typeAt_33 rfl ?_
          cases h
          exact r_iret dX3_typeAt_34 rfl rfl rfl
    · rw [if_neg hc2] at h
      refine g_iconst (pc := 12) (v := (0 : Int32)) dX3_typeAt_12 rfl ?_
      cases h
      exact r_iret dX3_typeAt_13 rfl rfl rfl

def l_X3_isWord_28 (j1 : Nat) : Nat → Int32 → gMem → Option (Int32 × gMem)
  | 0, _, _ => none
  | n + 1, i2, μ =>
  (f_J0_length_8abf5 j1 μ).bind (fun p8 =>
  if p8.1 ≤ i2 then
  (some ((1 : Int32), p8.2))
else
  ((f_J0_charAt_5068e j1 i2 p8.2).bind (fun p11 =>
  if inb ((p11.2 8 3) + i2) 160 = true then
  if p11.1 = (p11.2 9 ((p11.2 8 3) + i2).toNatClampNeg) then
  (lt (i2 + Int32.ofInt 1) (fun x14 =>
  l_X3_isWord_28 j1 n x14 p11.2))
else
  (some ((0 : Int32), p11.2)) else none)))
def f_X3_isWord (j1 : Nat) (μ : gMem) : Option (Int32 × gMem) :=
  if (μ 8 2) = (1 : Int32) then
  ((f_J0_length_8abf5 j1 μ).bind (fun p3 =>
  if p3.1 = ((p3.2 8 4) - (p3.2 8 3)) then
  (l_X3_isWord_28 j1 gF (0 : Int32) p3.2)
else
  (some ((0 : Int32), p3.2))))
else
  (some ((0 : Int32), μ))
set_option maxRecDepth 100000 in
set_option maxHeartbeats 4000000 in
theorem cl_X3_isWord_28 {κ : Nat → Nat} {N : Nat} {r : Int32} {μ' : gMem} (hN : 140 ≤ N) (j1 : Nat) (hj1 : j1 < 12) : ∀ (n : Nat) (i2 : Int32) (μ : gMem), l_X3_isWord_28 j1 n i2 μ = some (r, μ') → RR κ N 5 iX3_isWord 28 [(0, .ref (κ 0 + 8)), (1, .ref (κ (70 + j1))), (2, .int i2)] [] μ (qZ r μ') := by
  intro n
  induction n with
  | zero =>
    intro i2 μ h
    unfold l_X3_isWord_28 at h
    cases h
  | succ n ih =>
    intro i2 μ h
    unfold l_X3_isWord_28 at h
    refine g_iload_n (pc := 28) dX3_isWord_28 rfl rfl ?_
    refine g_aload_n (pc := 29) dX3_isWord_29 rfl rfl ?_
    obtain ⟨p8, hp7, h⟩ := Option.bind_eq_some_iff.mp h
    refine r_callVT (pc := 30) (c_J0_length_8abf5 hN j1 hj1 μ hp7) yV_J0_length_8abf5 (fun _ _ z => gRcS z hj1) pJ0_length_8abf5 mL_X3_32 dX3_isWord_30 (Nat.le_of_ble_eq_true rfl) (Nat.le_of_ble_eq_true rfl) rfl (rK_i ?_)
    refine g_icmp_ge (pc := 33) 63 dX3_isWord_33 (by decide) (fun hc9 => ?_) (fun hc9 => ?_)
    · rw [if_pos hc9] at h
      refine g_iconst (pc := 63) (v := (1 : Int32)) dX3_isWord_63 rfl ?_
      cases h
      exact r_zret dX3_isWord_64 rfl rfl rfl rfl
    · rw [if_neg hc9] at h
      refine g_aload_n (pc := 36) dX3_isWord_36 rfl rfl ?_
      refine g_iload_n (pc := 37) dX3_isWord_37 rfl rfl ?_
      obtain ⟨p11, hp10, h⟩ := Option.bind_eq_some_iff.mp h
      refine r_callVT (pc := 38) (c_J0_charAt_5068e hN j1 i2 hj1 p8.2 hp10) yV_J0_charAt_5068e (fun _ _ z => gRcS z hj1) pJ0_charAt_5068e mL_X3_37 dX3_isWord_38 (Nat.le_of_ble_eq_true rfl) (Nat.le_of_ble_eq_true rfl) rfl (rK_i ?_)
      refine g_aload_n (pc := 41) dX3_isWord_41 rfl rfl ?_
      refine gf_X3_9 (pc := 42) rfl dX3_isWord_42 (Nat.lt_of_lt_of_le (by decide) hN) kd_8 ?_
      refine g_aload_n (pc := 45) dX3_isWord_45 rfl rfl ?_
      refine gf_X3_22 (pc := 46) rfl dX3_isWord_46 (Nat.lt_of_lt_of_le (by decide) hN) kd_8 ?_
      refine g_iload_n (pc := 49) dX3_isWord_49 rfl rfl ?_
      refine g_iadd (pc := 50) dX3_isWord_50 ?_
      obtain ⟨hg12, h⟩ := gd_some h
      refine r_iald (pc := 51) 160 dX3_isWord_51 (Nat.lt_of_lt_of_le (by decide) hN) kd_9 ln_9 hg12 ?_
      refine g_icmp_eq (pc := 52) 57 dX3_isWord_52 (by decide) (fun hc13 => ?_) (fun hc13 => ?_)
      · rw [if_pos hc13] at h
        refine g_iinc (pc := 57) (lv' := fun y => [(0, .ref (κ 0 + 8)), (1, .ref (κ (70 + j1))), (2, .int y)]) dX3_isWord_57 rfl (Nat.le_of_ble_eq_true rfl) (fun _ => rfl) (fun x14 e15 => ?_)
        rw [lt_of e15] at h
        refine g_goto (pc := 60) 28 dX3_isWord_60 (by decide) ?_
        refine g_lv (lv' := [(0, .ref (κ 0 + 8)), (1, .ref (κ (70 + j1))), (2, .int x14)]) rfl ?_
        exact ih _ _ h
      · rw [if_neg hc13] at h
        refine g_iconst (pc := 55) (v := (0 : Int32)) dX3_isWord_55 rfl ?_
        cases h
        exact r_zret dX3_isWord_56 rfl rfl rfl rfl
set_option maxRecDepth 100000 in
set_option maxHeartbeats 4000000 in
theorem c_X3_isWord {κ : Nat → Nat} {N : Nat} (hN : 140 ≤ N) (j1 : Nat) (hj1 : j1 < 12) (μ : gMem) {r : Int32} {μ' : gMem} (h : f_X3_isWord j1 μ = some (r, μ')) : CT2 κ N 5 yX3_isWord iX3_isWord [.ref (κ 0 + 8), .ref (κ (70 + j1))] μ (qZ r μ') := by
  refine CT2.of (by decide) rfl rfl (Nat.le_of_ble_eq_true rfl) ?_
  unfold f_X3_isWord at h
  show RR κ N 5 iX3_isWord 0 [(0, .ref (κ 0 + 8)), (1, .ref (κ (70 + j1)))] [] μ _
  refine g_aload_n (pc := 0) dX3_isWord_0 rfl rfl ?_
  refine gf_X3_29 (pc := 1) rfl dX3_isWord_1 (Nat.lt_of_lt_of_le (by decide) hN) kd_8 ?_
  refine g_iconst (pc := 4) (v := (1 : Int32)) dX3_isWord_4 rfl ?_
  refine g_icmp_ne (pc := 5) 24 dX3_isWord_5 (by decide) (fun hc1 => ?_) (fun hc1 => ?_)
  · rw [if_neg hc1] at h
    refine g_iconst (pc := 24) (v := (0 : Int32)) dX3_isWord_24 rfl ?_
    cases h
    exact r_zret dX3_isWord_25 rfl rfl rfl rfl
  · rw [if_pos hc1] at h
    refine g_aload_n (pc := 8) dX3_isWord_8 rfl rfl ?_
    obtain ⟨p3, hp2, h⟩ := Option.bind_eq_some_iff.mp h
    refine r_callVT (pc := 9) (c_J0_length_8abf5 hN j1 hj1 μ hp2) yV_J0_length_8abf5 (fun _ _ z => gRcS z hj1) pJ0_length_8abf5 mL_X3_32 dX3_isWord_9 (Nat.le_of_ble_eq_true rfl) (Nat.le_of_ble_eq_true rfl) rfl (rK_i ?_)
    refine g_aload_n (pc := 12) dX3_isWord_12 rfl rfl ?_
    refine gf_X3_19 (pc := 13) rfl dX3_isWord_13 (Nat.lt_of_lt_of_le (by decide) hN) kd_8 ?_
    refine g_aload_n (pc := 16) dX3_isWord_16 rfl rfl ?_
    refine gf_X3_22 (pc := 17) rfl dX3_isWord_17 (Nat.lt_of_lt_of_le (by decide) hN) kd_8 ?_
    refine g_isub (pc := 20) dX3_isWord_20 ?_
    refine g_icmp_eq (pc := 21) 26 dX3_isWord_21 (by decide) (fun hc4 => ?_) (fun hc4 => ?_)
    · rw [if_pos hc4] at h
      refine g_iconst (pc := 26) (v := (0 : Int32)) dX3_isWord_26 rfl ?_
      refine g_istore_n (pc := 27) (lv' := fun y => [(0, .ref (κ 0 + 8)), (1, .ref (κ (70 + j1))), (2, .int y)]) dX3_isWord_27 rfl (Nat.le_of_ble_eq_true rfl) (fun _ => rfl) (fun y5 e6 => ?_)
      rw [e6]
      exact cl_X3_isWord_28 hN j1 hj1 gF (0 : Int32) _ h
    · rw [if_neg hc4] at h
      refine g_iconst (pc := 24) (v := (0 : Int32)) dX3_isWord_24 rfl ?_
      cases h
      exact r_zret dX3_isWord_25 rfl rfl rfl rfl

def f_X3_isSemicolon  (μ : gMem) : Option (Int32 × gMem) :=
  if (μ 8 2) = (3 : Int32) then
  (if inb (μ 8 3) 160 = true then
  lt (if (μ 9 (μ 8 3).toNatClampNeg) = (59 : Int32) then (1 : Int32) else (0 : Int32)) (fun x3 =>
  some (x3, μ)) else none)
else
  (some ((0 : Int32), μ))
set_option maxRecDepth 100000 in
set_option maxHeartbeats 4000000 in
theorem c_X3_isSemicolon {κ : Nat → Nat} {N : Nat} (hN : 140 ≤ N)   (μ : gMem) {r : Int32} {μ' : gMem} (h : f_X3_isSemicolon  μ = some (r, μ')) : CT2 κ N 1 yX3_isSemicolon iX3_isSemicolon [.ref (κ 0 + 8)] μ (qZ r μ') := by
  refine CT2.of (by decide) rfl rfl (Nat.le_of_ble_eq_true rfl) ?_
  unfold f_X3_isSemicolon at h
  show RR κ N 1 iX3_isSemicolon 0 [(0, .ref (κ 0 + 8))] [] μ _
  refine g_aload_n (pc := 0) dX3_isSemicolon_0 rfl rfl ?_
  refine gf_X3_29 (pc := 1) rfl dX3_isSemicolon_1 (Nat.lt_of_lt_of_le (by decide) hN) kd_8 ?_
  refine g_iconst (pc := 4) (v := (3 : Int32)) dX3_isSemicolon_4 rfl ?_
  refine g_icmp_ne (pc := 5) 26 dX3_isSemicolon_5 (by decide) (fun hc1 => ?_) (fun hc1 => ?_)
  · rw [if_neg hc1] at h
    refine g_iconst (pc := 26) (v := (0 : Int32)) dX3_isSemicolon_26 rfl ?_
    cases h
    exact r_zret dX3_isSemicolon_27 rfl rfl rfl rfl
  · rw [if_pos hc1] at h
    refine g_aload_n (pc := 8) dX3_isSemicolon_8 rfl rfl ?_
    refine gf_X3_9 (pc := 9) rfl dX3_isSemicolon_9 (Nat.lt_of_lt_of_le (by decide) hN) kd_8 ?_
    refine g_aload_n (pc := 12) dX3_isSemicolon_12 rfl rfl ?_
    refine gf_X3_22 (pc := 13) rfl dX3_isSemicolon_13 (Nat.lt_of_lt_of_le (by decide) hN) kd_8 ?_
    obtain ⟨hg2, h⟩ := gd_some h
    refine r_iald (pc := 16) 160 dX3_isSemicolon_16 (Nat.lt_of_lt_of_le (by decide) hN) kd_9 ln_9 hg2 ?_
    refine g_bipush (pc := 17) (v := (59 : Int32)) dX3_isSemicolon_17 rfl ?_
    have key5 : ∀ x3 : Int32, x3 = (if (μ 9 (μ 8 3).toNatClampNeg) = (59 : Int32) then (1 : Int32) else (0 : Int32)) → RR κ N 1 iX3_isSemicolon 27 [(0, .ref (κ 0 + 8))] [.int x3] μ (qZ r μ') := by
      intro x3 e4
      rw [lt_of e4] at h
      cases h
      exact r_zret dX3_isSemicolon_27 rfl (nz_if e4) rfl rfl
    refine g_icmp_ne (pc := 19) 26 dX3_isSemicolon_19 (by decide) (fun hc6 => ?_) (fun hc6 => ?_)
    · refine g_iconst (pc := 26) (v := (0 : Int32)) dX3_isSemicolon_26 rfl ?_
      exact key5 _ (by rw [if_neg hc6])
    · refine g_iconst (pc := 22) (v := (1 : Int32)) dX3_isSemicolon_22 rfl ?_
      refine g_goto (pc := 23) 27 dX3_isSemicolon_23 (by decide) ?_
      exact key5 _ (by rw [if_pos hc6])

def l_X3_number_30  : Nat → Int32 → Int32 → gMem → Option (Int32 × Int32 × gMem)
  | 0, _, _, _ => none
  | n + 1, i1, i2, μ =>
  if (μ 8 4) ≤ i2 then
  (some (i1, i2, μ))
else
  (if inb i2 160 = true then
  lt (((i1 * (10 : Int32)) + (μ 9 i2.toNatClampNeg)) - (48 : Int32)) (fun x9 =>
  lt (i2 + Int32.ofInt 1) (fun x11 =>
  l_X3_number_30 n x9 x11 μ)) else none)
def f_X3_number  (μ : gMem) : Option (Int32 × gMem) :=
  if (μ 8 2) = (2 : Int32) then
  (if ((μ 8 4) - (μ 8 3)) ≤ (2 : Int32) then
  (lt (μ 8 3) (fun x5 =>
  (l_X3_number_30 gF (0 : Int32) x5 μ).bind (fun p13 =>
  some (p13.1, p13.2.2))))
else
  (some ((-1 : Int32), μ)))
else
  (some ((-1 : Int32), μ))
set_option maxRecDepth 100000 in
set_option maxHeartbeats 4000000 in
theorem cl_X3_number_30 {κ : Nat → Nat} {N : Nat} {Q : rQ} (hN : 140 ≤ N)   : ∀ (n : Nat) (i1 : Int32) (i2 : Int32) (μ : gMem) (p : Int32 × Int32 × gMem), l_X3_number_30 n i1 i2 μ = some p → RR κ N 1 iX3_number 59 [(0, .ref (κ 0 + 8)), (1, .int p.1), (2, .int p.2.1)] [] p.2.2 Q → RR κ N 1 iX3_number 30 [(0, .ref (κ 0 + 8)), (1, .int i1), (2, .int i2)] [] μ Q := by
  intro n
  induction n with
  | zero =>
    intro i1 i2 μ p h k
    unfold l_X3_number_30 at h
    cases h
  | succ n ih =>
    intro i1 i2 μ p h k
    unfold l_X3_number_30 at h
    refine g_iload_n (pc := 30) dX3_number_30 rfl rfl ?_
    refine g_aload_n (pc := 31) dX3_number_31 rfl rfl ?_
    refine gf_X3_19 (pc := 32) rfl dX3_number_32 (Nat.lt_of_lt_of_le (by decide) hN) kd_8 ?_
    refine g_icmp_ge (pc := 35) 59 dX3_number_35 (by decide) (fun hc7 => ?_) (fun hc7 => ?_)
    · rw [if_pos hc7] at h
      cases h
      exact k
    · rw [if_neg hc7] at h
      refine g_iload_n (pc := 38) dX3_number_38 rfl rfl ?_
      refine g_bipush (pc := 39) (v := (10 : Int32)) dX3_number_39 rfl ?_
      refine g_imul (pc := 41) dX3_number_41 ?_
      refine g_aload_n (pc := 42) dX3_number_42 rfl rfl ?_
      refine gf_X3_9 (pc := 43) rfl dX3_number_43 (Nat.lt_of_lt_of_le (by decide) hN) kd_8 ?_
      refine g_iload_n (pc := 46) dX3_number_46 rfl rfl ?_
      obtain ⟨hg8, h⟩ := gd_some h
      refine r_iald (pc := 47) 160 dX3_number_47 (Nat.lt_of_lt_of_le (by decide) hN) kd_9 ln_9 hg8 ?_
      refine g_iadd (pc := 48) dX3_number_48 ?_
      refine g_bipush (pc := 49) (v := (48 : Int32)) dX3_number_49 rfl ?_
      refine g_isub (pc := 51) dX3_number_51 ?_
      refine g_istore_n (pc := 52) (lv' := fun y => [(0, .ref (κ 0 + 8)), (1, .int y), (2, .int i2)]) dX3_number_52 rfl (Nat.le_of_ble_eq_true rfl) (fun _ => rfl) (fun x9 e10 => ?_)
      rw [lt_of e10] at h
      refine g_iinc (pc := 53) (lv' := fun y => [(0, .ref (κ 0 + 8)), (1, .int x9), (2, .int y)]) dX3_number_53 rfl (Nat.le_of_ble_eq_true rfl) (fun _ => rfl) (fun x11 e12 => ?_)
      rw [lt_of e12] at h
      refine g_goto (pc := 56) 30 dX3_number_56 (by decide) ?_
      refine g_lv (lv' := [(0, .ref (κ 0 + 8)), (1, .int x9), (2, .int x11)]) rfl ?_
      exact ih _ _ _ _ h k
set_option maxRecDepth 100000 in
set_option maxHeartbeats 4000000 in
theorem c_X3_number {κ : Nat → Nat} {N : Nat} (hN : 140 ≤ N)   (μ : gMem) {r : Int32} {μ' : gMem} (h : f_X3_number  μ = some (r, μ')) : CT2 κ N 1 yX3_number iX3_number [.ref (κ 0 + 8)] μ (qI r μ') := by
  refine CT2.of (by decide) rfl rfl (Nat.le_of_ble_eq_true rfl) ?_
  unfold f_X3_number at h
  show RR κ N 1 iX3_number 0 [(0, .ref (κ 0 + 8))] [] μ _
  refine g_aload_n (pc := 0) dX3_number_0 rfl rfl ?_
  refine gf_X3_29 (pc := 1) rfl dX3_number_1 (Nat.lt_of_lt_of_le (by decide) hN) kd_8 ?_
  refine g_iconst (pc := 4) (v := (2 : Int32)) dX3_number_4 rfl ?_
  refine g_icmp_ne (pc := 5) 21 dX3_number_5 (by decide) (fun hc1 => ?_) (fun hc1 => ?_)
  · rw [if_neg hc1] at h
    refine g_iconst (pc := 21) (v := (-1 : Int32)) dX3_number_21 rfl ?_
    cases h
    exact r_iret dX3_number_22 rfl rfl rfl
  · rw [if_pos hc1] at h
    refine g_aload_n (pc := 8) dX3_number_8 rfl rfl ?_
    refine gf_X3_19 (pc := 9) rfl dX3_number_9 (Nat.lt_of_lt_of_le (by decide) hN) kd_8 ?_
    refine g_aload_n (pc := 12) dX3_number_12 rfl rfl ?_
    refine gf_X3_22 (pc := 13) rfl dX3_number_13 (Nat.lt_of_lt_of_le (by decide) hN) kd_8 ?_
    refine g_isub (pc := 16) dX3_number_16 ?_
    refine g_iconst (pc := 17) (v := (2 : Int32)) dX3_number_17 rfl ?_
    refine g_icmp_le (pc := 18) 23 dX3_number_18 (by decide) (fun hc2 => ?_) (fun hc2 => ?_)
    · rw [if_pos hc2] at h
      refine g_iconst (pc := 23) (v := (0 : Int32)) dX3_number_23 rfl ?_
      refine g_istore_n (pc := 24) (lv' := fun y => [(0, .ref (κ 0 + 8)), (1, .int y)]) dX3_number_24 rfl (Nat.le_of_ble_eq_true rfl) (fun _ => rfl) (fun y3 e4 => ?_)
      rw [e4]
      refine g_aload_n (pc := 25) dX3_number_25 rfl rfl ?_
      refine gf_X3_22 (pc := 26) rfl dX3_number_26 (Nat.lt_of_lt_of_le (by decide) hN) kd_8 ?_
      refine g_istore_n (pc := 29) (lv' := fun y => [(0, .ref (κ 0 + 8)), (1, .int (0 : Int32)), (2, .int y)]) dX3_number_29 rfl (Nat.le_of_ble_eq_true rfl) (fun _ => rfl) (fun x5 e6 => ?_)
      rw [lt_of e6] at h
      obtain ⟨p13, hp14, h⟩ := Option.bind_eq_some_iff.mp h
      refine cl_X3_number_30 hN   gF (0 : Int32) x5 _ _ hp14 ?_
      refine g_iload_n (pc := 59) dX3_number_59 rfl rfl ?_
      cases h
      exact r_iret dX3_number_60 rfl rfl rfl
    · rw [if_neg hc2] at h
      refine g_iconst (pc := 21) (v := (-1 : Int32)) dX3_number_21 rfl ?_
      cases h
      exact r_iret dX3_number_22 rfl rfl rfl

def l_X5_workers_4 (a0 : Nat) : Nat → Int32 → Int32 → gMem → Option (Int32 × Int32 × gMem)
  | 0, _, _, _ => none
  | n + 1, i1, i2, μ =>
  if (5 : Int32) ≤ i2 then
  (some (i1, i2, μ))
else
  (if inb i2 5 = true then
  if (μ ((a0 + 1) + 1 + i2.toNatClampNeg) 0) = 0 then
  (lt (i2 + Int32.ofInt 1) (fun x8 =>
  l_X5_workers_4 a0 n i1 x8 μ))
else
  (lt (i1 ||| ((1 : Int32) <<< (i2 &&& 31))) (fun x10 =>
  lt (i2 + Int32.ofInt 1) (fun x12 =>
  l_X5_workers_4 a0 n x10 x12 μ))) else none)
def f_X5_workers (a0 : Nat) (μ : gMem) : Option (Int32 × gMem) :=
  (l_X5_workers_4 a0 gF (0 : Int32) (0 : Int32) μ).bind (fun p14 =>
  some (p14.1, p14.2.2))
set_option maxRecDepth 100000 in
set_option maxHeartbeats 4000000 in
theorem cl_X5_workers_4 {κ : Nat → Nat} {N : Nat} {Q : rQ} (hN : 140 ≤ N) (a0 : Nat) (h0 : kd a0 = 5) (g0 : a0 < N) : ∀ (n : Nat) (i1 : Int32) (i2 : Int32) (μ : gMem) (p : Int32 × Int32 × gMem), l_X5_workers_4 a0 n i1 i2 μ = some p → RR κ N 1 iX5_workers 33 [(0, .ref (κ 0 + a0)), (1, .int p.1), (2, .int p.2.1)] [] p.2.2 Q → RR κ N 1 iX5_workers 4 [(0, .ref (κ 0 + a0)), (1, .int i1), (2, .int i2)] [] μ Q := by
  intro n
  induction n with
  | zero =>
    intro i1 i2 μ p h k
    unfold l_X5_workers_4 at h
    cases h
  | succ n ih =>
    intro i1 i2 μ p h k
    unfold l_X5_workers_4 at h
    refine g_iload_n (pc := 4) dX5_workers_4 rfl rfl ?_
    refine g_iconst (pc := 5) (v := (5 : Int32)) dX5_workers_5 rfl ?_
    refine g_icmp_ge (pc := 6) 33 dX5_workers_6 (by decide) (fun hc5 => ?_) (fun hc5 => ?_)
    · rw [if_pos hc5] at h
      cases h
      exact k
    · rw [if_neg hc5] at h
      refine g_aload_n (pc := 9) dX5_workers_9 rfl rfl ?_
      refine gf_X5_11 (pc := 10) rfl dX5_workers_10 g0 h0 ?_
      refine g_iload_n (pc := 13) dX5_workers_13 rfl rfl ?_
      obtain ⟨hg6, h⟩ := gd_some h
      refine r_aald (pc := 14) 24 5 ((a0 + 1) + 1 + i2.toNatClampNeg) dX5_workers_14 (Nat.lt_of_lt_of_le (Nat.lt_of_lt_of_le (Nat.lt_of_succ_le (Nat.add_le_add_left (by decide : 2 ≤ 7) _)) (kd_scene h0).2.2) hN) (kd_scene h0).1 (by decide) (kd_scene h0).2.1 hg6 rfl ?_
      refine gf_X5_70 (pc := 15) rfl dX5_workers_15 (Nat.lt_of_lt_of_le (kd_warr (kd_scene h0).1 (inb_lt hg6)).2 hN) (kd_warr (kd_scene h0).1 (inb_lt hg6)).1 ?_
      refine g_if_eq (pc := 18) 27 dX5_workers_18 (by decide) (fun hc7 => ?_) (fun hc7 => ?_)
      · rw [if_pos hc7] at h
        refine g_iinc (pc := 27) (lv' := fun y => [(0, .ref (κ 0 + a0)), (1, .int i1), (2, .int y)]) dX5_workers_27 rfl (Nat.le_of_ble_eq_true rfl) (fun _ => rfl) (fun x8 e9 => ?_)
        rw [lt_of e9] at h
        refine g_goto (pc := 30) 4 dX5_workers_30 (by decide) ?_
        refine g_lv (lv' := [(0, .ref (κ 0 + a0)), (1, .int i1), (2, .int x8)]) rfl ?_
        exact ih _ _ _ _ h k
      · rw [if_neg hc7] at h
        refine g_iload_n (pc := 21) dX5_workers_21 rfl rfl ?_
        refine g_iconst (pc := 22) (v := (1 : Int32)) dX5_workers_22 rfl ?_
        refine g_iload_n (pc := 23) dX5_workers_23 rfl rfl ?_
        refine g_ishl (pc := 24) dX5_workers_24 ?_
        refine g_ior (pc := 25) dX5_workers_25 ?_
        refine g_istore_n (pc := 26) (lv' := fun y => [(0, .ref (κ 0 + a0)), (1, .int y), (2, .int i2)]) dX5_workers_26 rfl (Nat.le_of_ble_eq_true rfl) (fun _ => rfl) (fun x10 e11 => ?_)
        rw [lt_of e11] at h
        refine g_iinc (pc := 27) (lv' := fun y => [(0, .ref (κ 0 + a0)), (1, .int x10), (2, .int y)]) dX5_workers_27 rfl (Nat.le_of_ble_eq_true rfl) (fun _ => rfl) (fun x12 e13 => ?_)
        rw [lt_of e13] at h
        refine g_goto (pc := 30) 4 dX5_workers_30 (by decide) ?_
        refine g_lv (lv' := [(0, .ref (κ 0 + a0)), (1, .int x10), (2, .int x12)]) rfl ?_
        exact ih _ _ _ _ h k
set_option maxRecDepth 100000 in
set_option maxHeartbeats 4000000 in
theorem c_X5_workers {κ : Nat → Nat} {N : Nat} (hN : 140 ≤ N) (a0 : Nat) (h0 : kd a0 = 5) (μ : gMem) {r : Int32} {μ' : gMem} (h : f_X5_workers a0 μ = some (r, μ')) : CT2 κ N 1 yX5_workers iX5_workers [.ref (κ 0 + a0)] μ (qI r μ') := by
  refine CT2.of (by decide) rfl rfl (Nat.le_of_ble_eq_true rfl) ?_
  unfold f_X5_workers at h
  show RR κ N 1 iX5_workers 0 [(0, .ref (κ 0 + a0))] [] μ _
  refine g_iconst (pc := 0) (v := (0 : Int32)) dX5_workers_0 rfl ?_
  refine g_istore_n (pc := 1) (lv' := fun y => [(0, .ref (κ 0 + a0)), (1, .int y)]) dX5_workers_1 rfl (Nat.le_of_ble_eq_true rfl) (fun _ => rfl) (fun y1 e2 => ?_)
  rw [e2]
  refine g_iconst (pc := 2) (v := (0 : Int32)) dX5_workers_2 rfl ?_
  refine g_istore_n (pc := 3) (lv' := fun y => [(0, .ref (κ 0 + a0)), (1, .int (0 : Int32)), (2, .int y)]) dX5_workers_3 rfl (Nat.le_of_ble_eq_true rfl) (fun _ => rfl) (fun y3 e4 => ?_)
  rw [e4]
  obtain ⟨p14, hp15, h⟩ := Option.bind_eq_some_iff.mp h
  refine cl_X5_workers_4 hN a0 h0 (Nat.lt_of_lt_of_le (kd_obj h0 (by decide)) hN) gF (0 : Int32) (0 : Int32) _ _ hp15 ?_
  refine g_iload_n (pc := 33) dX5_workers_33 rfl rfl ?_
  cases h
  exact r_iret dX5_workers_34 rfl rfl rfl

def f_X6_walk (a0 : Nat) (i1 : Int32) (μ : gMem) : Option (Int32 × gMem) :=
  if (μ a0 0) = (1 : Int32) then
  (if (3 : Int32) ≤ i1 then
  (some (((μ a0 1) + (1 : Int32)), μ))
else
  (some ((if (1 : Int32) < ((μ a0 1) - (1 : Int32)) then ((μ a0 1) - (1 : Int32)) else (1 : Int32)), μ)))
else
  (some ((μ a0 1), μ))
set_option maxRecDepth 100000 in
set_option maxHeartbeats 4000000 in
theorem c_X6_walk {κ : Nat → Nat} {N : Nat} (hN : 140 ≤ N) (a0 : Nat) (i1 : Int32) (h0 : kd a0 = 6) (μ : gMem) {r : Int32} {μ' : gMem} (h : f_X6_walk a0 i1 μ = some (r, μ')) : CT2 κ N 1 yX6_walk iX6_walk [.ref (κ 0 + a0), .int i1] μ (qI r μ') := by
  refine CT2.of (by decide) rfl rfl (Nat.le_of_ble_eq_true rfl) ?_
  unfold f_X6_walk at h
  show RR κ N 1 iX6_walk 0 [(0, .ref (κ 0 + a0)), (1, .int i1)] [] μ _
  refine g_aload_n (pc := 0) dX6_walk_0 rfl rfl ?_
  refine gf_X6_9 (pc := 1) rfl dX6_walk_1 (Nat.lt_of_lt_of_le (kd_obj h0 (by decide)) hN) h0 ?_
  refine g_iconst (pc := 4) (v := (1 : Int32)) dX6_walk_4 rfl ?_
  refine g_icmp_eq (pc := 5) 13 dX6_walk_5 (by decide) (fun hc1 => ?_) (fun hc1 => ?_)
  · rw [if_pos hc1] at h
    refine g_iload_n (pc := 13) dX6_walk_13 rfl rfl ?_
    refine g_iconst (pc := 14) (v := (3 : Int32)) dX6_walk_14 rfl ?_
    refine g_icmp_ge (pc := 15) 31 dX6_walk_15 (by decide) (fun hc2 => ?_) (fun hc2 => ?_)
    · rw [if_pos hc2] at h
      refine g_aload_n (pc := 31) dX6_walk_31 rfl rfl ?_
      refine gf_X6_15 (pc := 32) rfl dX6_walk_32 (Nat.lt_of_lt_of_le (kd_obj h0 (by decide)) hN) h0 ?_
      refine g_iconst (pc := 35) (v := (1 : Int32)) dX6_walk_35 rfl ?_
      refine g_iadd (pc := 36) dX6_walk_36 ?_
      cases h
      exact r_iret dX6_walk_37 rfl rfl rfl
    · rw [if_neg hc2] at h
      refine g_iconst (pc := 18) (v := (1 : Int32)) dX6_walk_18 rfl ?_
      refine g_aload_n (pc := 19) dX6_walk_19 rfl rfl ?_
      refine gf_X6_15 (pc := 20) rfl dX6_walk_20 (Nat.lt_of_lt_of_le (kd_obj h0 (by decide)) hN) h0 ?_
      refine g_iconst (pc := 23) (v := (1 : Int32)) dX6_walk_23 rfl ?_
      refine g_isub (pc := 24) dX6_walk_24 ?_
      refine g_mmax (pc := 25) dX6_walk_25 mL_X6_18 mMax (Nat.le_of_ble_eq_true rfl) (by decide) ?_
      refine g_goto (pc := 28) 37 dX6_walk_28 (by decide) ?_
      cases h
      exact r_iret dX6_walk_37 rfl rfl rfl
  · rw [if_neg hc1] at h
    refine g_aload_n (pc := 8) dX6_walk_8 rfl rfl ?_
    refine gf_X6_15 (pc := 9) rfl dX6_walk_9 (Nat.lt_of_lt_of_le (kd_obj h0 (by decide)) hN) h0 ?_
    cases h
    exact r_iret dX6_walk_12 rfl rfl rfl

def f_X6_walkBack (a0 : Nat) (i1 : Int32) (μ : gMem) : Option (Int32 × gMem) :=
  if (μ a0 0) = (2 : Int32) then
  ((f_X6_walk a0 i1 μ).bind (fun p5 =>
  some ((p5.1 + (2 : Int32)), p5.2)))
else
  ((f_X6_walk a0 i1 μ).bind (fun p3 =>
  some (p3.1, p3.2)))
set_option maxRecDepth 100000 in
set_option maxHeartbeats 4000000 in
theorem c_X6_walkBack {κ : Nat → Nat} {N : Nat} (hN : 140 ≤ N) (a0 : Nat) (i1 : Int32) (h0 : kd a0 = 6) (μ : gMem) {r : Int32} {μ' : gMem} (h : f_X6_walkBack a0 i1 μ = some (r, μ')) : CT2 κ N 2 yX6_walkBack iX6_walkBack [.ref (κ 0 + a0), .int i1] μ (qI r μ') := by
  refine CT2.of (by decide) rfl rfl (Nat.le_of_ble_eq_true rfl) ?_
  unfold f_X6_walkBack at h
  show RR κ N 2 iX6_walkBack 0 [(0, .ref (κ 0 + a0)), (1, .int i1)] [] μ _
  refine g_aload_n (pc := 0) dX6_walkBack_0 rfl rfl ?_
  refine gf_X6_9 (pc := 1) rfl dX6_walkBack_1 (Nat.lt_of_lt_of_le (kd_obj h0 (by decide)) hN) h0 ?_
  refine g_iconst (pc := 4) (v := (2 : Int32)) dX6_walkBack_4 rfl ?_
  refine g_icmp_ne (pc := 5) 18 dX6_walkBack_5 (by decide) (fun hc1 => ?_) (fun hc1 => ?_)
  · rw [if_neg hc1] at h
    refine g_aload_n (pc := 18) dX6_walkBack_18 rfl rfl ?_
    refine g_iload_n (pc := 19) dX6_walkBack_19 rfl rfl ?_
    obtain ⟨p3, hp2, h⟩ := Option.bind_eq_some_iff.mp h
    refine r_callV (ci := 6) (pc := 20) (c_X6_walk hN a0 i1 h0 μ hp2) yV_X6_walk ⟨rfl, by decide⟩ pX6_walk mL_X6_24 dX6_walkBack_20 (Nat.le_of_ble_eq_true rfl) (Nat.le_of_ble_eq_true rfl) (Nat.lt_of_lt_of_le (kd_obj h0 (by decide)) hN) h0 rfl (rK_i ?_)
    cases h
    exact r_iret dX6_walkBack_23 rfl rfl rfl
  · rw [if_pos hc1] at h
    refine g_aload_n (pc := 8) dX6_walkBack_8 rfl rfl ?_
    refine g_iload_n (pc := 9) dX6_walkBack_9 rfl rfl ?_
    obtain ⟨p5, hp4, h⟩ := Option.bind_eq_some_iff.mp h
    refine r_callV (ci := 6) (pc := 10) (c_X6_walk hN a0 i1 h0 μ hp4) yV_X6_walk ⟨rfl, by decide⟩ pX6_walk mL_X6_24 dX6_walkBack_10 (Nat.le_of_ble_eq_true rfl) (Nat.le_of_ble_eq_true rfl) (Nat.lt_of_lt_of_le (kd_obj h0 (by decide)) hN) h0 rfl (rK_i ?_)
    refine g_iconst (pc := 13) (v := (2 : Int32)) dX6_walkBack_13 rfl ?_
    refine g_iadd (pc := 14) dX6_walkBack_14 ?_
    refine g_goto (pc := 15) 23 dX6_walkBack_15 (by decide) ?_
    cases h
    exact r_iret dX6_walkBack_23 rfl rfl rfl

def f_X6_drip (a0 : Nat) (μ : gMem) : Option (Int32 × gMem) :=
  if (μ a0 3) = (1 : Int32) then
  (some (((μ a0 4) / (2 : Int32)), μ))
else
  (if (μ a0 3) = (2 : Int32) then
  (some ((if (0 : Int32) < (((μ a0 4) / (2 : Int32)) - (1 : Int32)) then (((μ a0 4) / (2 : Int32)) - (1 : Int32)) else (0 : Int32)), μ))
else
  (if (μ a0 3) = (3 : Int32) then
  (some (((μ a0 4) + (2 : Int32)), μ))
else
  (some ((μ a0 4), μ))))
set_option maxRecDepth 100000 in
set_option maxHeartbeats 4000000 in
theorem c_X6_drip {κ : Nat → Nat} {N : Nat} (hN : 140 ≤ N) (a0 : Nat) (h0 : kd a0 = 6) (μ : gMem) {r : Int32} {μ' : gMem} (h : f_X6_drip a0 μ = some (r, μ')) : CT2 κ N 1 yX6_drip iX6_drip [.ref (κ 0 + a0)] μ (qI r μ') := by
  refine CT2.of (by decide) rfl rfl (Nat.le_of_ble_eq_true rfl) ?_
  unfold f_X6_drip at h
  show RR κ N 1 iX6_drip 0 [(0, .ref (κ 0 + a0))] [] μ _
  refine g_aload_n (pc := 0) dX6_drip_0 rfl rfl ?_
  refine gf_X6_28 (pc := 1) rfl dX6_drip_1 (Nat.lt_of_lt_of_le (kd_obj h0 (by decide)) hN) h0 ?_
  by_cases hc1 : (μ a0 3) = (1 : Int32)
  · rw [if_pos hc1] at h
    refine g_tableIn (pc := 4) 32 dX6_drip_4 (by rw [hc1]; decide) (by rw [hc1]; decide) (by rw [hc1]; rfl) (by decide) ?_
    refine g_aload_n (pc := 32) dX6_drip_32 rfl rfl ?_
    refine gf_X6_31 (pc := 33) rfl dX6_drip_33 (Nat.lt_of_lt_of_le (kd_obj h0 (by decide)) hN) h0 ?_
    refine g_iconst (pc := 36) (v := (2 : Int32)) dX6_drip_36 rfl ?_
    refine g_idiv (pc := 37) dX6_drip_37 (by decide) ?_
    cases h
    exact r_iret dX6_drip_38 rfl rfl rfl
  · rw [if_neg hc1] at h
    by_cases hc2 : (μ a0 3) = (2 : Int32)
    · rw [if_pos hc2] at h
      refine g_tableIn (pc := 4) 39 dX6_drip_4 (by rw [hc2]; decide) (by rw [hc2]; decide) (by rw [hc2]; rfl) (by decide) ?_
      refine g_iconst (pc := 39) (v := (0 : Int32)) dX6_drip_39 rfl ?_
      refine g_aload_n (pc := 40) dX6_drip_40 rfl rfl ?_
      refine gf_X6_31 (pc := 41) rfl dX6_drip_41 (Nat.lt_of_lt_of_le (kd_obj h0 (by decide)) hN) h0 ?_
      refine g_iconst (pc := 44) (v := (2 : Int32)) dX6_drip_44 rfl ?_
      refine g_idiv (pc := 45) dX6_drip_45 (by decide) ?_
      refine g_iconst (pc := 46) (v := (1 : Int32)) dX6_drip_46 rfl ?_
      refine g_isub (pc := 47) dX6_drip_47 ?_
      refine g_mmax (pc := 48) dX6_drip_48 mL_X6_18 mMax (Nat.le_of_ble_eq_true rfl) (by decide) ?_
      cases h
      exact r_iret dX6_drip_51 rfl rfl rfl
    · rw [if_neg hc2] at h
      by_cases hc3 : (μ a0 3) = (3 : Int32)
      · rw [if_pos hc3] at h
        refine g_tableIn (pc := 4) 52 dX6_drip_4 (by rw [hc3]; decide) (by rw [hc3]; decide) (by rw [hc3]; rfl) (by decide) ?_
        refine g_aload_n (pc := 52) dX6_drip_52 rfl rfl ?_
        refine gf_X6_31 (pc := 53) rfl dX6_drip_53 (Nat.lt_of_lt_of_le (kd_obj h0 (by decide)) hN) h0 ?_
        refine g_iconst (pc := 56) (v := (2 : Int32)) dX6_drip_56 rfl ?_
        refine g_iadd (pc := 57) dX6_drip_57 ?_
        cases h
        exact r_iret dX6_drip_58 rfl rfl rfl
      · rw [if_neg hc3] at h
        refine g_tableOut (pc := 4) 59 dX6_drip_4 (by have q0 := lv_neT hc1 (a := 1) (by decide); have q1 := lv_neT hc2 (a := 2) (by decide); have q2 := lv_neT hc3 (a := 3) (by decide); omega) (by decide) ?_
        refine g_aload_n (pc := 59) dX6_drip_59 rfl rfl ?_
        refine gf_X6_31 (pc := 60) rfl dX6_drip_60 (Nat.lt_of_lt_of_le (kd_obj h0 (by decide)) hN) h0 ?_
        cases h
        exact r_iret dX6_drip_63 rfl rfl rfl

def f_X7_setFrost (i1 : Int32) (i2 : Int32) (μ : gMem) : Option (gMem) :=
  lt (st μ 1 6 i1) (fun m1 =>
  lt (st m1 1 7 i2) (fun m3 =>
  some m3))
set_option maxRecDepth 100000 in
set_option maxHeartbeats 4000000 in
theorem c_X7_setFrost {κ : Nat → Nat} {N : Nat} (hN : 140 ≤ N) (i1 : Int32) (i2 : Int32)  (μ : gMem) {μ' : gMem} (h : f_X7_setFrost i1 i2 μ = some μ') : CT2 κ N 1 yX7_setFrost iX7_setFrost [.ref (κ 0 + 1), .int i1, .int i2] μ (qV μ') := by
  refine CT2.of (by decide) rfl rfl (Nat.le_of_ble_eq_true rfl) ?_
  unfold f_X7_setFrost at h
  show RR κ N 1 iX7_setFrost 0 [(0, .ref (κ 0 + 1)), (1, .int i1), (2, .int i2)] [] μ _
  refine g_aload_n (pc := 0) dX7_setFrost_0 rfl rfl ?_
  refine g_iload_n (pc := 1) dX7_setFrost_1 rfl rfl ?_
  refine pf_X7_41 (pc := 2) rfl dX7_setFrost_2 (Nat.lt_of_lt_of_le (by decide) hN) kd_1 (fun m1 e2 => ?_)
  rw [lt_of e2] at h
  refine g_aload_n (pc := 5) dX7_setFrost_5 rfl rfl ?_
  refine g_iload_n (pc := 6) dX7_setFrost_6 rfl rfl ?_
  refine pf_X7_44 (pc := 7) rfl dX7_setFrost_7 (Nat.lt_of_lt_of_le (by decide) hN) kd_1 (fun m3 e4 => ?_)
  rw [lt_of e4] at h
  cases h
  exact r_vret dX7_setFrost_10 rfl rfl

def f_X7_isFrost (i1 : Int32) (μ : gMem) : Option (Int32 × gMem) :=
  if i1 < (μ 1 6) then
  (some ((0 : Int32), μ))
else
  (lt (if (μ 1 7) < i1 then (0 : Int32) else (1 : Int32)) (fun x2 =>
  some (x2, μ)))
set_option maxRecDepth 100000 in
set_option maxHeartbeats 4000000 in
theorem c_X7_isFrost {κ : Nat → Nat} {N : Nat} (hN : 140 ≤ N) (i1 : Int32)  (μ : gMem) {r : Int32} {μ' : gMem} (h : f_X7_isFrost i1 μ = some (r, μ')) : CT2 κ N 1 yX7_isFrost iX7_isFrost [.ref (κ 0 + 1), .int i1] μ (qZ r μ') := by
  refine CT2.of (by decide) rfl rfl (Nat.le_of_ble_eq_true rfl) ?_
  unfold f_X7_isFrost at h
  show RR κ N 1 iX7_isFrost 0 [(0, .ref (κ 0 + 1)), (1, .int i1)] [] μ _
  refine g_iload_n (pc := 0) dX7_isFrost_0 rfl rfl ?_
  refine g_aload_n (pc := 1) dX7_isFrost_1 rfl rfl ?_
  refine gf_X7_41 (pc := 2) rfl dX7_isFrost_2 (Nat.lt_of_lt_of_le (by decide) hN) kd_1 ?_
  refine g_icmp_lt (pc := 5) 20 dX7_isFrost_5 (by decide) (fun hc1 => ?_) (fun hc1 => ?_)
  · rw [if_pos hc1] at h
    refine g_iconst (pc := 20) (v := (0 : Int32)) dX7_isFrost_20 rfl ?_
    cases h
    exact r_zret dX7_isFrost_21 rfl rfl rfl rfl
  · rw [if_neg hc1] at h
    refine g_iload_n (pc := 8) dX7_isFrost_8 rfl rfl ?_
    refine g_aload_n (pc := 9) dX7_isFrost_9 rfl rfl ?_
    refine gf_X7_44 (pc := 10) rfl dX7_isFrost_10 (Nat.lt_of_lt_of_le (by decide) hN) kd_1 ?_
    have key4 : ∀ x2 : Int32, x2 = (if (μ 1 7) < i1 then (0 : Int32) else (1 : Int32)) → RR κ N 1 iX7_isFrost 21 [(0, .ref (κ 0 + 1)), (1, .int i1)] [.int x2] μ (qZ r μ') := by
      intro x2 e3
      rw [lt_of e3] at h
      cases h
      exact r_zret dX7_isFrost_21 rfl (nz_if' e3) rfl rfl
    refine g_icmp_gt (pc := 13) 20 dX7_isFrost_13 (by decide) (fun hc5 => ?_) (fun hc5 => ?_)
    · refine g_iconst (pc := 20) (v := (0 : Int32)) dX7_isFrost_20 rfl ?_
      exact key4 _ (by rw [if_pos hc5])
    · refine g_iconst (pc := 16) (v := (1 : Int32)) dX7_isFrost_16 rfl ?_
      refine g_goto (pc := 17) 21 dX7_isFrost_17 (by decide) ?_
      exact key4 _ (by rw [if_neg hc5])

def f_X7_addSister (i1 : Int32) (i2 : Int32) (i3 : Int32) (μ : gMem) : Option (gMem) :=
  if (μ 1 1) < (5 : Int32) then
  (if inb (μ 1 1) 5 = true then
  lt (st μ (2 + 1 + (μ 1 1).toNatClampNeg) 0 i1) (fun m5 =>
  lt (st m5 (2 + 1 + (μ 1 1).toNatClampNeg) 1 i2) (fun m7 =>
  lt (st m7 (2 + 1 + (μ 1 1).toNatClampNeg) 2 i3) (fun m9 =>
  lt (st m9 (2 + 1 + (μ 1 1).toNatClampNeg) 3 (m9 1 2)) (fun m11 =>
  lt (st m11 (2 + 1 + (μ 1 1).toNatClampNeg) 4 (m11 1 3)) (fun m13 =>
  lt (st m13 1 1 ((m13 1 1) + (1 : Int32))) (fun m15 =>
  some m15)))))) else none)
else
  (some μ)
set_option maxRecDepth 100000 in
set_option maxHeartbeats 4000000 in
theorem c_X7_addSister {κ : Nat → Nat} {N : Nat} (hN : 140 ≤ N) (i1 : Int32) (i2 : Int32) (i3 : Int32)  (μ : gMem) {μ' : gMem} (h : f_X7_addSister i1 i2 i3 μ = some μ') : CT2 κ N 1 yX7_addSister iX7_addSister [.ref (κ 0 + 1), .int i1, .int i2, .int i3] μ (qV μ') := by
  refine CT2.of (by decide) rfl rfl (Nat.le_of_ble_eq_true rfl) ?_
  unfold f_X7_addSister at h
  show RR κ N 1 iX7_addSister 0 [(0, .ref (κ 0 + 1)), (1, .int i1), (2, .int i2), (3, .int i3)] [] μ _
  refine g_aload_n (pc := 0) dX7_addSister_0 rfl rfl ?_
  refine gf_X7_21 (pc := 1) rfl dX7_addSister_1 (Nat.lt_of_lt_of_le (by decide) hN) kd_1 ?_
  refine g_iconst (pc := 4) (v := (5 : Int32)) dX7_addSister_4 rfl ?_
  refine g_icmp_lt (pc := 5) 9 dX7_addSister_5 (by decide) (fun hc1 => ?_) (fun hc1 => ?_)
  · rw [if_pos hc1] at h
    refine g_aload_n (pc := 9) dX7_addSister_9 rfl rfl ?_
    refine gf_X7_11 (pc := 10) rfl dX7_addSister_10 (Nat.lt_of_lt_of_le (by decide) hN) kd_1 ?_
    refine g_aload_n (pc := 13) dX7_addSister_13 rfl rfl ?_
    refine gf_X7_21 (pc := 14) rfl dX7_addSister_14 (Nat.lt_of_lt_of_le (by decide) hN) kd_1 ?_
    obtain ⟨hg2, h⟩ := gd_some h
    refine r_aald (pc := 17) 23 5 (2 + 1 + (μ 1 1).toNatClampNeg) dX7_addSister_17 (Nat.lt_of_lt_of_le (by decide) hN) kd_2 (by decide) ln_2 hg2 rfl ?_
    refine g_astore (pc := 18) (lv' := fun y => [(0, .ref (κ 0 + 1)), (1, .int i1), (2, .int i2), (3, .int i3), (4, .ref y)]) dX7_addSister_18 (Nat.le_of_ble_eq_true rfl) (fun _ => rfl) (fun y3 e4 => ?_)
    rw [e4]
    refine g_aload (pc := 20) dX7_addSister_20 rfl ?_
    refine g_iload_n (pc := 22) dX7_addSister_22 rfl rfl ?_
    refine pf_X7_51 (pc := 23) rfl dX7_addSister_23 (Nat.lt_of_lt_of_le (kd_sis (inb_lt hg2)).2 hN) (kd_sis (inb_lt hg2)).1 (fun m5 e6 => ?_)
    rw [lt_of e6] at h
    refine g_aload (pc := 26) dX7_addSister_26 rfl ?_
    refine g_iload_n (pc := 28) dX7_addSister_28 rfl rfl ?_
    refine pf_X7_54 (pc := 29) rfl dX7_addSister_29 (Nat.lt_of_lt_of_le (kd_sis (inb_lt hg2)).2 hN) (kd_sis (inb_lt hg2)).1 (fun m7 e8 => ?_)
    rw [lt_of e8] at h
    refine g_aload (pc := 32) dX7_addSister_32 rfl ?_
    refine g_iload_n (pc := 34) dX7_addSister_34 rfl rfl ?_
    refine pf_X7_57 (pc := 35) rfl dX7_addSister_35 (Nat.lt_of_lt_of_le (kd_sis (inb_lt hg2)).2 hN) (kd_sis (inb_lt hg2)).1 (fun m9 e10 => ?_)
    rw [lt_of e10] at h
    refine g_aload (pc := 38) dX7_addSister_38 rfl ?_
    refine g_aload_n (pc := 40) dX7_addSister_40 rfl rfl ?_
    refine gf_X7_25 (pc := 41) rfl dX7_addSister_41 (Nat.lt_of_lt_of_le (by decide) hN) kd_1 ?_
    refine pf_X7_60 (pc := 44) rfl dX7_addSister_44 (Nat.lt_of_lt_of_le (kd_sis (inb_lt hg2)).2 hN) (kd_sis (inb_lt hg2)).1 (fun m11 e12 => ?_)
    rw [lt_of e12] at h
    refine g_aload (pc := 47) dX7_addSister_47 rfl ?_
    refine g_aload_n (pc := 49) dX7_addSister_49 rfl rfl ?_
    refine gf_X7_28 (pc := 50) rfl dX7_addSister_50 (Nat.lt_of_lt_of_le (by decide) hN) kd_1 ?_
    refine pf_X7_61 (pc := 53) rfl dX7_addSister_53 (Nat.lt_of_lt_of_le (kd_sis (inb_lt hg2)).2 hN) (kd_sis (inb_lt hg2)).1 (fun m13 e14 => ?_)
    rw [lt_of e14] at h
    refine g_aload_n (pc := 56) dX7_addSister_56 rfl rfl ?_
    refine g_dup (pc := 57) dX7_addSister_57 rfl ?_
    refine gf_X7_21 (pc := 58) rfl dX7_addSister_58 (Nat.lt_of_lt_of_le (by decide) hN) kd_1 ?_
    refine g_iconst (pc := 61) (v := (1 : Int32)) dX7_addSister_61 rfl ?_
    refine g_iadd (pc := 62) dX7_addSister_62 ?_
    refine pf_X7_21 (pc := 63) rfl dX7_addSister_63 (Nat.lt_of_lt_of_le (by decide) hN) kd_1 (fun m15 e16 => ?_)
    rw [lt_of e16] at h
    cases h
    exact r_vret dX7_addSister_66 rfl rfl
  · rw [if_neg hc1] at h
    cases h
    exact r_vret dX7_addSister_8 rfl rfl

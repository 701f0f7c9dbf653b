def l_X10_commonDivisor_7 (i0 : Int32) (i1 : Int32) : Nat → Int32 → Int32 → Int32 → gMem → Option (Int32 × Int32 × Int32 × gMem)
  | 0, _, _, _, _ => none
  | n + 1, i2, i3, i4, μ =>
  if (64 : Int32) ≤ i4 then
  (some (i2, i3, i4, μ))
else
  (if i3 = 0 then
  (some (i2, i3, i4, μ))
else
  (if i3 = 0 then none else
  lt (i2 - i2 / i3 * i3) (fun x10 =>
  lt (i4 + Int32.ofInt 1) (fun x16 =>
  l_X10_commonDivisor_7 i0 i1 n i3 x10 x16 μ))))
def f_X10_commonDivisor (i0 : Int32) (i1 : Int32) (μ : gMem) : Option (Int32 × gMem) :=
  (l_X10_commonDivisor_7 i0 i1 gF i0 i1 (0 : Int32) μ).bind (fun p18 =>
  some ((if (1 : Int32) < p18.1 then p18.1 else (1 : Int32)), p18.2.2.2))
set_option maxRecDepth 100000 in
set_option maxHeartbeats 4000000 in
theorem cl_X10_commonDivisor_7 {κ : Nat → Nat} {N : Nat} {Q : rQ} (hN : 140 ≤ N) (i0 : Int32) (i1 : Int32)  : ∀ (n : Nat) (i2 : Int32) (i3 : Int32) (i4 : Int32) (μ : gMem) (p : Int32 × Int32 × Int32 × gMem), l_X10_commonDivisor_7 i0 i1 n i2 i3 i4 μ = some p → RR κ N 1 iX10_commonDivisor 34 [(0, .int i0), (1, .int i1), (2, .int p.1), (3, .int p.2.1), (4, .int p.2.2.1)] [] p.2.2.2 Q → RR κ N 1 iX10_commonDivisor 7 [(0, .int i0), (1, .int i1), (2, .int i2), (3, .int i3), (4, .int i4)] [] μ Q := by
  intro n
  induction n with
  | zero =>
    intro i2 i3 i4 μ p h k
    unfold l_X10_commonDivisor_7 at h
    cases h
  | succ n ih =>
    intro i2 i3 i4 μ p h k
    unfold l_X10_commonDivisor_7 at h
    refine g_iload (pc := 7) dX10_commonDivisor_7 rfl ?_
    refine g_bipush (pc := 9) (v := (64 : Int32)) dX10_commonDivisor_9 rfl ?_
    refine g_icmp_ge (pc := 11) 34 dX10_commonDivisor_11 (by decide) (fun hc7 => ?_) (fun hc7 => ?_)
    · rw [if_pos hc7] at h
      cases h
      exact k
    · rw [if_neg hc7] at h
      refine g_iload_n (pc := 14) dX10_commonDivisor_14 rfl rfl ?_
      refine g_if_eq (pc := 15) 34 dX10_commonDivisor_15 (by decide) (fun hc8 => ?_) (fun hc8 => ?_)
      · rw [if_pos hc8] at h
        cases h
        exact k
      · rw [if_neg hc8] at h
        refine g_iload_n (pc := 18) dX10_commonDivisor_18 rfl rfl ?_
        refine g_iload_n (pc := 19) dX10_commonDivisor_19 rfl rfl ?_
        obtain ⟨hg9, h⟩ := gd_some' h
        refine g_irem (pc := 20) dX10_commonDivisor_20 hg9 ?_
        refine g_istore (pc := 21) (lv' := fun y => [(0, .int i0), (1, .int i1), (2, .int i2), (3, .int i3), (4, .int i4), (5, .int y)]) dX10_commonDivisor_21 (Nat.le_of_ble_eq_true rfl) (fun _ => rfl) (fun x10 e11 => ?_)
        rw [lt_of e11] at h
        refine g_iload_n (pc := 23) dX10_commonDivisor_23 rfl rfl ?_
        refine g_istore_n (pc := 24) (lv' := fun y => [(0, .int i0), (1, .int i1), (2, .int y), (3, .int i3), (4, .int i4), (5, .int x10)]) dX10_commonDivisor_24 rfl (Nat.le_of_ble_eq_true rfl) (fun _ => rfl) (fun y12 e13 => ?_)
        rw [e13]
        refine g_iload (pc := 25) dX10_commonDivisor_25 rfl ?_
        refine g_istore_n (pc := 27) (lv' := fun y => [(0, .int i0), (1, .int i1), (2, .int i3), (3, .int y), (4, .int i4), (5, .int x10)]) dX10_commonDivisor_27 rfl (Nat.le_of_ble_eq_true rfl) (fun _ => rfl) (fun y14 e15 => ?_)
        rw [e15]
        refine g_iinc (pc := 28) (lv' := fun y => [(0, .int i0), (1, .int i1), (2, .int i3), (3, .int x10), (4, .int y), (5, .int x10)]) dX10_commonDivisor_28 rfl (Nat.le_of_ble_eq_true rfl) (fun _ => rfl) (fun x16 e17 => ?_)
        rw [lt_of e17] at h
        refine g_goto (pc := 31) 7 dX10_commonDivisor_31 (by decide) ?_
        refine g_lv (lv' := [(0, .int i0), (1, .int i1), (2, .int i3), (3, .int x10), (4, .int x16)]) rfl ?_
        exact ih _ _ _ _ _ h k
set_option maxRecDepth 100000 in
set_option maxHeartbeats 4000000 in
theorem c_X10_commonDivisor {κ : Nat → Nat} {N : Nat} (hN : 140 ≤ N) (i0 : Int32) (i1 : Int32)  (μ : gMem) {r : Int32} {μ' : gMem} (h : f_X10_commonDivisor i0 i1 μ = some (r, μ')) : CT2 κ N 1 yX10_commonDivisor iX10_commonDivisor [.int i0, .int i1] μ (qI r μ') := by
  refine CT2.of (by decide) rfl rfl (Nat.le_of_ble_eq_true rfl) ?_
  unfold f_X10_commonDivisor at h
  show RR κ N 1 iX10_commonDivisor 0 [(0, .int i0), (1, .int i1)] [] μ _
  refine g_iload_n (pc := 0) dX10_commonDivisor_0 rfl rfl ?_
  refine g_istore_n (pc := 1) (lv' := fun y => [(0, .int i0), (1, .int i1), (2, .int y)]) dX10_commonDivisor_1 rfl (Nat.le_of_ble_eq_true rfl) (fun _ => rfl) (fun y1 e2 => ?_)
  rw [e2]
  refine g_iload_n (pc := 2) dX10_commonDivisor_2 rfl rfl ?_
  refine g_istore_n (pc := 3) (lv' := fun y => [(0, .int i0), (1, .int i1), (2, .int i0), (3, .int y)]) dX10_commonDivisor_3 rfl (Nat.le_of_ble_eq_true rfl) (fun _ => rfl) (fun y3 e4 => ?_)
  rw [e4]
  refine g_iconst (pc := 4) (v := (0 : Int32)) dX10_commonDivisor_4 rfl ?_
  refine g_istore (pc := 5) (lv' := fun y => [(0, .int i0), (1, .int i1), (2, .int i0), (3, .int i1), (4, .int y)]) dX10_commonDivisor_5 (Nat.le_of_ble_eq_true rfl) (fun _ => rfl) (fun y5 e6 => ?_)
  rw [e6]
  obtain ⟨p18, hp19, h⟩ := Option.bind_eq_some_iff.mp h
  refine cl_X10_commonDivisor_7 hN i0 i1  gF i0 i1 (0 : Int32) _ _ hp19 ?_
  refine g_iconst (pc := 34) (v := (1 : Int32)) dX10_commonDivisor_34 rfl ?_
  refine g_iload_n (pc := 35) dX10_commonDivisor_35 rfl rfl ?_
  refine g_mmax (pc := 36) dX10_commonDivisor_36 mL_X10_199 mMax (Nat.le_of_ble_eq_true rfl) (by decide) ?_
  cases h
  exact r_iret dX10_commonDivisor_39 rfl rfl rfl

def f_J6_bitCount_0f7a4 (i0 : Int32) (μ : gMem) : Option (Int32 × gMem) :=
  lt (i0 - ((i0.toUInt32 >>> ((1 : Int32).toUInt32 &&& Int32.toUInt32 31)).toInt32 &&& (1431655765 : Int32))) (fun x1 =>
  lt ((x1 &&& (858993459 : Int32)) + ((x1.toUInt32 >>> ((2 : Int32).toUInt32 &&& Int32.toUInt32 31)).toInt32 &&& (858993459 : Int32))) (fun x3 =>
  lt ((x3 + (x3.toUInt32 >>> ((4 : Int32).toUInt32 &&& Int32.toUInt32 31)).toInt32) &&& (252645135 : Int32)) (fun x5 =>
  lt (x5 + (x5.toUInt32 >>> ((8 : Int32).toUInt32 &&& Int32.toUInt32 31)).toInt32) (fun x7 =>
  lt (x7 + (x7.toUInt32 >>> ((16 : Int32).toUInt32 &&& Int32.toUInt32 31)).toInt32) (fun x9 =>
  some ((x9 &&& (63 : Int32)), μ))))))
set_option maxRecDepth 100000 in
set_option maxHeartbeats 4000000 in
theorem c_J6_bitCount_0f7a4 {κ : Nat → Nat} {N : Nat} (hN : 140 ≤ N) (i0 : Int32)  (μ : gMem) {r : Int32} {μ' : gMem} (h : f_J6_bitCount_0f7a4 i0 μ = some (r, μ')) : CT2 κ N 1 yJ6_bitCount_0f7a4 iJ6_bitCount_0f7a4 [.int i0] μ (qI r μ') := by
  refine CT2.of (by decide) rfl rfl (Nat.le_of_ble_eq_true rfl) ?_
  unfold f_J6_bitCount_0f7a4 at h
  show RR κ N 1 iJ6_bitCount_0f7a4 0 [(0, .int i0)] [] μ _
  refine g_iload_n (pc := 0) dJ6_bitCount_0f7a4_0 rfl rfl ?_
  refine g_iload_n (pc := 1) dJ6_bitCount_0f7a4_1 rfl rfl ?_
  refine g_iconst (pc := 2) (v := (1 : Int32)) dJ6_bitCount_0f7a4_2 rfl ?_
  refine g_iushr (pc := 3) dJ6_bitCount_0f7a4_3 ?_
  refine g_ldcw (pc := 4) kI_J6_265 dJ6_bitCount_0f7a4_4 ?_
  refine g_iand (pc := 7) dJ6_bitCount_0f7a4_7 ?_
  refine g_isub (pc := 8) dJ6_bitCount_0f7a4_8 ?_
  refine g_istore_n (pc := 9) (lv' := fun y => [(0, .int y)]) dJ6_bitCount_0f7a4_9 rfl (Nat.le_of_ble_eq_true rfl) (fun _ => rfl) (fun x1 e2 => ?_)
  rw [lt_of e2] at h
  refine g_iload_n (pc := 10) dJ6_bitCount_0f7a4_10 rfl rfl ?_
  refine g_ldcw (pc := 11) kI_J6_266 dJ6_bitCount_0f7a4_11 ?_
  refine g_iand (pc := 14) dJ6_bitCount_0f7a4_14 ?_
  refine g_iload_n (pc := 15) dJ6_bitCount_0f7a4_15 rfl rfl ?_
  refine g_iconst (pc := 16) (v := (2 : Int32)) dJ6_bitCount_0f7a4_16 rfl ?_
  refine g_iushr (pc := 17) dJ6_bitCount_0f7a4_17 ?_
  refine g_ldcw (pc := 18) kI_J6_266 dJ6_bitCount_0f7a4_18 ?_
  refine g_iand (pc := 21) dJ6_bitCount_0f7a4_21 ?_
  refine g_iadd (pc := 22) dJ6_bitCount_0f7a4_22 ?_
  refine g_istore_n (pc := 23) (lv' := fun y => [(0, .int y)]) dJ6_bitCount_0f7a4_23 rfl (Nat.le_of_ble_eq_true rfl) (fun _ => rfl) (fun x3 e4 => ?_)
  rw [lt_of e4] at h
  refine g_iload_n (pc := 24) dJ6_bitCount_0f7a4_24 rfl rfl ?_
  refine g_iload_n (pc := 25) dJ6_bitCount_0f7a4_25 rfl rfl ?_
  refine g_iconst (pc := 26) (v := (4 : Int32)) dJ6_bitCount_0f7a4_26 rfl ?_
  refine g_iushr (pc := 27) dJ6_bitCount_0f7a4_27 ?_
  refine g_iadd (pc := 28) dJ6_bitCount_0f7a4_28 ?_
  refine g_ldcw (pc := 29) kI_J6_267 dJ6_bitCount_0f7a4_29 ?_
  refine g_iand (pc := 32) dJ6_bitCount_0f7a4_32 ?_
  refine g_istore_n (pc := 33) (lv' := fun y => [(0, .int y)]) dJ6_bitCount_0f7a4_33 rfl (Nat.le_of_ble_eq_true rfl) (fun _ => rfl) (fun x5 e6 => ?_)
  rw [lt_of e6] at h
  refine g_iload_n (pc := 34) dJ6_bitCount_0f7a4_34 rfl rfl ?_
  refine g_iload_n (pc := 35) dJ6_bitCount_0f7a4_35 rfl rfl ?_
  refine g_bipush (pc := 36) (v := (8 : Int32)) dJ6_bitCount_0f7a4_36 rfl ?_
  refine g_iushr (pc := 38) dJ6_bitCount_0f7a4_38 ?_
  refine g_iadd (pc := 39) dJ6_bitCount_0f7a4_39 ?_
  refine g_istore_n (pc := 40) (lv' := fun y => [(0, .int y)]) dJ6_bitCount_0f7a4_40 rfl (Nat.le_of_ble_eq_true rfl) (fun _ => rfl) (fun x7 e8 => ?_)
  rw [lt_of e8] at h
  refine g_iload_n (pc := 41) dJ6_bitCount_0f7a4_41 rfl rfl ?_
  refine g_iload_n (pc := 42) dJ6_bitCount_0f7a4_42 rfl rfl ?_
  refine g_bipush (pc := 43) (v := (16 : Int32)) dJ6_bitCount_0f7a4_43 rfl ?_
  refine g_iushr (pc := 45) dJ6_bitCount_0f7a4_45 ?_
  refine g_iadd (pc := 46) dJ6_bitCount_0f7a4_46 ?_
  refine g_istore_n (pc := 47) (lv' := fun y => [(0, .int y)]) dJ6_bitCount_0f7a4_47 rfl (Nat.le_of_ble_eq_true rfl) (fun _ => rfl) (fun x9 e10 => ?_)
  rw [lt_of e10] at h
  refine g_iload_n (pc := 48) dJ6_bitCount_0f7a4_48 rfl rfl ?_
  refine g_bipush (pc := 49) (v := (63 : Int32)) dJ6_bitCount_0f7a4_49 rfl ?_
  refine g_iand (pc := 51) dJ6_bitCount_0f7a4_51 ?_
  cases h
  exact r_iret dJ6_bitCount_0f7a4_52 rfl rfl rfl

def l_X0_findWord_2  : Nat → Int32 → gMem → Option (Option Nat × gMem)
  | 0, _, _ => none
  | n + 1, i2, μ =>
  if (Int32.ofNat 12) ≤ i2 then
  (some (none, μ))
else
  (if inb i2 12 = true then
  (f_X3_isWord i2.toNatClampNeg μ).bind (fun p6 =>
  if p6.1 = 0 then
  (lt (i2 + Int32.ofInt 1) (fun x9 =>
  l_X0_findWord_2 n x9 p6.2))
else
  (some (some (i2.toNatClampNeg), p6.2))) else none)
def f_X0_findWord  (μ : gMem) : Option (Option Nat × gMem) :=
  l_X0_findWord_2 gF (0 : Int32) μ
set_option maxRecDepth 100000 in
set_option maxHeartbeats 4000000 in
theorem cl_X0_findWord_2 {κ : Nat → Nat} {N : Nat} {r : Option Nat} {μ' : gMem} (hN : 140 ≤ N)   : ∀ (n : Nat) (i2 : Int32) (μ : gMem), l_X0_findWord_2 n i2 μ = some (r, μ') → RR κ N 6 iX0_findWord 2 [(0, .ref (κ 0 + 10)), (1, .ref (κ 0 + 8)), (2, .int i2)] [] μ (qW κ r μ') := by
  intro n
  induction n with
  | zero =>
    intro i2 μ h
    unfold l_X0_findWord_2 at h
    cases h
  | succ n ih =>
    intro i2 μ h
    unfold l_X0_findWord_2 at h
    refine g_iload_n (pc := 2) dX0_findWord_2 rfl rfl ?_
    refine g_aload_n (pc := 3) dX0_findWord_3 rfl rfl ?_
    refine gf_X0_15 (pc := 4) rfl dX0_findWord_4 (Nat.lt_of_lt_of_le (by decide) hN) kd_10 ?_
    refine r_alenW (pc := 7) dX0_findWord_7 (Nat.lt_of_lt_of_le (by decide) hN) kd_11 ?_
    refine g_icmp_ge (pc := 8) 40 dX0_findWord_8 (by decide) (fun hc3 => ?_) (fun hc3 => ?_)
    · rw [if_pos hc3] at h
      refine g_null (pc := 40) dX0_findWord_40 ?_
      cases h
      exact r_nret dX0_findWord_41 rfl ⟨_, rfl⟩ rfl rfl
    · rw [if_neg hc3] at h
      refine g_aload_n (pc := 11) dX0_findWord_11 rfl rfl ?_
      refine g_aload_n (pc := 12) dX0_findWord_12 rfl rfl ?_
      refine gf_X0_15 (pc := 13) rfl dX0_findWord_13 (Nat.lt_of_lt_of_le (by decide) hN) kd_10 ?_
      refine g_iload_n (pc := 16) dX0_findWord_16 rfl rfl ?_
      obtain ⟨hg4, h⟩ := gd_some h
      refine r_aaldW (pc := 17) dX0_findWord_17 (Nat.lt_of_lt_of_le (by decide) hN) kd_11 hg4 ?_
      refine g_getO (pc := 18) dX0_findWord_18 (fun _ _ z => (z.2.2.2.1 _ (inb_lt hg4)).2.1) wF_X0_96 ?_
      obtain ⟨p6, hp5, h⟩ := Option.bind_eq_some_iff.mp h
      refine r_callV (ci := 3) (pc := 21) (c_X3_isWord hN i2.toNatClampNeg (inb_lt hg4) μ hp5) yV_X3_isWord ⟨rfl, by decide⟩ pX3_isWord mL_X0_100 dX0_findWord_21 (Nat.le_of_ble_eq_true rfl) (Nat.le_of_ble_eq_true rfl) (Nat.lt_of_lt_of_le (by decide) hN) kd_8 rfl (rK_z (fun hz7 => ?_))
      refine g_if_eq (pc := 24) 34 dX0_findWord_24 (by decide) (fun hc8 => ?_) (fun hc8 => ?_)
      · rw [if_pos hc8] at h
        refine g_iinc (pc := 34) (lv' := fun y => [(0, .ref (κ 0 + 10)), (1, .ref (κ 0 + 8)), (2, .int y)]) dX0_findWord_34 rfl (Nat.le_of_ble_eq_true rfl) (fun _ => rfl) (fun x9 e10 => ?_)
        rw [lt_of e10] at h
        refine g_goto (pc := 37) 2 dX0_findWord_37 (by decide) ?_
        refine g_lv (lv' := [(0, .ref (κ 0 + 10)), (1, .ref (κ 0 + 8)), (2, .int x9)]) rfl ?_
        exact ih _ _ h
      · rw [if_neg hc8] at h
        refine g_aload_n (pc := 27) dX0_findWord_27 rfl rfl ?_
        refine gf_X0_15 (pc := 28) rfl dX0_findWord_28 (Nat.lt_of_lt_of_le (by decide) hN) kd_10 ?_
        refine g_iload_n (pc := 31) dX0_findWord_31 rfl rfl ?_
        refine r_aaldW (pc := 32) dX0_findWord_32 (Nat.lt_of_lt_of_le (by decide) hN) kd_11 hg4 ?_
        cases h
        exact r_wret dX0_findWord_33 rfl ⟨_, rfl⟩ (inb_lt hg4) rfl rfl
set_option maxRecDepth 100000 in
set_option maxHeartbeats 4000000 in
theorem c_X0_findWord {κ : Nat → Nat} {N : Nat} (hN : 140 ≤ N)   (μ : gMem) {r : Option Nat} {μ' : gMem} (h : f_X0_findWord  μ = some (r, μ')) : CT2 κ N 6 yX0_findWord iX0_findWord [.ref (κ 0 + 10), .ref (κ 0 + 8)] μ (qW κ r μ') := by
  refine CT2.of (by decide) rfl rfl (Nat.le_of_ble_eq_true rfl) ?_
  unfold f_X0_findWord at h
  show RR κ N 6 iX0_findWord 0 [(0, .ref (κ 0 + 10)), (1, .ref (κ 0 + 8))] [] μ _
  refine g_iconst (pc := 0) (v := (0 : Int32)) dX0_findWord_0 rfl ?_
  refine g_istore_n (pc := 1) (lv' := fun y => [(0, .ref (κ 0 + 10)), (1, .ref (κ 0 + 8)), (2, .int y)]) dX0_findWord_1 rfl (Nat.le_of_ble_eq_true rfl) (fun _ => rfl) (fun y1 e2 => ?_)
  rw [e2]
  exact cl_X0_findWord_2 hN   gF (0 : Int32) _ h

def l_X1_judge_22 (a1 : Nat) (i2 : Int32) : Nat → Int32 → Int32 → Int32 → gMem → Option (Int32 × Int32 × Int32 × gMem)
  | 0, _, _, _, _ => none
  | n + 1, i3, i4, i5, μ =>
  if (μ 106 9) ≤ i5 then
  (some (i3, i4, i5, μ))
else
  (if inb i5 40 = true then
  lt (if (i4 + (μ a1 i5.toNatClampNeg)) < i2 then (i4 + (μ a1 i5.toNatClampNeg)) else i2) (fun x11 =>
  lt (if i3 < x11 then x11 else i3) (fun x13 =>
  (f_X10_lostByHole x11 (μ 106 8) μ).bind (fun p16 =>
  lt (x11 - p16.1) (fun x17 =>
  lt (i5 + Int32.ofInt 1) (fun x19 =>
  l_X1_judge_22 a1 i2 n x13 x17 x19 p16.2))))) else none)
def f_X1_judge (a1 : Nat) (μ : gMem) : Option (gMem) :=
  lt (μ 1 4) (fun x1 =>
  lt (μ 106 7) (fun x3 =>
  lt (μ 106 7) (fun x5 =>
  (l_X1_judge_22 a1 x1 gF x3 x5 (0 : Int32) μ).bind (fun p21 =>
  if p21.1 ≤ (p21.2.2.2 106 6) then
  (some p21.2.2.2)
else
  (lt (st p21.2.2.2 106 6 p21.1) (fun m24 =>
  lt ((fun q => if q = 137 then va_cpy (m24 135) (m24 137) (0 : Int32).toNatClampNeg (0 : Int32).toNatClampNeg (5 : Int32).toNatClampNeg else m24 q) : gMem) (fun m26 =>
  some m26)))))))
set_option maxRecDepth 100000 in
set_option maxHeartbeats 4000000 in
theorem cl_X1_judge_22 {κ : Nat → Nat} {N : Nat} {Q : rQ} (hN : 140 ≤ N) (a1 : Nat) (i2 : Int32) (h1 : kd a1 = 20) (g1 : a1 < N) (n1 : ln a1 = 40) : ∀ (n : Nat) (i3 : Int32) (i4 : Int32) (i5 : Int32) (μ : gMem) (p : Int32 × Int32 × Int32 × gMem), l_X1_judge_22 a1 i2 n i3 i4 i5 μ = some p → RR κ N 2 iX1_judge 71 [(0, .ref (κ 0 + 106)), (1, .ref (κ 0 + a1)), (2, .int i2), (3, .int p.1), (4, .int p.2.1), (5, .int p.2.2.1)] [] p.2.2.2 Q → RR κ N 2 iX1_judge 22 [(0, .ref (κ 0 + 106)), (1, .ref (κ 0 + a1)), (2, .int i2), (3, .int i3), (4, .int i4), (5, .int i5)] [] μ Q := by
  intro n
  induction n with
  | zero =>
    intro i3 i4 i5 μ p h k
    unfold l_X1_judge_22 at h
    cases h
  | succ n ih =>
    intro i3 i4 i5 μ p h k
    unfold l_X1_judge_22 at h
    refine g_iload (pc := 22) dX1_judge_22 rfl ?_
    refine g_aload_n (pc := 24) dX1_judge_24 rfl rfl ?_
    refine gf_X1_48 (pc := 25) rfl dX1_judge_25 (Nat.lt_of_lt_of_le (by decide) hN) kd_106 ?_
    refine g_icmp_ge (pc := 28) 71 dX1_judge_28 (by decide) (fun hc9 => ?_) (fun hc9 => ?_)
    · rw [if_pos hc9] at h
      cases h
      exact k
    · rw [if_neg hc9] at h
      refine g_iload_n (pc := 31) dX1_judge_31 rfl rfl ?_
      refine g_iload (pc := 32) dX1_judge_32 rfl ?_
      refine g_aload_n (pc := 34) dX1_judge_34 rfl rfl ?_
      refine g_iload (pc := 35) dX1_judge_35 rfl ?_
      obtain ⟨hg10, h⟩ := gd_some h
      refine r_iald (pc := 37) 40 dX1_judge_37 g1 h1 n1 hg10 ?_
      refine g_iadd (pc := 38) dX1_judge_38 ?_
      refine g_mmin (pc := 39) dX1_judge_39 mL_X1_108 mMin (Nat.le_of_ble_eq_true rfl) (by decide) ?_
      refine g_istore (pc := 42) (lv' := fun y => [(0, .ref (κ 0 + 106)), (1, .ref (κ 0 + a1)), (2, .int i2), (3, .int i3), (4, .int i4), (5, .int i5), (6, .int y)]) dX1_judge_42 (Nat.le_of_ble_eq_true rfl) (fun _ => rfl) (fun x11 e12 => ?_)
      rw [lt_of e12] at h
      refine g_iload_n (pc := 44) dX1_judge_44 rfl rfl ?_
      refine g_iload (pc := 45) dX1_judge_45 rfl ?_
      refine g_mmax (pc := 47) dX1_judge_47 mL_X1_114 mMax (Nat.le_of_ble_eq_true rfl) (by decide) ?_
      refine g_istore_n (pc := 50) (lv' := fun y => [(0, .ref (κ 0 + 106)), (1, .ref (κ 0 + a1)), (2, .int i2), (3, .int y), (4, .int i4), (5, .int i5), (6, .int x11)]) dX1_judge_50 rfl (Nat.le_of_ble_eq_true rfl) (fun _ => rfl) (fun x13 e14 => ?_)
      rw [lt_of e14] at h
      refine g_iload (pc := 51) dX1_judge_51 rfl ?_
      refine g_iload (pc := 53) dX1_judge_53 rfl ?_
      refine g_aload_n (pc := 55) dX1_judge_55 rfl rfl ?_
      refine gf_X1_47 (pc := 56) rfl dX1_judge_56 (Nat.lt_of_lt_of_le (by decide) hN) kd_106 ?_
      obtain ⟨p16, hp15, h⟩ := Option.bind_eq_some_iff.mp h
      refine r_callSN (pc := 59) (c_X10_lostByHole hN x11 (μ 106 8) μ hp15) yS_X10_lostByHole pX10_lostByHole (fun _ z => z.2.1.2.2.2) dX1_judge_59 (Nat.le_of_ble_eq_true rfl) (Nat.le_of_ble_eq_true rfl) rfl (rK_i ?_)
      refine g_isub (pc := 62) dX1_judge_62 ?_
      refine g_istore (pc := 63) (lv' := fun y => [(0, .ref (κ 0 + 106)), (1, .ref (κ 0 + a1)), (2, .int i2), (3, .int x13), (4, .int y), (5, .int i5), (6, .int x11)]) dX1_judge_63 (Nat.le_of_ble_eq_true rfl) (fun _ => rfl) (fun x17 e18 => ?_)
      rw [lt_of e18] at h
      refine g_iinc (pc := 65) (lv' := fun y => [(0, .ref (κ 0 + 106)), (1, .ref (κ 0 + a1)), (2, .int i2), (3, .int x13), (4, .int x17), (5, .int y), (6, .int x11)]) dX1_judge_65 rfl (Nat.le_of_ble_eq_true rfl) (fun _ => rfl) (fun x19 e20 => ?_)
      rw [lt_of e20] at h
      refine g_goto (pc := 68) 22 dX1_judge_68 (by decide) ?_
      refine g_lv (lv' := [(0, .ref (κ 0 + 106)), (1, .ref (κ 0 + a1)), (2, .int i2), (3, .int x13), (4, .int x17), (5, .int x19)]) rfl ?_
      exact ih _ _ _ _ _ h k
set_option maxRecDepth 100000 in
set_option maxHeartbeats 4000000 in
theorem c_X1_judge {κ : Nat → Nat} {N : Nat} (hN : 140 ≤ N) (a1 : Nat) (h1 : kd a1 = 20) (g1 : a1 < N) (n1 : ln a1 = 40) (μ : gMem) {μ' : gMem} (h : f_X1_judge a1 μ = some μ') : CT2 κ N 2 yX1_judge iX1_judge [.ref (κ 0 + 106), .ref (κ 0 + a1)] μ (qV μ') := by
  refine CT2.of (by decide) rfl rfl (Nat.le_of_ble_eq_true rfl) ?_
  unfold f_X1_judge at h
  show RR κ N 2 iX1_judge 0 [(0, .ref (κ 0 + 106)), (1, .ref (κ 0 + a1))] [] μ _
  refine g_aload_n (pc := 0) dX1_judge_0 rfl rfl ?_
  refine gf_X1_9 (pc := 1) rfl dX1_judge_1 (Nat.lt_of_lt_of_le (by decide) hN) kd_106 ?_
  refine gf_X1_105 (pc := 4) rfl dX1_judge_4 (Nat.lt_of_lt_of_le (by decide) hN) kd_1 ?_
  refine g_istore_n (pc := 7) (lv' := fun y => [(0, .ref (κ 0 + 106)), (1, .ref (κ 0 + a1)), (2, .int y)]) dX1_judge_7 rfl (Nat.le_of_ble_eq_true rfl) (fun _ => rfl) (fun x1 e2 => ?_)
  rw [lt_of e2] at h
  refine g_aload_n (pc := 8) dX1_judge_8 rfl rfl ?_
  refine gf_X1_43 (pc := 9) rfl dX1_judge_9 (Nat.lt_of_lt_of_le (by decide) hN) kd_106 ?_
  refine g_istore_n (pc := 12) (lv' := fun y => [(0, .ref (κ 0 + 106)), (1, .ref (κ 0 + a1)), (2, .int x1), (3, .int y)]) dX1_judge_12 rfl (Nat.le_of_ble_eq_true rfl) (fun _ => rfl) (fun x3 e4 => ?_)
  rw [lt_of e4] at h
  refine g_aload_n (pc := 13) dX1_judge_13 rfl rfl ?_
  refine gf_X1_43 (pc := 14) rfl dX1_judge_14 (Nat.lt_of_lt_of_le (by decide) hN) kd_106 ?_
  refine g_istore (pc := 17) (lv' := fun y => [(0, .ref (κ 0 + 106)), (1, .ref (κ 0 + a1)), (2, .int x1), (3, .int x3), (4, .int y)]) dX1_judge_17 (Nat.le_of_ble_eq_true rfl) (fun _ => rfl) (fun x5 e6 => ?_)
  rw [lt_of e6] at h
  refine g_iconst (pc := 19) (v := (0 : Int32)) dX1_judge_19 rfl ?_
  refine g_istore (pc := 20) (lv' := fun y => [(0, .ref (κ 0 + 106)), (1, .ref (κ 0 + a1)), (2, .int x1), (3, .int x3), (4, .int x5), (5, .int y)]) dX1_judge_20 (Nat.le_of_ble_eq_true rfl) (fun _ => rfl) (fun y7 e8 => ?_)
  rw [e8]
  obtain ⟨p21, hp22, h⟩ := Option.bind_eq_some_iff.mp h
  refine cl_X1_judge_22 hN a1 x1 h1 g1 n1 gF x3 x5 (0 : Int32) _ _ hp22 ?_
  refine g_iload_n (pc := 71) dX1_judge_71 rfl rfl ?_
  refine g_aload_n (pc := 72) dX1_judge_72 rfl rfl ?_
  refine gf_X1_51 (pc := 73) rfl dX1_judge_73 (Nat.lt_of_lt_of_le (by decide) hN) kd_106 ?_
  refine g_icmp_le (pc := 76) 98 dX1_judge_76 (by decide) (fun hc23 => ?_) (fun hc23 => ?_)
  · rw [if_pos hc23] at h
    cases h
    exact r_vret dX1_judge_98 rfl rfl
  · rw [if_neg hc23] at h
    refine g_aload_n (pc := 79) dX1_judge_79 rfl rfl ?_
    refine g_iload_n (pc := 80) dX1_judge_80 rfl rfl ?_
    refine pf_X1_51 (pc := 81) rfl dX1_judge_81 (Nat.lt_of_lt_of_le (by decide) hN) kd_106 (fun m24 e25 => ?_)
    rw [lt_of e25] at h
    refine g_aload_n (pc := 84) dX1_judge_84 rfl rfl ?_
    refine gf_X1_23 (pc := 85) rfl dX1_judge_85 (Nat.lt_of_lt_of_le (by decide) hN) kd_106 ?_
    refine g_iconst (pc := 88) (v := (0 : Int32)) dX1_judge_88 rfl ?_
    refine g_aload_n (pc := 89) dX1_judge_89 rfl rfl ?_
    refine gf_X1_34 (pc := 90) rfl dX1_judge_90 (Nat.lt_of_lt_of_le (by decide) hN) kd_106 ?_
    refine g_iconst (pc := 93) (v := (0 : Int32)) dX1_judge_93 rfl ?_
    refine g_iconst (pc := 94) (v := (5 : Int32)) dX1_judge_94 rfl ?_
    refine r_copyi (pc := 95) 5 5 dX1_judge_95 mL_X1_120 mCpy (Nat.lt_of_lt_of_le (by decide) hN) (Nat.lt_of_lt_of_le (by decide) hN) (by decide) kd_135 kd_137 ln_135 ln_137 (by decide) (by decide) (by decide) (by decide) (by decide) (by decide) (Nat.le_of_ble_eq_true rfl) (fun m26 e27 => ?_)
    rw [lt_of e27] at h
    cases h
    exact r_vret dX1_judge_98 rfl rfl

def l_X2_run_29 (i1 : Int32) (i2 : Int32) (i3 : Int32) (i4 : Int32) : Nat → Int32 → gMem → Option (Int32 × gMem)
  | 0, _, _ => none
  | n + 1, i5, μ =>
  if i3 ≤ i5 then
  (some (i5, μ))
else
  (if inb i5 100 = true then
  (f_X2_pouredIn i5 μ).bind (fun p14 =>
  lt (if ((μ 105 i5.toNatClampNeg) + p14.1) < i4 then ((μ 105 i5.toNatClampNeg) + p14.1) else i4) (fun x15 =>
  lt (st p14.2 97 5 (if (p14.2 97 5) < x15 then x15 else (p14.2 97 5))) (fun m17 =>
  if x15 = i4 then
  (if (m17 97 6) = (-1 : Int32) then
  (lt (st m17 97 6 (i5 + (1 : Int32))) (fun m35 =>
  (f_X10_lostByHole x15 i2 m35).bind (fun p38 =>
  if inb (i5 + (1 : Int32)) 100 = true then
  lt (st p38.2 105 (i5 + (1 : Int32)).toNatClampNeg (x15 - p38.1)) (fun m39 =>
  lt (i5 + Int32.ofInt 1) (fun x42 =>
  l_X2_run_29 i1 i2 i3 i4 n x42 m39)) else none)))
else
  ((f_X10_lostByHole x15 i2 m17).bind (fun p29 =>
  if inb (i5 + (1 : Int32)) 100 = true then
  lt (st p29.2 105 (i5 + (1 : Int32)).toNatClampNeg (x15 - p29.1)) (fun m30 =>
  lt (i5 + Int32.ofInt 1) (fun x33 =>
  l_X2_run_29 i1 i2 i3 i4 n x33 m30)) else none)))
else
  ((f_X10_lostByHole x15 i2 m17).bind (fun p21 =>
  if inb (i5 + (1 : Int32)) 100 = true then
  lt (st p21.2 105 (i5 + (1 : Int32)).toNatClampNeg (x15 - p21.1)) (fun m22 =>
  lt (i5 + Int32.ofInt 1) (fun x25 =>
  l_X2_run_29 i1 i2 i3 i4 n x25 m22)) else none))))) else none)
def f_X2_run (i1 : Int32) (i2 : Int32) (i3 : Int32) (μ : gMem) : Option (gMem) :=
  lt (μ 1 4) (fun x1 =>
  lt (st μ 105 (0 : Int32).toNatClampNeg i1) (fun m3 =>
  lt (st m3 97 5 i1) (fun m5 =>
  lt (st m5 97 6 (-1 : Int32)) (fun m7 =>
  (l_X2_run_29 i1 i2 i3 x1 gF (0 : Int32) m7).bind (fun p44 =>
  some p44.2)))))
set_option maxRecDepth 100000 in
set_option maxHeartbeats 4000000 in
theorem cl_X2_run_29 {κ : Nat → Nat} {N : Nat} {Q : rQ} (hN : 140 ≤ N) (i1 : Int32) (i2 : Int32) (i3 : Int32) (i4 : Int32)  : ∀ (n : Nat) (i5 : Int32) (μ : gMem) (p : Int32 × gMem), l_X2_run_29 i1 i2 i3 i4 n i5 μ = some p → RR κ N 2 iX2_run 116 [(0, .ref (κ 0 + 97)), (1, .int i1), (2, .int i2), (3, .int i3), (4, .int i4), (5, .int p.1)] [] p.2 Q → RR κ N 2 iX2_run 29 [(0, .ref (κ 0 + 97)), (1, .int i1), (2, .int i2), (3, .int i3), (4, .int i4), (5, .int i5)] [] μ Q := by
  intro n
  induction n with
  | zero =>
    intro i5 μ p h k
    unfold l_X2_run_29 at h
    cases h
  | succ n ih =>
    intro i5 μ p h k
    unfold l_X2_run_29 at h
    refine g_iload (pc := 29) dX2_run_29 rfl ?_
    refine g_iload_n (pc := 31) dX2_run_31 rfl rfl ?_
    refine g_icmp_ge (pc := 32) 116 dX2_run_32 (by decide) (fun hc11 => ?_) (fun hc11 => ?_)
    · rw [if_pos hc11] at h
      cases h
      exact k
    · rw [if_neg hc11] at h
      refine g_iload (pc := 35) dX2_run_35 rfl ?_
      refine g_aload_n (pc := 37) dX2_run_37 rfl rfl ?_
      refine gf_X2_27 (pc := 38) rfl dX2_run_38 (Nat.lt_of_lt_of_le (by decide) hN) kd_97 ?_
      refine g_iload (pc := 41) dX2_run_41 rfl ?_
      obtain ⟨hg12, h⟩ := gd_some h
      refine r_iald (pc := 43) 100 dX2_run_43 (Nat.lt_of_lt_of_le (by decide) hN) kd_105 ln_105 hg12 ?_
      refine g_aload_n (pc := 44) dX2_run_44 rfl rfl ?_
      refine g_iload (pc := 45) dX2_run_45 rfl ?_
      obtain ⟨p14, hp13, h⟩ := Option.bind_eq_some_iff.mp h
      refine r_callV (ci := 2) (pc := 47) (c_X2_pouredIn hN i5 μ hp13) yV_X2_pouredIn ⟨rfl, by decide⟩ pX2_pouredIn mL_X2_88 dX2_run_47 (Nat.le_of_ble_eq_true rfl) (Nat.le_of_ble_eq_true rfl) (Nat.lt_of_lt_of_le (by decide) hN) kd_97 rfl (rK_i ?_)
      refine g_iadd (pc := 50) dX2_run_50 ?_
      refine g_mmin (pc := 51) dX2_run_51 mL_X2_92 mMin (Nat.le_of_ble_eq_true rfl) (by decide) ?_
      refine g_istore (pc := 54) (lv' := fun y => [(0, .ref (κ 0 + 97)), (1, .int i1), (2, .int i2), (3, .int i3), (4, .int i4), (5, .int i5), (6, .int y)]) dX2_run_54 (Nat.le_of_ble_eq_true rfl) (fun _ => rfl) (fun x15 e16 => ?_)
      rw [lt_of e16] at h
      refine g_aload_n (pc := 56) dX2_run_56 rfl rfl ?_
      refine g_aload_n (pc := 57) dX2_run_57 rfl rfl ?_
      refine gf_X2_82 (pc := 58) rfl dX2_run_58 (Nat.lt_of_lt_of_le (by decide) hN) kd_97 ?_
      refine g_iload (pc := 61) dX2_run_61 rfl ?_
      refine g_mmax (pc := 63) dX2_run_63 mL_X2_98 mMax (Nat.le_of_ble_eq_true rfl) (by decide) ?_
      refine pf_X2_82 (pc := 66) rfl dX2_run_66 (Nat.lt_of_lt_of_le (by decide) hN) kd_97 (fun m17 e18 => ?_)
      rw [lt_of e18] at h
      refine g_iload (pc := 69) dX2_run_69 rfl ?_
      refine g_iload (pc := 71) dX2_run_71 rfl ?_
      refine g_icmp_ne (pc := 73) 92 dX2_run_73 (by decide) (fun hc19 => ?_) (fun hc19 => ?_)
      · rw [if_neg hc19] at h
        refine g_aload_n (pc := 92) dX2_run_92 rfl rfl ?_
        refine gf_X2_27 (pc := 93) rfl dX2_run_93 (Nat.lt_of_lt_of_le (by decide) hN) kd_97 ?_
        refine g_iload (pc := 96) dX2_run_96 rfl ?_
        refine g_iconst (pc := 98) (v := (1 : Int32)) dX2_run_98 rfl ?_
        refine g_iadd (pc := 99) dX2_run_99 ?_
        refine g_iload (pc := 100) dX2_run_100 rfl ?_
        refine g_iload (pc := 102) dX2_run_102 rfl ?_
        refine g_iload_n (pc := 104) dX2_run_104 rfl rfl ?_
        obtain ⟨p21, hp20, h⟩ := Option.bind_eq_some_iff.mp h
        refine r_callSN (pc := 105) (c_X10_lostByHole hN x15 i2 m17 hp20) yS_X10_lostByHole pX10_lostByHole (fun _ z => z.2.1.2.2.1) dX2_run_105 (Nat.le_of_ble_eq_true rfl) (Nat.le_of_ble_eq_true rfl) rfl (rK_i ?_)
        refine g_isub (pc := 108) dX2_run_108 ?_
        obtain ⟨hg24, h⟩ := gd_some h
        refine r_iast (pc := 109) 100 dX2_run_109 (Nat.lt_of_lt_of_le (by decide) hN) kd_105 ln_105 hg24 (fun m22 e23 => ?_)
        rw [lt_of e23] at h
        refine g_iinc (pc := 110) (lv' := fun y => [(0, .ref (κ 0 + 97)), (1, .int i1), (2, .int i2), (3, .int i3), (4, .int i4), (5, .int y), (6, .int x15)]) dX2_run_110 rfl (Nat.le_of_ble_eq_true rfl) (fun _ => rfl) (fun x25 e26 => ?_)
        rw [lt_of e26] at h
        refine g_goto (pc := 113) 29 dX2_run_113 (by decide) ?_
        refine g_lv (lv' := [(0, .ref (κ 0 + 97)), (1, .int i1), (2, .int i2), (3, .int i3), (4, .int i4), (5, .int x25)]) rfl ?_
        exact ih _ _ _ h k
      · rw [if_pos hc19] at h
        refine g_aload_n (pc := 76) dX2_run_76 rfl rfl ?_
        refine gf_X2_85 (pc := 77) rfl dX2_run_77 (Nat.lt_of_lt_of_le (by decide) hN) kd_97 ?_
        refine g_iconst (pc := 80) (v := (-1 : Int32)) dX2_run_80 rfl ?_
        refine g_icmp_ne (pc := 81) 92 dX2_run_81 (by decide) (fun hc27 => ?_) (fun hc27 => ?_)
        · rw [if_neg hc27] at h
          refine g_aload_n (pc := 92) dX2_run_92 rfl rfl ?_
          refine gf_X2_27 (pc := 93) rfl dX2_run_93 (Nat.lt_of_lt_of_le (by decide) hN) kd_97 ?_
          refine g_iload (pc := 96) dX2_run_96 rfl ?_
          refine g_iconst (pc := 98) (v := (1 : Int32)) dX2_run_98 rfl ?_
          refine g_iadd (pc := 99) dX2_run_99 ?_
          refine g_iload (pc := 100) dX2_run_100 rfl ?_
          refine g_iload (pc := 102) dX2_run_102 rfl ?_
          refine g_iload_n (pc := 104) dX2_run_104 rfl rfl ?_
          obtain ⟨p29, hp28, h⟩ := Option.bind_eq_some_iff.mp h
          refine r_callSN (pc := 105) (c_X10_lostByHole hN x15 i2 m17 hp28) yS_X10_lostByHole pX10_lostByHole (fun _ z => z.2.1.2.2.1) dX2_run_105 (Nat.le_of_ble_eq_true rfl) (Nat.le_of_ble_eq_true rfl) rfl (rK_i ?_)
          refine g_isub (pc := 108) dX2_run_108 ?_
          obtain ⟨hg32, h⟩ := gd_some h
          refine r_iast (pc := 109) 100 dX2_run_109 (Nat.lt_of_lt_of_le (by decide) hN) kd_105 ln_105 hg32 (fun m30 e31 => ?_)
          rw [lt_of e31] at h
          refine g_iinc (pc := 110) (lv' := fun y => [(0, .ref (κ 0 + 97)), (1, .int i1), (2, .int i2), (3, .int i3), (4, .int i4), (5, .int y), (6, .int x15)]) dX2_run_110 rfl (Nat.le_of_ble_eq_true rfl) (fun _ => rfl) (fun x33 e34 => ?_)
          rw [lt_of e34] at h
          refine g_goto (pc := 113) 29 dX2_run_113 (by decide) ?_
          refine g_lv (lv' := [(0, .ref (κ 0 + 97)), (1, .int i1), (2, .int i2), (3, .int i3), (4, .int i4), (5, .int x33)]) rfl ?_
          exact ih _ _ _ h k
        · rw [if_pos hc27] at h
          refine g_aload_n (pc := 84) dX2_run_84 rfl rfl ?_
          refine g_iload (pc := 85) dX2_run_85 rfl ?_
          refine g_iconst (pc := 87) (v := (1 : Int32)) dX2_run_87 rfl ?_
          refine g_iadd (pc := 88) dX2_run_88 ?_
          refine pf_X2_85 (pc := 89) rfl dX2_run_89 (Nat.lt_of_lt_of_le (by decide) hN) kd_97 (fun m35 e36 => ?_)
          rw [lt_of e36] at h
          refine g_aload_n (pc := 92) dX2_run_92 rfl rfl ?_
          refine gf_X2_27 (pc := 93) rfl dX2_run_93 (Nat.lt_of_lt_of_le (by decide) hN) kd_97 ?_
          refine g_iload (pc := 96) dX2_run_96 rfl ?_
          refine g_iconst (pc := 98) (v := (1 : Int32)) dX2_run_98 rfl ?_
          refine g_iadd (pc := 99) dX2_run_99 ?_
          refine g_iload (pc := 100) dX2_run_100 rfl ?_
          refine g_iload (pc := 102) dX2_run_102 rfl ?_
          refine g_iload_n (pc := 104) dX2_run_104 rfl rfl ?_
          obtain ⟨p38, hp37, h⟩ := Option.bind_eq_some_iff.mp h
          refine r_callSN (pc := 105) (c_X10_lostByHole hN x15 i2 m35 hp37) yS_X10_lostByHole pX10_lostByHole (fun _ z => z.2.1.2.2.1) dX2_run_105 (Nat.le_of_ble_eq_true rfl) (Nat.le_of_ble_eq_true rfl) rfl (rK_i ?_)
          refine g_isub (pc := 108) dX2_run_108 ?_
          obtain ⟨hg41, h⟩ := gd_some h
          refine r_iast (pc := 109) 100 dX2_run_109 (Nat.lt_of_lt_of_le (by decide) hN) kd_105 ln_105 hg41 (fun m39 e40 => ?_)
          rw [lt_of e40] at h
          refine g_iinc (pc := 110) (lv' := fun y => [(0, .ref (κ 0 + 97)), (1, .int i1), (2, .int i2), (3, .int i3), (4, .int i4), (5, .int y), (6, .int x15)]) dX2_run_110 rfl (Nat.le_of_ble_eq_true rfl) (fun _ => rfl) (fun x42 e43 => ?_)
          rw [lt_of e43] at h
          refine g_goto (pc := 113) 29 dX2_run_113 (by decide) ?_
          refine g_lv (lv' := [(0, .ref (κ 0 + 97)), (1, .int i1), (2, .int i2), (3, .int i3), (4, .int i4), (5, .int x42)]) rfl ?_
          exact ih _ _ _ h k
set_option maxRecDepth 100000 in
set_option maxHeartbeats 4000000 in
theorem c_X2_run {κ : Nat → Nat} {N : Nat} (hN : 140 ≤ N) (i1 : Int32) (i2 : Int32) (i3 : Int32)  (μ : gMem) {μ' : gMem} (h : f_X2_run i1 i2 i3 μ = some μ') : CT2 κ N 2 yX2_run iX2_run [.ref (κ 0 + 97), .int i1, .int i2, .int i3] μ (qV μ') := by
  refine CT2.of (by decide) rfl rfl (Nat.le_of_ble_eq_true rfl) ?_
  unfold f_X2_run at h
  show RR κ N 2 iX2_run 0 [(0, .ref (κ 0 + 97)), (1, .int i1), (2, .int i2), (3, .int i3)] [] μ _
  refine g_aload_n (pc := 0) dX2_run_0 rfl rfl ?_
  refine gf_X2_9 (pc := 1) rfl dX2_run_1 (Nat.lt_of_lt_of_le (by decide) hN) kd_97 ?_
  refine gf_X2_79 (pc := 4) rfl dX2_run_4 (Nat.lt_of_lt_of_le (by decide) hN) kd_1 ?_
  refine g_istore (pc := 7) (lv' := fun y => [(0, .ref (κ 0 + 97)), (1, .int i1), (2, .int i2), (3, .int i3), (4, .int y)]) dX2_run_7 (Nat.le_of_ble_eq_true rfl) (fun _ => rfl) (fun x1 e2 => ?_)
  rw [lt_of e2] at h
  refine g_aload_n (pc := 9) dX2_run_9 rfl rfl ?_
  refine gf_X2_27 (pc := 10) rfl dX2_run_10 (Nat.lt_of_lt_of_le (by decide) hN) kd_97 ?_
  refine g_iconst (pc := 13) (v := (0 : Int32)) dX2_run_13 rfl ?_
  refine g_iload_n (pc := 14) dX2_run_14 rfl rfl ?_
  refine r_iast (pc := 15) 100 dX2_run_15 (Nat.lt_of_lt_of_le (by decide) hN) kd_105 ln_105 (by decide) (fun m3 e4 => ?_)
  rw [lt_of e4] at h
  refine g_aload_n (pc := 16) dX2_run_16 rfl rfl ?_
  refine g_iload_n (pc := 17) dX2_run_17 rfl rfl ?_
  refine pf_X2_82 (pc := 18) rfl dX2_run_18 (Nat.lt_of_lt_of_le (by decide) hN) kd_97 (fun m5 e6 => ?_)
  rw [lt_of e6] at h
  refine g_aload_n (pc := 21) dX2_run_21 rfl rfl ?_
  refine g_iconst (pc := 22) (v := (-1 : Int32)) dX2_run_22 rfl ?_
  refine pf_X2_85 (pc := 23) rfl dX2_run_23 (Nat.lt_of_lt_of_le (by decide) hN) kd_97 (fun m7 e8 => ?_)
  rw [lt_of e8] at h
  refine g_iconst (pc := 26) (v := (0 : Int32)) dX2_run_26 rfl ?_
  refine g_istore (pc := 27) (lv' := fun y => [(0, .ref (κ 0 + 97)), (1, .int i1), (2, .int i2), (3, .int i3), (4, .int x1), (5, .int y)]) dX2_run_27 (Nat.le_of_ble_eq_true rfl) (fun _ => rfl) (fun y9 e10 => ?_)
  rw [e10]
  obtain ⟨p44, hp45, h⟩ := Option.bind_eq_some_iff.mp h
  refine cl_X2_run_29 hN i1 i2 i3 x1  gF (0 : Int32) _ _ hp45 ?_
  cases h
  exact r_vret dX2_run_116 rfl rfl

def l_X3_readToken_8  : Nat → gMem → Option (gMem)
  | 0, _ => none
  | n + 1, μ =>
  if (μ 8 1) ≤ (μ 8 3) then
  (some (μ))
else
  (if inb (μ 8 3) 160 = true then
  if (μ 9 (μ 8 3).toNatClampNeg) = (32 : Int32) then
  (lt (st μ 8 3 ((μ 8 3) + (1 : Int32))) (fun m6 =>
  l_X3_readToken_8 n  m6))
else
  (some (μ)) else none)
def l_X3_readToken_106 (i1 : Int32) : Nat → gMem → Option (gMem)
  | 0, _ => none
  | n + 1, μ =>
  if i1 = 0 then
  (some (μ))
else
  (if (μ 8 1) ≤ (μ 8 4) then
  (some (μ))
else
  ((f_X3_typeAt (μ 8 4) μ).bind (fun p23 =>
  if p23.1 = (p23.2 8 2) then
  (lt (st p23.2 8 4 ((p23.2 8 4) + (1 : Int32))) (fun m25 =>
  l_X3_readToken_106 i1 n  m25))
else
  (some (p23.2)))))
def f_X3_readToken  (μ : gMem) : Option (gMem) :=
  lt (st μ 8 3 (μ 8 4)) (fun m1 =>
  (l_X3_readToken_8 gF  m1).bind (fun p8 =>
  lt (st p8 8 4 (p8 8 3)) (fun m10 =>
  (f_X3_typeAt (m10 8 3) m10).bind (fun p13 =>
  lt (st p13.2 8 2 p13.1) (fun m14 =>
  if (m14 8 2) = (3 : Int32) then
  (lt (st m14 8 4 ((m14 8 4) + (1 : Int32))) (fun m37 =>
  if (m37 8 2) = (1 : Int32) then
  ((l_X3_readToken_106 (1 : Int32) gF  m37).bind (fun p42 =>
  some p42))
else
  (lt (if (m37 8 2) = (2 : Int32) then (1 : Int32) else (0 : Int32)) (fun x44 =>
  (l_X3_readToken_106 x44 gF  m37).bind (fun p49 =>
  some p49)))))
else
  (if (m14 8 2) = (1 : Int32) then
  ((l_X3_readToken_106 (1 : Int32) gF  m14).bind (fun p27 =>
  some p27))
else
  (lt (if (m14 8 2) = (2 : Int32) then (1 : Int32) else (0 : Int32)) (fun x29 =>
  (l_X3_readToken_106 x29 gF  m14).bind (fun p34 =>
  some p34)))))))))
set_option maxRecDepth 100000 in
set_option maxHeartbeats 4000000 in
theorem cl_X3_readToken_8 {κ : Nat → Nat} {N : Nat} {Q : rQ} (hN : 140 ≤ N)   : ∀ (n : Nat)  (μ : gMem) (p : gMem), l_X3_readToken_8 n  μ = some p → RR κ N 2 iX3_readToken 46 [(0, .ref (κ 0 + 8))] [] p Q → RR κ N 2 iX3_readToken 8 [(0, .ref (κ 0 + 8))] [] μ Q := by
  intro n
  induction n with
  | zero =>
    intro  μ p h k
    unfold l_X3_readToken_8 at h
    cases h
  | succ n ih =>
    intro  μ p h k
    unfold l_X3_readToken_8 at h
    refine g_aload_n (pc := 8) dX3_readToken_8 rfl rfl ?_
    refine gf_X3_22 (pc := 9) rfl dX3_readToken_9 (Nat.lt_of_lt_of_le (by decide) hN) kd_8 ?_
    refine g_aload_n (pc := 12) dX3_readToken_12 rfl rfl ?_
    refine gf_X3_15 (pc := 13) rfl dX3_readToken_13 (Nat.lt_of_lt_of_le (by decide) hN) kd_8 ?_
    refine g_icmp_ge (pc := 16) 46 dX3_readToken_16 (by decide) (fun hc3 => ?_) (fun hc3 => ?_)
    · rw [if_pos hc3] at h
      cases h
      exact k
    · rw [if_neg hc3] at h
      refine g_aload_n (pc := 19) dX3_readToken_19 rfl rfl ?_
      refine gf_X3_9 (pc := 20) rfl dX3_readToken_20 (Nat.lt_of_lt_of_le (by decide) hN) kd_8 ?_
      refine g_aload_n (pc := 23) dX3_readToken_23 rfl rfl ?_
      refine gf_X3_22 (pc := 24) rfl dX3_readToken_24 (Nat.lt_of_lt_of_le (by decide) hN) kd_8 ?_
      obtain ⟨hg4, h⟩ := gd_some h
      refine r_iald (pc := 27) 160 dX3_readToken_27 (Nat.lt_of_lt_of_le (by decide) hN) kd_9 ln_9 hg4 ?_
      refine g_bipush (pc := 28) (v := (32 : Int32)) dX3_readToken_28 rfl ?_
      refine g_icmp_ne (pc := 30) 46 dX3_readToken_30 (by decide) (fun hc5 => ?_) (fun hc5 => ?_)
      · rw [if_neg hc5] at h
        cases h
        exact k
      · rw [if_pos hc5] at h
        refine g_aload_n (pc := 33) dX3_readToken_33 rfl rfl ?_
        refine g_dup (pc := 34) dX3_readToken_34 rfl ?_
        refine gf_X3_22 (pc := 35) rfl dX3_readToken_35 (Nat.lt_of_lt_of_le (by decide) hN) kd_8 ?_
        refine g_iconst (pc := 38) (v := (1 : Int32)) dX3_readToken_38 rfl ?_
        refine g_iadd (pc := 39) dX3_readToken_39 ?_
        refine pf_X3_22 (pc := 40) rfl dX3_readToken_40 (Nat.lt_of_lt_of_le (by decide) hN) kd_8 (fun m6 e7 => ?_)
        rw [lt_of e7] at h
        refine g_goto (pc := 43) 8 dX3_readToken_43 (by decide) ?_
        refine g_lv (lv' := [(0, .ref (κ 0 + 8))]) rfl ?_
        exact ih  _ _ h k
set_option maxRecDepth 100000 in
set_option maxHeartbeats 4000000 in
theorem cl_X3_readToken_106 {κ : Nat → Nat} {N : Nat} {Q : rQ} (hN : 140 ≤ N) (i1 : Int32)  : ∀ (n : Nat)  (μ : gMem) (p : gMem), l_X3_readToken_106 i1 n  μ = some p → RR κ N 2 iX3_readToken 149 [(0, .ref (κ 0 + 8)), (1, .int i1)] [] p Q → RR κ N 2 iX3_readToken 106 [(0, .ref (κ 0 + 8)), (1, .int i1)] [] μ Q := by
  intro n
  induction n with
  | zero =>
    intro  μ p h k
    unfold l_X3_readToken_106 at h
    cases h
  | succ n ih =>
    intro  μ p h k
    unfold l_X3_readToken_106 at h
    refine g_iload_n (pc := 106) dX3_readToken_106 rfl rfl ?_
    refine g_if_eq (pc := 107) 149 dX3_readToken_107 (by decide) (fun hc20 => ?_) (fun hc20 => ?_)
    · rw [if_pos hc20] at h
      cases h
      exact k
    · rw [if_neg hc20] at h
      refine g_aload_n (pc := 110) dX3_readToken_110 rfl rfl ?_
      refine gf_X3_19 (pc := 111) rfl dX3_readToken_111 (Nat.lt_of_lt_of_le (by decide) hN) kd_8 ?_
      refine g_aload_n (pc := 114) dX3_readToken_114 rfl rfl ?_
      refine gf_X3_15 (pc := 115) rfl dX3_readToken_115 (Nat.lt_of_lt_of_le (by decide) hN) kd_8 ?_
      refine g_icmp_ge (pc := 118) 149 dX3_readToken_118 (by decide) (fun hc21 => ?_) (fun hc21 => ?_)
      · rw [if_pos hc21] at h
        cases h
        exact k
      · rw [if_neg hc21] at h
        refine g_aload_n (pc := 121) dX3_readToken_121 rfl rfl ?_
        refine g_aload_n (pc := 122) dX3_readToken_122 rfl rfl ?_
        refine gf_X3_19 (pc := 123) rfl dX3_readToken_123 (Nat.lt_of_lt_of_le (by decide) hN) kd_8 ?_
        obtain ⟨p23, hp22, h⟩ := Option.bind_eq_some_iff.mp h
        refine r_callV (ci := 3) (pc := 126) (c_X3_typeAt hN (μ 8 4) μ hp22) yV_X3_typeAt ⟨rfl, by decide⟩ pX3_typeAt mL_X3_25 dX3_readToken_126 (Nat.le_of_ble_eq_true rfl) (Nat.le_of_ble_eq_true rfl) (Nat.lt_of_lt_of_le (by decide) hN) kd_8 rfl (rK_i ?_)
        refine g_aload_n (pc := 129) dX3_readToken_129 rfl rfl ?_
        refine gf_X3_29 (pc := 130) rfl dX3_readToken_130 (Nat.lt_of_lt_of_le (by decide) hN) kd_8 ?_
        refine g_icmp_ne (pc := 133) 149 dX3_readToken_133 (by decide) (fun hc24 => ?_) (fun hc24 => ?_)
        · rw [if_neg hc24] at h
          cases h
          exact k
        · rw [if_pos hc24] at h
          refine g_aload_n (pc := 136) dX3_readToken_136 rfl rfl ?_
          refine g_dup (pc := 137) dX3_readToken_137 rfl ?_
          refine gf_X3_19 (pc := 138) rfl dX3_readToken_138 (Nat.lt_of_lt_of_le (by decide) hN) kd_8 ?_
          refine g_iconst (pc := 141) (v := (1 : Int32)) dX3_readToken_141 rfl ?_
          refine g_iadd (pc := 142) dX3_readToken_142 ?_
          refine pf_X3_19 (pc := 143) rfl dX3_readToken_143 (Nat.lt_of_lt_of_le (by decide) hN) kd_8 (fun m25 e26 => ?_)
          rw [lt_of e26] at h
          refine g_goto (pc := 146) 106 dX3_readToken_146 (by decide) ?_
          refine g_lv (lv' := [(0, .ref (κ 0 + 8)), (1, .int i1)]) rfl ?_
          exact ih  _ _ h k
set_option maxRecDepth 100000 in
set_option maxHeartbeats 4000000 in
theorem c_X3_readToken {κ : Nat → Nat} {N : Nat} (hN : 140 ≤ N)   (μ : gMem) {μ' : gMem} (h : f_X3_readToken  μ = some μ') : CT2 κ N 2 yX3_readToken iX3_readToken [.ref (κ 0 + 8)] μ (qV μ') := by
  refine CT2.of (by decide) rfl rfl (Nat.le_of_ble_eq_true rfl) ?_
  unfold f_X3_readToken at h
  show RR κ N 2 iX3_readToken 0 [(0, .ref (κ 0 + 8))] [] μ _
  refine g_aload_n (pc := 0) dX3_readToken_0 rfl rfl ?_
  refine g_aload_n (pc := 1) dX3_readToken_1 rfl rfl ?_
  refine gf_X3_19 (pc := 2) rfl dX3_readToken_2 (Nat.lt_of_lt_of_le (by decide) hN) kd_8 ?_
  refine pf_X3_22 (pc := 5) rfl dX3_readToken_5 (Nat.lt_of_lt_of_le (by decide) hN) kd_8 (fun m1 e2 => ?_)
  rw [lt_of e2] at h
  obtain ⟨p8, hp9, h⟩ := Option.bind_eq_some_iff.mp h
  refine cl_X3_readToken_8 hN   gF  _ _ hp9 ?_
  refine g_aload_n (pc := 46) dX3_readToken_46 rfl rfl ?_
  refine g_aload_n (pc := 47) dX3_readToken_47 rfl rfl ?_
  refine gf_X3_22 (pc := 48) rfl dX3_readToken_48 (Nat.lt_of_lt_of_le (by decide) hN) kd_8 ?_
  refine pf_X3_19 (pc := 51) rfl dX3_readToken_51 (Nat.lt_of_lt_of_le (by decide) hN) kd_8 (fun m10 e11 => ?_)
  rw [lt_of e11] at h
  refine g_aload_n (pc := 54) dX3_readToken_54 rfl rfl ?_
  refine g_aload_n (pc := 55) dX3_readToken_55 rfl rfl ?_
  refine g_aload_n (pc := 56) dX3_readToken_56 rfl rfl ?_
  refine gf_X3_22 (pc := 57) rfl dX3_readToken_57 (Nat.lt_of_lt_of_le (by decide) hN) kd_8 ?_
  obtain ⟨p13, hp12, h⟩ := Option.bind_eq_some_iff.mp h
  refine r_callV (ci := 3) (pc := 60) (c_X3_typeAt hN (m10 8 3) m10 hp12) yV_X3_typeAt ⟨rfl, by decide⟩ pX3_typeAt mL_X3_25 dX3_readToken_60 (Nat.le_of_ble_eq_true rfl) (Nat.le_of_ble_eq_true rfl) (Nat.lt_of_lt_of_le (by decide) hN) kd_8 rfl (rK_i ?_)
  refine pf_X3_29 (pc := 63) rfl dX3_readToken_63 (Nat.lt_of_lt_of_le (by decide) hN) kd_8 (fun m14 e15 => ?_)
  rw [lt_of e15] at h
  refine g_aload_n (pc := 66) dX3_readToken_66 rfl rfl ?_
  refine gf_X3_29 (pc := 67) rfl dX3_readToken_67 (Nat.lt_of_lt_of_le (by decide) hN) kd_8 ?_
  refine g_iconst (pc := 70) (v := (3 : Int32)) dX3_readToken_70 rfl ?_
  refine g_icmp_ne (pc := 71) 84 dX3_readToken_71 (by decide) (fun hc16 => ?_) (fun hc16 => ?_)
  · rw [if_neg hc16] at h
    refine g_aload_n (pc := 84) dX3_readToken_84 rfl rfl ?_
    refine gf_X3_29 (pc := 85) rfl dX3_readToken_85 (Nat.lt_of_lt_of_le (by decide) hN) kd_8 ?_
    refine g_iconst (pc := 88) (v := (1 : Int32)) dX3_readToken_88 rfl ?_
    refine g_icmp_eq (pc := 89) 100 dX3_readToken_89 (by decide) (fun hc17 => ?_) (fun hc17 => ?_)
    · rw [if_pos hc17] at h
      refine g_iconst (pc := 100) (v := (1 : Int32)) dX3_readToken_100 rfl ?_
      refine g_goto (pc := 101) 105 dX3_readToken_101 (by decide) ?_
      refine g_istore_n (pc := 105) (lv' := fun y => [(0, .ref (κ 0 + 8)), (1, .int y)]) dX3_readToken_105 rfl (Nat.le_of_ble_eq_true rfl) (fun _ => rfl) (fun y18 e19 => ?_)
      rw [e19]
      obtain ⟨p27, hp28, h⟩ := Option.bind_eq_some_iff.mp h
      refine cl_X3_readToken_106 hN (1 : Int32)  gF  _ _ hp28 ?_
      cases h
      exact r_vret dX3_readToken_149 rfl rfl
    · rw [if_neg hc17] at h
      refine g_aload_n (pc := 92) dX3_readToken_92 rfl rfl ?_
      refine gf_X3_29 (pc := 93) rfl dX3_readToken_93 (Nat.lt_of_lt_of_le (by decide) hN) kd_8 ?_
      refine g_iconst (pc := 96) (v := (2 : Int32)) dX3_readToken_96 rfl ?_
      have key31 : ∀ x29 : Int32, x29 = (if (m14 8 2) = (2 : Int32) then (1 : Int32) else (0 : Int32)) → RR κ N 2 iX3_readToken 105 [(0, .ref (κ 0 + 8))] [.int x29] m14 (qV μ') := by
        intro x29 e30
        rw [lt_of e30] at h
        refine g_istore_n (pc := 105) (lv' := fun y => [(0, .ref (κ 0 + 8)), (1, .int y)]) dX3_readToken_105 rfl (Nat.le_of_ble_eq_true rfl) (fun _ => rfl) (fun y32 e33 => ?_)
        rw [e33]
        obtain ⟨p34, hp35, h⟩ := Option.bind_eq_some_iff.mp h
        refine cl_X3_readToken_106 hN x29  gF  _ _ hp35 ?_
        cases h
        exact r_vret dX3_readToken_149 rfl rfl
      refine g_icmp_ne (pc := 97) 104 dX3_readToken_97 (by decide) (fun hc36 => ?_) (fun hc36 => ?_)
      · refine g_iconst (pc := 104) (v := (0 : Int32)) dX3_readToken_104 rfl ?_
        exact key31 _ (by rw [if_neg hc36])
      · refine g_iconst (pc := 100) (v := (1 : Int32)) dX3_readToken_100 rfl ?_
        refine g_goto (pc := 101) 105 dX3_readToken_101 (by decide) ?_
        exact key31 _ (by rw [if_pos hc36])
  · rw [if_pos hc16] at h
    refine g_aload_n (pc := 74) dX3_readToken_74 rfl rfl ?_
    refine g_dup (pc := 75) dX3_readToken_75 rfl ?_
    refine gf_X3_19 (pc := 76) rfl dX3_readToken_76 (Nat.lt_of_lt_of_le (by decide) hN) kd_8 ?_
    refine g_iconst (pc := 79) (v := (1 : Int32)) dX3_readToken_79 rfl ?_
    refine g_iadd (pc := 80) dX3_readToken_80 ?_
    refine pf_X3_19 (pc := 81) rfl dX3_readToken_81 (Nat.lt_of_lt_of_le (by decide) hN) kd_8 (fun m37 e38 => ?_)
    rw [lt_of e38] at h
    refine g_aload_n (pc := 84) dX3_readToken_84 rfl rfl ?_
    refine gf_X3_29 (pc := 85) rfl dX3_readToken_85 (Nat.lt_of_lt_of_le (by decide) hN) kd_8 ?_
    refine g_iconst (pc := 88) (v := (1 : Int32)) dX3_readToken_88 rfl ?_
    refine g_icmp_eq (pc := 89) 100 dX3_readToken_89 (by decide) (fun hc39 => ?_) (fun hc39 => ?_)
    · rw [if_pos hc39] at h
      refine g_iconst (pc := 100) (v := (1 : Int32)) dX3_readToken_100 rfl ?_
      refine g_goto (pc := 101) 105 dX3_readToken_101 (by decide) ?_
      refine g_istore_n (pc := 105) (lv' := fun y => [(0, .ref (κ 0 + 8)), (1, .int y)]) dX3_readToken_105 rfl (Nat.le_of_ble_eq_true rfl) (fun _ => rfl) (fun y40 e41 => ?_)
      rw [e41]
      obtain ⟨p42, hp43, h⟩ := Option.bind_eq_some_iff.mp h
      refine cl_X3_readToken_106 hN (1 : Int32)  gF  _ _ hp43 ?_
      cases h
      exact r_vret dX3_readToken_149 rfl rfl
    · rw [if_neg hc39] at h
      refine g_aload_n (pc := 92) dX3_readToken_92 rfl rfl ?_
      refine gf_X3_29 (pc := 93) rfl dX3_readToken_93 (Nat.lt_of_lt_of_le (by decide) hN) kd_8 ?_
      refine g_iconst (pc := 96) (v := (2 : Int32)) dX3_readToken_96 rfl ?_
      have key46 : ∀ x44 : Int32, x44 = (if (m37 8 2) = (2 : Int32) then (1 : Int32) else (0 : Int32)) → RR κ N 2 iX3_readToken 105 [(0, .ref (κ 0 + 8))] [.int x44] m37 (qV μ') := by
        intro x44 e45
        rw [lt_of e45] at h
        refine g_istore_n (pc := 105) (lv' := fun y => [(0, .ref (κ 0 + 8)), (1, .int y)]) dX3_readToken_105 rfl (Nat.le_of_ble_eq_true rfl) (fun _ => rfl) (fun y47 e48 => ?_)
        rw [e48]
        obtain ⟨p49, hp50, h⟩ := Option.bind_eq_some_iff.mp h
        refine cl_X3_readToken_106 hN x44  gF  _ _ hp50 ?_
        cases h
        exact r_vret dX3_readToken_149 rfl rfl
      refine g_icmp_ne (pc := 97) 104 dX3_readToken_97 (by decide) (fun hc51 => ?_) (fun hc51 => ?_)
      · refine g_iconst (pc := 104) (v := (0 : Int32)) dX3_readToken_104 rfl ?_
        exact key46 _ (by rw [if_neg hc51])
      · refine g_iconst (pc := 100) (v := (1 : Int32)) dX3_readToken_100 rfl ?_
        refine g_goto (pc := 101) 105 dX3_readToken_101 (by decide) ?_
        exact key46 _ (by rw [if_pos hc51])

def l_X5_copy_42 (a0 : Nat) (a1 : Nat) : Nat → Int32 → gMem → Option (Int32 × gMem)
  | 0, _, _ => none
  | n + 1, i2, μ =>
  if (5 : Int32) ≤ i2 then
  (some (i2, μ))
else
  (if inb i2 5 = true then
  (f_X8_copy ((a0 + 1) + 1 + i2.toNatClampNeg) ((a1 + 1) + 1 + i2.toNatClampNeg) μ).bind (fun m16 =>
  lt (i2 + Int32.ofInt 1) (fun x17 =>
  l_X5_copy_42 a0 a1 n x17 m16)) else none)
def f_X5_copy (a0 : Nat) (a1 : Nat) (μ : gMem) : Option (gMem) :=
  lt (st μ a0 0 (μ a1 0)) (fun m1 =>
  lt (st m1 a0 1 (m1 a1 1)) (fun m3 =>
  lt (st m3 a0 2 (m3 a1 2)) (fun m5 =>
  lt (st m5 a0 3 (m5 a1 3)) (fun m7 =>
  lt (st m7 a0 4 (m7 a1 4)) (fun m9 =>
  (l_X5_copy_42 a0 a1 gF (0 : Int32) m9).bind (fun p19 =>
  some p19.2))))))
set_option maxRecDepth 100000 in
set_option maxHeartbeats 4000000 in
theorem cl_X5_copy_42 {κ : Nat → Nat} {N : Nat} {Q : rQ} (hN : 140 ≤ N) (a0 : Nat) (a1 : Nat) (h0 : kd a0 = 5) (g0 : a0 < N) (h1 : kd a1 = 5) (g1 : a1 < N) : ∀ (n : Nat) (i2 : Int32) (μ : gMem) (p : Int32 × gMem), l_X5_copy_42 a0 a1 n i2 μ = some p → RR κ N 2 iX5_copy 68 [(0, .ref (κ 0 + a0)), (1, .ref (κ 0 + a1)), (2, .int p.1)] [] p.2 Q → RR κ N 2 iX5_copy 42 [(0, .ref (κ 0 + a0)), (1, .ref (κ 0 + a1)), (2, .int i2)] [] μ Q := by
  intro n
  induction n with
  | zero =>
    intro i2 μ p h k
    unfold l_X5_copy_42 at h
    cases h
  | succ n ih =>
    intro i2 μ p h k
    unfold l_X5_copy_42 at h
    refine g_iload_n (pc := 42) dX5_copy_42 rfl rfl ?_
    refine g_iconst (pc := 43) (v := (5 : Int32)) dX5_copy_43 rfl ?_
    refine g_icmp_ge (pc := 44) 68 dX5_copy_44 (by decide) (fun hc13 => ?_) (fun hc13 => ?_)
    · rw [if_pos hc13] at h
      cases h
      exact k
    · rw [if_neg hc13] at h
      refine g_aload_n (pc := 47) dX5_copy_47 rfl rfl ?_
      refine gf_X5_11 (pc := 48) rfl dX5_copy_48 g0 h0 ?_
      refine g_iload_n (pc := 51) dX5_copy_51 rfl rfl ?_
      obtain ⟨hg14, h⟩ := gd_some h
      refine r_aald (pc := 52) 24 5 ((a0 + 1) + 1 + i2.toNatClampNeg) dX5_copy_52 (Nat.lt_of_lt_of_le (Nat.lt_of_lt_of_le (Nat.lt_of_succ_le (Nat.add_le_add_left (by decide : 2 ≤ 7) _)) (kd_scene h0).2.2) hN) (kd_scene h0).1 (by decide) (kd_scene h0).2.1 hg14 rfl ?_
      refine g_aload_n (pc := 53) dX5_copy_53 rfl rfl ?_
      refine gf_X5_11 (pc := 54) rfl dX5_copy_54 g1 h1 ?_
      refine g_iload_n (pc := 57) dX5_copy_57 rfl rfl ?_
      refine r_aald (pc := 58) 24 5 ((a1 + 1) + 1 + i2.toNatClampNeg) dX5_copy_58 (Nat.lt_of_lt_of_le (Nat.lt_of_lt_of_le (Nat.lt_of_succ_le (Nat.add_le_add_left (by decide : 2 ≤ 7) _)) (kd_scene h1).2.2) hN) (kd_scene h1).1 (by decide) (kd_scene h1).2.1 hg14 rfl ?_
      obtain ⟨m16, hp15, h⟩ := Option.bind_eq_some_iff.mp h
      refine r_callV (ci := 8) (pc := 59) (c_X8_copy hN ((a0 + 1) + 1 + i2.toNatClampNeg) ((a1 + 1) + 1 + i2.toNatClampNeg) ((kd_warr (kd_scene h0).1 (inb_lt hg14)).1) ((kd_warr (kd_scene h1).1 (inb_lt hg14)).1) μ hp15) yV_X8_copy ⟨rfl, by decide⟩ pX8_copy mL_X5_34 dX5_copy_59 (Nat.le_of_ble_eq_true rfl) (Nat.le_of_ble_eq_true rfl) (Nat.lt_of_lt_of_le (kd_warr (kd_scene h0).1 (inb_lt hg14)).2 hN) (kd_warr (kd_scene h0).1 (inb_lt hg14)).1 rfl (rK_v ?_)
      refine g_iinc (pc := 62) (lv' := fun y => [(0, .ref (κ 0 + a0)), (1, .ref (κ 0 + a1)), (2, .int y)]) dX5_copy_62 rfl (Nat.le_of_ble_eq_true rfl) (fun _ => rfl) (fun x17 e18 => ?_)
      rw [lt_of e18] at h
      refine g_goto (pc := 65) 42 dX5_copy_65 (by decide) ?_
      refine g_lv (lv' := [(0, .ref (κ 0 + a0)), (1, .ref (κ 0 + a1)), (2, .int x17)]) rfl ?_
      exact ih _ _ _ h k
set_option maxRecDepth 100000 in
set_option maxHeartbeats 4000000 in
theorem c_X5_copy {κ : Nat → Nat} {N : Nat} (hN : 140 ≤ N) (a0 : Nat) (a1 : Nat) (h0 : kd a0 = 5) (h1 : kd a1 = 5) (μ : gMem) {μ' : gMem} (h : f_X5_copy a0 a1 μ = some μ') : CT2 κ N 2 yX5_copy iX5_copy [.ref (κ 0 + a0), .ref (κ 0 + a1)] μ (qV μ') := by
  refine CT2.of (by decide) rfl rfl (Nat.le_of_ble_eq_true rfl) ?_
  unfold f_X5_copy at h
  show RR κ N 2 iX5_copy 0 [(0, .ref (κ 0 + a0)), (1, .ref (κ 0 + a1))] [] μ _
  refine g_aload_n (pc := 0) dX5_copy_0 rfl rfl ?_
  refine g_aload_n (pc := 1) dX5_copy_1 rfl rfl ?_
  refine gf_X5_18 (pc := 2) rfl dX5_copy_2 (Nat.lt_of_lt_of_le (kd_obj h1 (by decide)) hN) h1 ?_
  refine pf_X5_18 (pc := 5) rfl dX5_copy_5 (Nat.lt_of_lt_of_le (kd_obj h0 (by decide)) hN) h0 (fun m1 e2 => ?_)
  rw [lt_of e2] at h
  refine g_aload_n (pc := 8) dX5_copy_8 rfl rfl ?_
  refine g_aload_n (pc := 9) dX5_copy_9 rfl rfl ?_
  refine gf_X5_22 (pc := 10) rfl dX5_copy_10 (Nat.lt_of_lt_of_le (kd_obj h1 (by decide)) hN) h1 ?_
  refine pf_X5_22 (pc := 13) rfl dX5_copy_13 (Nat.lt_of_lt_of_le (kd_obj h0 (by decide)) hN) h0 (fun m3 e4 => ?_)
  rw [lt_of e4] at h
  refine g_aload_n (pc := 16) dX5_copy_16 rfl rfl ?_
  refine g_aload_n (pc := 17) dX5_copy_17 rfl rfl ?_
  refine gf_X5_25 (pc := 18) rfl dX5_copy_18 (Nat.lt_of_lt_of_le (kd_obj h1 (by decide)) hN) h1 ?_
  refine pf_X5_25 (pc := 21) rfl dX5_copy_21 (Nat.lt_of_lt_of_le (kd_obj h0 (by decide)) hN) h0 (fun m5 e6 => ?_)
  rw [lt_of e6] at h
  refine g_aload_n (pc := 24) dX5_copy_24 rfl rfl ?_
  refine g_aload_n (pc := 25) dX5_copy_25 rfl rfl ?_
  refine gf_X5_28 (pc := 26) rfl dX5_copy_26 (Nat.lt_of_lt_of_le (kd_obj h1 (by decide)) hN) h1 ?_
  refine pf_X5_28 (pc := 29) rfl dX5_copy_29 (Nat.lt_of_lt_of_le (kd_obj h0 (by decide)) hN) h0 (fun m7 e8 => ?_)
  rw [lt_of e8] at h
  refine g_aload_n (pc := 32) dX5_copy_32 rfl rfl ?_
  refine g_aload_n (pc := 33) dX5_copy_33 rfl rfl ?_
  refine gf_X5_31 (pc := 34) rfl dX5_copy_34 (Nat.lt_of_lt_of_le (kd_obj h1 (by decide)) hN) h1 ?_
  refine pf_X5_31 (pc := 37) rfl dX5_copy_37 (Nat.lt_of_lt_of_le (kd_obj h0 (by decide)) hN) h0 (fun m9 e10 => ?_)
  rw [lt_of e10] at h
  refine g_iconst (pc := 40) (v := (0 : Int32)) dX5_copy_40 rfl ?_
  refine g_istore_n (pc := 41) (lv' := fun y => [(0, .ref (κ 0 + a0)), (1, .ref (κ 0 + a1)), (2, .int y)]) dX5_copy_41 rfl (Nat.le_of_ble_eq_true rfl) (fun _ => rfl) (fun y11 e12 => ?_)
  rw [e12]
  obtain ⟨p19, hp20, h⟩ := Option.bind_eq_some_iff.mp h
  refine cl_X5_copy_42 hN a0 a1 h0 (Nat.lt_of_lt_of_le (kd_obj h0 (by decide)) hN) h1 (Nat.lt_of_lt_of_le (kd_obj h1 (by decide)) hN) gF (0 : Int32) _ _ hp20 ?_
  cases h
  exact r_vret dX5_copy_68 rfl rfl

def f_X7_setAsAtFirst  (μ : gMem) : Option (gMem) :=
  lt (st μ 1 1 (0 : Int32)) (fun m1 =>
  lt (st m1 1 2 (0 : Int32)) (fun m3 =>
  lt (st m3 1 3 (3 : Int32)) (fun m5 =>
  lt (st m5 1 4 (50 : Int32)) (fun m7 =>
  lt (st m7 1 5 (2 : Int32)) (fun m9 =>
  (f_X7_setFrost (-1 : Int32) (-1 : Int32) m9).bind (fun m12 =>
  some m12))))))
set_option maxRecDepth 100000 in
set_option maxHeartbeats 4000000 in
theorem c_X7_setAsAtFirst {κ : Nat → Nat} {N : Nat} (hN : 140 ≤ N)   (μ : gMem) {μ' : gMem} (h : f_X7_setAsAtFirst  μ = some μ') : CT2 κ N 2 yX7_setAsAtFirst iX7_setAsAtFirst [.ref (κ 0 + 1)] μ (qV μ') := by
  refine CT2.of (by decide) rfl rfl (Nat.le_of_ble_eq_true rfl) ?_
  unfold f_X7_setAsAtFirst at h
  show RR κ N 2 iX7_setAsAtFirst 0 [(0, .ref (κ 0 + 1))] [] μ _
  refine g_aload_n (pc := 0) dX7_setAsAtFirst_0 rfl rfl ?_
  refine g_iconst (pc := 1) (v := (0 : Int32)) dX7_setAsAtFirst_1 rfl ?_
  refine pf_X7_21 (pc := 2) rfl dX7_setAsAtFirst_2 (Nat.lt_of_lt_of_le (by decide) hN) kd_1 (fun m1 e2 => ?_)
  rw [lt_of e2] at h
  refine g_aload_n (pc := 5) dX7_setAsAtFirst_5 rfl rfl ?_
  refine g_iconst (pc := 6) (v := (0 : Int32)) dX7_setAsAtFirst_6 rfl ?_
  refine pf_X7_25 (pc := 7) rfl dX7_setAsAtFirst_7 (Nat.lt_of_lt_of_le (by decide) hN) kd_1 (fun m3 e4 => ?_)
  rw [lt_of e4] at h
  refine g_aload_n (pc := 10) dX7_setAsAtFirst_10 rfl rfl ?_
  refine g_iconst (pc := 11) (v := (3 : Int32)) dX7_setAsAtFirst_11 rfl ?_
  refine pf_X7_28 (pc := 12) rfl dX7_setAsAtFirst_12 (Nat.lt_of_lt_of_le (by decide) hN) kd_1 (fun m5 e6 => ?_)
  rw [lt_of e6] at h
  refine g_aload_n (pc := 15) dX7_setAsAtFirst_15 rfl rfl ?_
  refine g_bipush (pc := 16) (v := (50 : Int32)) dX7_setAsAtFirst_16 rfl ?_
  refine pf_X7_31 (pc := 18) rfl dX7_setAsAtFirst_18 (Nat.lt_of_lt_of_le (by decide) hN) kd_1 (fun m7 e8 => ?_)
  rw [lt_of e8] at h
  refine g_aload_n (pc := 21) dX7_setAsAtFirst_21 rfl rfl ?_
  refine g_iconst (pc := 22) (v := (2 : Int32)) dX7_setAsAtFirst_22 rfl ?_
  refine pf_X7_34 (pc := 23) rfl dX7_setAsAtFirst_23 (Nat.lt_of_lt_of_le (by decide) hN) kd_1 (fun m9 e10 => ?_)
  rw [lt_of e10] at h
  refine g_aload_n (pc := 26) dX7_setAsAtFirst_26 rfl rfl ?_
  refine g_iconst (pc := 27) (v := (-1 : Int32)) dX7_setAsAtFirst_27 rfl ?_
  refine g_iconst (pc := 28) (v := (-1 : Int32)) dX7_setAsAtFirst_28 rfl ?_
  obtain ⟨m12, hp11, h⟩ := Option.bind_eq_some_iff.mp h
  refine r_callV (ci := 7) (pc := 29) (c_X7_setFrost hN (-1 : Int32) (-1 : Int32) m9 hp11) yV_X7_setFrost ⟨rfl, by decide⟩ pX7_setFrost mL_X7_37 dX7_setAsAtFirst_29 (Nat.le_of_ble_eq_true rfl) (Nat.le_of_ble_eq_true rfl) (Nat.lt_of_lt_of_le (by decide) hN) kd_1 rfl (rK_v ?_)
  cases h
  exact r_vret dX7_setAsAtFirst_32 rfl rfl

def f_X7_hear (i1 : Int32) (i2 : Int32) (i3 : Int32) (i4 : Int32) (μ : gMem) : Option (gMem) :=
  if i1 = (0 : Int32) then
  ((f_X7_setAsAtFirst  μ).bind (fun m22 =>
  some m22))
else
  (if i1 = (1 : Int32) then
  ((f_X7_addSister i2 i3 i4 μ).bind (fun m20 =>
  some m20))
else
  (if i1 = (2 : Int32) then
  (lt (st μ 1 2 i2) (fun m15 =>
  lt (st m15 1 3 i3) (fun m17 =>
  some m17)))
else
  (if i1 = (3 : Int32) then
  (lt (st μ 1 4 i3) (fun m13 =>
  some m13))
else
  (if i1 = (4 : Int32) then
  (lt (st μ 1 5 i3) (fun m11 =>
  some m11))
else
  (if i1 = (5 : Int32) then
  ((f_X7_setFrost i3 i4 μ).bind (fun m10 =>
  some m10))
else
  ((f_X7_setFrost (-1 : Int32) (-1 : Int32) μ).bind (fun m8 =>
  some m8)))))))
set_option maxRecDepth 100000 in
set_option maxHeartbeats 4000000 in
theorem c_X7_hear {κ : Nat → Nat} {N : Nat} (hN : 140 ≤ N) (i1 : Int32) (i2 : Int32) (i3 : Int32) (i4 : Int32)  (μ : gMem) {μ' : gMem} (h : f_X7_hear i1 i2 i3 i4 μ = some μ') : CT2 κ N 3 yX7_hear iX7_hear [.ref (κ 0 + 1), .int i1, .int i2, .int i3, .int i4] μ (qV μ') := by
  refine CT2.of (by decide) rfl rfl (Nat.le_of_ble_eq_true rfl) ?_
  unfold f_X7_hear at h
  show RR κ N 3 iX7_hear 0 [(0, .ref (κ 0 + 1)), (1, .int i1), (2, .int i2), (3, .int i3), (4, .int i4)] [] μ _
  refine g_iload_n (pc := 0) dX7_hear_0 rfl rfl ?_
  by_cases hc1 : i1 = (0 : Int32)
  · rw [if_pos hc1] at h
    refine g_tableIn (pc := 1) 40 dX7_hear_1 (by rw [hc1]; decide) (by rw [hc1]; decide) (by rw [hc1]; rfl) (by decide) ?_
    refine g_aload_n (pc := 40) dX7_hear_40 rfl rfl ?_
    obtain ⟨m22, hp21, h⟩ := Option.bind_eq_some_iff.mp h
    refine r_callV (ci := 7) (pc := 41) (c_X7_setAsAtFirst hN  μ hp21) yV_X7_setAsAtFirst ⟨rfl, by decide⟩ pX7_setAsAtFirst mL_X7_18 dX7_hear_41 (Nat.le_of_ble_eq_true rfl) (Nat.le_of_ble_eq_true rfl) (Nat.lt_of_lt_of_le (by decide) hN) kd_1 rfl (rK_v ?_)
    refine g_goto (pc := 44) 103 dX7_hear_44 (by decide) ?_
    cases h
    exact r_vret dX7_hear_103 rfl rfl
  · rw [if_neg hc1] at h
    by_cases hc2 : i1 = (1 : Int32)
    · rw [if_pos hc2] at h
      refine g_tableIn (pc := 1) 47 dX7_hear_1 (by rw [hc2]; decide) (by rw [hc2]; decide) (by rw [hc2]; rfl) (by decide) ?_
      refine g_aload_n (pc := 47) dX7_hear_47 rfl rfl ?_
      refine g_iload_n (pc := 48) dX7_hear_48 rfl rfl ?_
      refine g_iload_n (pc := 49) dX7_hear_49 rfl rfl ?_
      refine g_iload (pc := 50) dX7_hear_50 rfl ?_
      obtain ⟨m20, hp19, h⟩ := Option.bind_eq_some_iff.mp h
      refine r_callV (ci := 7) (pc := 52) (c_X7_addSister hN i2 i3 i4 μ hp19) yV_X7_addSister ⟨rfl, by decide⟩ pX7_addSister mL_X7_47 dX7_hear_52 (Nat.le_of_ble_eq_true rfl) (Nat.le_of_ble_eq_true rfl) (Nat.lt_of_lt_of_le (by decide) hN) kd_1 rfl (rK_v ?_)
      refine g_goto (pc := 55) 103 dX7_hear_55 (by decide) ?_
      cases h
      exact r_vret dX7_hear_103 rfl rfl
    · rw [if_neg hc2] at h
      by_cases hc3 : i1 = (2 : Int32)
      · rw [if_pos hc3] at h
        refine g_tableIn (pc := 1) 58 dX7_hear_1 (by rw [hc3]; decide) (by rw [hc3]; decide) (by rw [hc3]; rfl) (by decide) ?_
        refine g_aload_n (pc := 58) dX7_hear_58 rfl rfl ?_
        refine g_iload_n (pc := 59) dX7_hear_59 rfl rfl ?_
        refine pf_X7_25 (pc := 60) rfl dX7_hear_60 (Nat.lt_of_lt_of_le (by decide) hN) kd_1 (fun m15 e16 => ?_)
        rw [lt_of e16] at h
        refine g_aload_n (pc := 63) dX7_hear_63 rfl rfl ?_
        refine g_iload_n (pc := 64) dX7_hear_64 rfl rfl ?_
        refine pf_X7_28 (pc := 65) rfl dX7_hear_65 (Nat.lt_of_lt_of_le (by decide) hN) kd_1 (fun m17 e18 => ?_)
        rw [lt_of e18] at h
        refine g_goto (pc := 68) 103 dX7_hear_68 (by decide) ?_
        cases h
        exact r_vret dX7_hear_103 rfl rfl
      · rw [if_neg hc3] at h
        by_cases hc4 : i1 = (3 : Int32)
        · rw [if_pos hc4] at h
          refine g_tableIn (pc := 1) 71 dX7_hear_1 (by rw [hc4]; decide) (by rw [hc4]; decide) (by rw [hc4]; rfl) (by decide) ?_
          refine g_aload_n (pc := 71) dX7_hear_71 rfl rfl ?_
          refine g_iload_n (pc := 72) dX7_hear_72 rfl rfl ?_
          refine pf_X7_31 (pc := 73) rfl dX7_hear_73 (Nat.lt_of_lt_of_le (by decide) hN) kd_1 (fun m13 e14 => ?_)
          rw [lt_of e14] at h
          refine g_goto (pc := 76) 103 dX7_hear_76 (by decide) ?_
          cases h
          exact r_vret dX7_hear_103 rfl rfl
        · rw [if_neg hc4] at h
          by_cases hc5 : i1 = (4 : Int32)
          · rw [if_pos hc5] at h
            refine g_tableIn (pc := 1) 79 dX7_hear_1 (by rw [hc5]; decide) (by rw [hc5]; decide) (by rw [hc5]; rfl) (by decide) ?_
            refine g_aload_n (pc := 79) dX7_hear_79 rfl rfl ?_
            refine g_iload_n (pc := 80) dX7_hear_80 rfl rfl ?_
            refine pf_X7_34 (pc := 81) rfl dX7_hear_81 (Nat.lt_of_lt_of_le (by decide) hN) kd_1 (fun m11 e12 => ?_)
            rw [lt_of e12] at h
            refine g_goto (pc := 84) 103 dX7_hear_84 (by decide) ?_
            cases h
            exact r_vret dX7_hear_103 rfl rfl
          · rw [if_neg hc5] at h
            by_cases hc6 : i1 = (5 : Int32)
            · rw [if_pos hc6] at h
              refine g_tableIn (pc := 1) 87 dX7_hear_1 (by rw [hc6]; decide) (by rw [hc6]; decide) (by rw [hc6]; rfl) (by decide) ?_
              refine g_aload_n (pc := 87) dX7_hear_87 rfl rfl ?_
              refine g_iload_n (pc := 88) dX7_hear_88 rfl rfl ?_
              refine g_iload (pc := 89) dX7_hear_89 rfl ?_
              obtain ⟨m10, hp9, h⟩ := Option.bind_eq_some_iff.mp h
              refine r_callV (ci := 7) (pc := 91) (c_X7_setFrost hN i3 i4 μ hp9) yV_X7_setFrost ⟨rfl, by decide⟩ pX7_setFrost mL_X7_37 dX7_hear_91 (Nat.le_of_ble_eq_true rfl) (Nat.le_of_ble_eq_true rfl) (Nat.lt_of_lt_of_le (by decide) hN) kd_1 rfl (rK_v ?_)
              refine g_goto (pc := 94) 103 dX7_hear_94 (by decide) ?_
              cases h
              exact r_vret dX7_hear_103 rfl rfl
            · rw [if_neg hc6] at h
              refine g_tableOut (pc := 1) 97 dX7_hear_1 (by have q0 := lv_neT hc1 (a := 0) (by decide); have q1 := lv_neT hc2 (a := 1) (by decide); have q2 := lv_neT hc3 (a := 2) (by decide); have q3 := lv_neT hc4 (a := 3) (by decide); have q4 := lv_neT hc5 (a := 4) (by decide); have q5 := lv_neT hc6 (a := 5) (by decide); omega) (by decide) ?_
              refine g_aload_n (pc := 97) dX7_hear_97 rfl rfl ?_
              refine g_iconst (pc := 98) (v := (-1 : Int32)) dX7_hear_98 rfl ?_
              refine g_iconst (pc := 99) (v := (-1 : Int32)) dX7_hear_99 rfl ?_
              obtain ⟨m8, hp7, h⟩ := Option.bind_eq_some_iff.mp h
              refine r_callV (ci := 7) (pc := 100) (c_X7_setFrost hN (-1 : Int32) (-1 : Int32) μ hp7) yV_X7_setFrost ⟨rfl, by decide⟩ pX7_setFrost mL_X7_37 dX7_hear_100 (Nat.le_of_ble_eq_true rfl) (Nat.le_of_ble_eq_true rfl) (Nat.lt_of_lt_of_le (by decide) hN) kd_1 rfl (rK_v ?_)
              cases h
              exact r_vret dX7_hear_103 rfl rfl

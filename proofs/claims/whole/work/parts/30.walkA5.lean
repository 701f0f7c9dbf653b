def f_X10_seen (i1 : Int32) (i2 : Int32) (μ : gMem) : Option (Int32 × gMem) :=
  (f_X10_isOutside i1 (0 : Int32) (99 : Int32) μ).bind (fun p2 =>
  if p2.1 = 0 then
  ((f_X10_isOutside i2 (0 : Int32) (99 : Int32) p2.2).bind (fun p6 =>
  if p6.1 = 0 then
  (if (p6.2 0 11) < (6 : Int32) then
  (if inb (p6.2 0 11) 6 = true then
  lt (st p6.2 138 (p6.2 0 11).toNatClampNeg i1) (fun m10 =>
  if inb (m10 0 11) 6 = true then
  lt (st m10 139 (m10 0 11).toNatClampNeg i2) (fun m13 =>
  lt (st m13 0 11 ((m13 0 11) + (1 : Int32))) (fun m16 =>
  some ((m16 0 11), m16))) else none) else none)
else
  (some ((-5 : Int32), p6.2)))
else
  (some ((-3 : Int32), p6.2))))
else
  (some ((-3 : Int32), p2.2)))
set_option maxRecDepth 100000 in
set_option maxHeartbeats 4000000 in
theorem c_X10_seen {κ : Nat → Nat} {N : Nat} (hN : 140 ≤ N) (i1 : Int32) (i2 : Int32)  (μ : gMem) {r : Int32} {μ' : gMem} (h : f_X10_seen i1 i2 μ = some (r, μ')) : CT2 κ N 2 yX10_seen iX10_seen [.ref (κ 0 + 0), .int i1, .int i2] μ (qI r μ') := by
  refine CT2.of (by decide) rfl rfl (Nat.le_of_ble_eq_true rfl) ?_
  unfold f_X10_seen at h
  show RR κ N 2 iX10_seen 0 [(0, .ref (κ 0 + 0)), (1, .int i1), (2, .int i2)] [] μ _
  refine g_iload_n (pc := 0) dX10_seen_0 rfl rfl ?_
  refine g_iconst (pc := 1) (v := (0 : Int32)) dX10_seen_1 rfl ?_
  refine g_bipush (pc := 2) (v := (99 : Int32)) dX10_seen_2 rfl ?_
  obtain ⟨p2, hp1, h⟩ := Option.bind_eq_some_iff.mp h
  refine r_callS (pc := 4) (c_X10_isOutside hN i1 (0 : Int32) (99 : Int32) μ hp1) yS_X10_isOutside pX10_isOutside mL_X10_83 dX10_seen_4 (Nat.le_of_ble_eq_true rfl) (Nat.le_of_ble_eq_true rfl) rfl (rK_z (fun hz3 => ?_))
  refine g_if_ne (pc := 7) 20 dX10_seen_7 (by decide) (fun hc4 => ?_) (fun hc4 => ?_)
  · rw [if_neg hc4] at h
    refine g_bipush (pc := 20) (v := (-3 : Int32)) dX10_seen_20 rfl ?_
    cases h
    exact r_iret dX10_seen_22 rfl rfl rfl
  · rw [if_pos hc4] at h
    refine g_iload_n (pc := 10) dX10_seen_10 rfl rfl ?_
    refine g_iconst (pc := 11) (v := (0 : Int32)) dX10_seen_11 rfl ?_
    refine g_bipush (pc := 12) (v := (99 : Int32)) dX10_seen_12 rfl ?_
    obtain ⟨p6, hp5, h⟩ := Option.bind_eq_some_iff.mp h
    refine r_callS (pc := 14) (c_X10_isOutside hN i2 (0 : Int32) (99 : Int32) p2.2 hp5) yS_X10_isOutside pX10_isOutside mL_X10_83 dX10_seen_14 (Nat.le_of_ble_eq_true rfl) (Nat.le_of_ble_eq_true rfl) rfl (rK_z (fun hz7 => ?_))
    refine g_if_eq (pc := 17) 23 dX10_seen_17 (by decide) (fun hc8 => ?_) (fun hc8 => ?_)
    · rw [if_pos hc8] at h
      refine g_aload_n (pc := 23) dX10_seen_23 rfl rfl ?_
      refine gf_X10_121 (pc := 24) rfl dX10_seen_24 (Nat.lt_of_lt_of_le (by decide) hN) kd_0 ?_
      refine g_bipush (pc := 27) (v := (6 : Int32)) dX10_seen_27 rfl ?_
      refine g_icmp_lt (pc := 29) 35 dX10_seen_29 (by decide) (fun hc9 => ?_) (fun hc9 => ?_)
      · rw [if_pos hc9] at h
        refine g_aload_n (pc := 35) dX10_seen_35 rfl rfl ?_
        refine gf_X10_68 (pc := 36) rfl dX10_seen_36 (Nat.lt_of_lt_of_le (by decide) hN) kd_0 ?_
        refine g_aload_n (pc := 39) dX10_seen_39 rfl rfl ?_
        refine gf_X10_121 (pc := 40) rfl dX10_seen_40 (Nat.lt_of_lt_of_le (by decide) hN) kd_0 ?_
        refine g_iload_n (pc := 43) dX10_seen_43 rfl rfl ?_
        obtain ⟨hg12, h⟩ := gd_some h
        refine r_iast (pc := 44) 6 dX10_seen_44 (Nat.lt_of_lt_of_le (by decide) hN) kd_138 ln_138 hg12 (fun m10 e11 => ?_)
        rw [lt_of e11] at h
        refine g_aload_n (pc := 45) dX10_seen_45 rfl rfl ?_
        refine gf_X10_72 (pc := 46) rfl dX10_seen_46 (Nat.lt_of_lt_of_le (by decide) hN) kd_0 ?_
        refine g_aload_n (pc := 49) dX10_seen_49 rfl rfl ?_
        refine gf_X10_121 (pc := 50) rfl dX10_seen_50 (Nat.lt_of_lt_of_le (by decide) hN) kd_0 ?_
        refine g_iload_n (pc := 53) dX10_seen_53 rfl rfl ?_
        obtain ⟨hg15, h⟩ := gd_some h
        refine r_iast (pc := 54) 6 dX10_seen_54 (Nat.lt_of_lt_of_le (by decide) hN) kd_139 ln_139 hg15 (fun m13 e14 => ?_)
        rw [lt_of e14] at h
        refine g_aload_n (pc := 55) dX10_seen_55 rfl rfl ?_
        refine g_dup (pc := 56) dX10_seen_56 rfl ?_
        refine gf_X10_121 (pc := 57) rfl dX10_seen_57 (Nat.lt_of_lt_of_le (by decide) hN) kd_0 ?_
        refine g_iconst (pc := 60) (v := (1 : Int32)) dX10_seen_60 rfl ?_
        refine g_iadd (pc := 61) dX10_seen_61 ?_
        refine pf_X10_121 (pc := 62) rfl dX10_seen_62 (Nat.lt_of_lt_of_le (by decide) hN) kd_0 (fun m16 e17 => ?_)
        rw [lt_of e17] at h
        refine g_aload_n (pc := 65) dX10_seen_65 rfl rfl ?_
        refine gf_X10_121 (pc := 66) rfl dX10_seen_66 (Nat.lt_of_lt_of_le (by decide) hN) kd_0 ?_
        cases h
        exact r_iret dX10_seen_69 rfl rfl rfl
      · rw [if_neg hc9] at h
        refine g_bipush (pc := 32) (v := (-5 : Int32)) dX10_seen_32 rfl ?_
        cases h
        exact r_iret dX10_seen_34 rfl rfl rfl
    · rw [if_neg hc8] at h
      refine g_bipush (pc := 20) (v := (-3 : Int32)) dX10_seen_20 rfl ?_
      cases h
      exact r_iret dX10_seen_22 rfl rfl rfl

def l_X10_leaves_52 (i1 : Int32) (i2 : Int32) (i3 : Int32) (i4 : Int32) : Nat → Int32 → Int32 → Int32 → gMem → Option (Int32 × Int32 × Int32 × gMem)
  | 0, _, _, _, _ => none
  | n + 1, i5, i6, i7, μ =>
  if i1 < i7 then
  (some (i5, i6, i7, μ))
else
  (if i7 < i2 then
  (if (i7 + (1 : Int32)) = 0 then none else
  lt ((i6 * (i1 - i7)) / (i7 + (1 : Int32))) (fun x26 =>
  lt (i7 + Int32.ofInt 1) (fun x28 =>
  l_X10_leaves_52 i1 i2 i3 i4 n i5 x26 x28 μ)))
else
  ((f_X10_power i3 i7 μ).bind (fun p31 =>
  (f_X10_power ((10 : Int32) - i3) (i1 - i7) p31.2).bind (fun p33 =>
  lt (i5 + ((i6 * p31.1) * p33.1)) (fun x34 =>
  if (i7 + (1 : Int32)) = 0 then none else
  lt ((i6 * (i1 - i7)) / (i7 + (1 : Int32))) (fun x37 =>
  lt (i7 + Int32.ofInt 1) (fun x39 =>
  l_X10_leaves_52 i1 i2 i3 i4 n x34 x37 x39 p33.2)))))))
def f_X10_leaves (i1 : Int32) (i2 : Int32) (i3 : Int32) (i4 : Int32) (μ : gMem) : Option (Int32 × gMem) :=
  (f_X10_isOutside i1 (0 : Int32) (6 : Int32) μ).bind (fun p2 =>
  if p2.1 = 0 then
  ((f_X10_isOutside i2 (0 : Int32) (6 : Int32) p2.2).bind (fun p6 =>
  if p6.1 = 0 then
  ((f_X10_isOutside i3 (0 : Int32) (10 : Int32) p6.2).bind (fun p10 =>
  if p10.1 = 0 then
  ((f_X10_isOutside i4 (0 : Int32) (1 : Int32) p10.2).bind (fun p14 =>
  if p14.1 = 0 then
  ((l_X10_leaves_52 i1 i2 i3 i4 gF (0 : Int32) (1 : Int32) (0 : Int32) p14.2).bind (fun p41 =>
  (f_X10_power (10 : Int32) i1 p41.2.2.2).bind (fun p44 =>
  lt p44.1 (fun x45 =>
  (f_X10_commonDivisor p41.1 x45 p44.2).bind (fun p48 =>
  lt p48.1 (fun x49 =>
  if i4 = 0 then
  (if x49 = 0 then none else
  some ((p41.1 / x49), p48.2))
else
  (if x49 = 0 then none else
  some ((x45 / x49), p48.2))))))))
else
  (some ((-3 : Int32), p14.2))))
else
  (some ((-3 : Int32), p10.2))))
else
  (some ((-3 : Int32), p6.2))))
else
  (some ((-3 : Int32), p2.2)))
set_option maxRecDepth 100000 in
set_option maxHeartbeats 4000000 in
theorem cl_X10_leaves_52 {κ : Nat → Nat} {N : Nat} {Q : rQ} (hN : 140 ≤ N) (i1 : Int32) (i2 : Int32) (i3 : Int32) (i4 : Int32)  : ∀ (n : Nat) (i5 : Int32) (i6 : Int32) (i7 : Int32) (μ : gMem) (p : Int32 × Int32 × Int32 × gMem), l_X10_leaves_52 i1 i2 i3 i4 n i5 i6 i7 μ = some p → RR κ N 2 iX10_leaves 110 [(0, .ref (κ 0 + 0)), (1, .int i1), (2, .int i2), (3, .int i3), (4, .int i4), (5, .int p.1), (6, .int p.2.1), (7, .int p.2.2.1)] [] p.2.2.2 Q → RR κ N 2 iX10_leaves 52 [(0, .ref (κ 0 + 0)), (1, .int i1), (2, .int i2), (3, .int i3), (4, .int i4), (5, .int i5), (6, .int i6), (7, .int i7)] [] μ Q := by
  intro n
  induction n with
  | zero =>
    intro i5 i6 i7 μ p h k
    unfold l_X10_leaves_52 at h
    cases h
  | succ n ih =>
    intro i5 i6 i7 μ p h k
    unfold l_X10_leaves_52 at h
    refine g_iload (pc := 52) dX10_leaves_52 rfl ?_
    refine g_iload_n (pc := 54) dX10_leaves_54 rfl rfl ?_
    refine g_icmp_gt (pc := 55) 110 dX10_leaves_55 (by decide) (fun hc23 => ?_) (fun hc23 => ?_)
    · rw [if_pos hc23] at h
      cases h
      exact k
    · rw [if_neg hc23] at h
      refine g_iload (pc := 58) dX10_leaves_58 rfl ?_
      refine g_iload_n (pc := 60) dX10_leaves_60 rfl rfl ?_
      refine g_icmp_lt (pc := 61) 90 dX10_leaves_61 (by decide) (fun hc24 => ?_) (fun hc24 => ?_)
      · rw [if_pos hc24] at h
        refine g_iload (pc := 90) dX10_leaves_90 rfl ?_
        refine g_iload_n (pc := 92) dX10_leaves_92 rfl rfl ?_
        refine g_iload (pc := 93) dX10_leaves_93 rfl ?_
        refine g_isub (pc := 95) dX10_leaves_95 ?_
        refine g_imul (pc := 96) dX10_leaves_96 ?_
        refine g_iload (pc := 97) dX10_leaves_97 rfl ?_
        refine g_iconst (pc := 99) (v := (1 : Int32)) dX10_leaves_99 rfl ?_
        refine g_iadd (pc := 100) dX10_leaves_100 ?_
        obtain ⟨hg25, h⟩ := gd_some' h
        refine g_idiv (pc := 101) dX10_leaves_101 hg25 ?_
        refine g_istore (pc := 102) (lv' := fun y => [(0, .ref (κ 0 + 0)), (1, .int i1), (2, .int i2), (3, .int i3), (4, .int i4), (5, .int i5), (6, .int y), (7, .int i7)]) dX10_leaves_102 (Nat.le_of_ble_eq_true rfl) (fun _ => rfl) (fun x26 e27 => ?_)
        rw [lt_of e27] at h
        refine g_iinc (pc := 104) (lv' := fun y => [(0, .ref (κ 0 + 0)), (1, .int i1), (2, .int i2), (3, .int i3), (4, .int i4), (5, .int i5), (6, .int x26), (7, .int y)]) dX10_leaves_104 rfl (Nat.le_of_ble_eq_true rfl) (fun _ => rfl) (fun x28 e29 => ?_)
        rw [lt_of e29] at h
        refine g_goto (pc := 107) 52 dX10_leaves_107 (by decide) ?_
        refine g_lv (lv' := [(0, .ref (κ 0 + 0)), (1, .int i1), (2, .int i2), (3, .int i3), (4, .int i4), (5, .int i5), (6, .int x26), (7, .int x28)]) rfl ?_
        exact ih _ _ _ _ _ h k
      · rw [if_neg hc24] at h
        refine g_iload (pc := 64) dX10_leaves_64 rfl ?_
        refine g_iload (pc := 66) dX10_leaves_66 rfl ?_
        refine g_iload_n (pc := 68) dX10_leaves_68 rfl rfl ?_
        refine g_iload (pc := 69) dX10_leaves_69 rfl ?_
        obtain ⟨p31, hp30, h⟩ := Option.bind_eq_some_iff.mp h
        refine r_callS (pc := 71) (c_X10_power hN i3 i7 μ hp30) yS_X10_power pX10_power mL_X10_274 dX10_leaves_71 (Nat.le_of_ble_eq_true rfl) (Nat.le_of_ble_eq_true rfl) rfl (rK_i ?_)
        refine g_imul (pc := 74) dX10_leaves_74 ?_
        refine g_bipush (pc := 75) (v := (10 : Int32)) dX10_leaves_75 rfl ?_
        refine g_iload_n (pc := 77) dX10_leaves_77 rfl rfl ?_
        refine g_isub (pc := 78) dX10_leaves_78 ?_
        refine g_iload_n (pc := 79) dX10_leaves_79 rfl rfl ?_
        refine g_iload (pc := 80) dX10_leaves_80 rfl ?_
        refine g_isub (pc := 82) dX10_leaves_82 ?_
        obtain ⟨p33, hp32, h⟩ := Option.bind_eq_some_iff.mp h
        refine r_callS (pc := 83) (c_X10_power hN ((10 : Int32) - i3) (i1 - i7) p31.2 hp32) yS_X10_power pX10_power mL_X10_274 dX10_leaves_83 (Nat.le_of_ble_eq_true rfl) (Nat.le_of_ble_eq_true rfl) rfl (rK_i ?_)
        refine g_imul (pc := 86) dX10_leaves_86 ?_
        refine g_iadd (pc := 87) dX10_leaves_87 ?_
        refine g_istore (pc := 88) (lv' := fun y => [(0, .ref (κ 0 + 0)), (1, .int i1), (2, .int i2), (3, .int i3), (4, .int i4), (5, .int y), (6, .int i6), (7, .int i7)]) dX10_leaves_88 (Nat.le_of_ble_eq_true rfl) (fun _ => rfl) (fun x34 e35 => ?_)
        rw [lt_of e35] at h
        refine g_iload (pc := 90) dX10_leaves_90 rfl ?_
        refine g_iload_n (pc := 92) dX10_leaves_92 rfl rfl ?_
        refine g_iload (pc := 93) dX10_leaves_93 rfl ?_
        refine g_isub (pc := 95) dX10_leaves_95 ?_
        refine g_imul (pc := 96) dX10_leaves_96 ?_
        refine g_iload (pc := 97) dX10_leaves_97 rfl ?_
        refine g_iconst (pc := 99) (v := (1 : Int32)) dX10_leaves_99 rfl ?_
        refine g_iadd (pc := 100) dX10_leaves_100 ?_
        obtain ⟨hg36, h⟩ := gd_some' h
        refine g_idiv (pc := 101) dX10_leaves_101 hg36 ?_
        refine g_istore (pc := 102) (lv' := fun y => [(0, .ref (κ 0 + 0)), (1, .int i1), (2, .int i2), (3, .int i3), (4, .int i4), (5, .int x34), (6, .int y), (7, .int i7)]) dX10_leaves_102 (Nat.le_of_ble_eq_true rfl) (fun _ => rfl) (fun x37 e38 => ?_)
        rw [lt_of e38] at h
        refine g_iinc (pc := 104) (lv' := fun y => [(0, .ref (κ 0 + 0)), (1, .int i1), (2, .int i2), (3, .int i3), (4, .int i4), (5, .int x34), (6, .int x37), (7, .int y)]) dX10_leaves_104 rfl (Nat.le_of_ble_eq_true rfl) (fun _ => rfl) (fun x39 e40 => ?_)
        rw [lt_of e40] at h
        refine g_goto (pc := 107) 52 dX10_leaves_107 (by decide) ?_
        refine g_lv (lv' := [(0, .ref (κ 0 + 0)), (1, .int i1), (2, .int i2), (3, .int i3), (4, .int i4), (5, .int x34), (6, .int x37), (7, .int x39)]) rfl ?_
        exact ih _ _ _ _ _ h k
set_option maxRecDepth 100000 in
set_option maxHeartbeats 4000000 in
theorem c_X10_leaves {κ : Nat → Nat} {N : Nat} (hN : 140 ≤ N) (i1 : Int32) (i2 : Int32) (i3 : Int32) (i4 : Int32)  (μ : gMem) {r : Int32} {μ' : gMem} (h : f_X10_leaves i1 i2 i3 i4 μ = some (r, μ')) : CT2 κ N 2 yX10_leaves iX10_leaves [.ref (κ 0 + 0), .int i1, .int i2, .int i3, .int i4] μ (qI r μ') := by
  refine CT2.of (by decide) rfl rfl (Nat.le_of_ble_eq_true rfl) ?_
  unfold f_X10_leaves at h
  show RR κ N 2 iX10_leaves 0 [(0, .ref (κ 0 + 0)), (1, .int i1), (2, .int i2), (3, .int i3), (4, .int i4)] [] μ _
  refine g_iload_n (pc := 0) dX10_leaves_0 rfl rfl ?_
  refine g_iconst (pc := 1) (v := (0 : Int32)) dX10_leaves_1 rfl ?_
  refine g_bipush (pc := 2) (v := (6 : Int32)) dX10_leaves_2 rfl ?_
  obtain ⟨p2, hp1, h⟩ := Option.bind_eq_some_iff.mp h
  refine r_callS (pc := 4) (c_X10_isOutside hN i1 (0 : Int32) (6 : Int32) μ hp1) yS_X10_isOutside pX10_isOutside mL_X10_83 dX10_leaves_4 (Nat.le_of_ble_eq_true rfl) (Nat.le_of_ble_eq_true rfl) rfl (rK_z (fun hz3 => ?_))
  refine g_if_ne (pc := 7) 40 dX10_leaves_7 (by decide) (fun hc4 => ?_) (fun hc4 => ?_)
  · rw [if_neg hc4] at h
    refine g_bipush (pc := 40) (v := (-3 : Int32)) dX10_leaves_40 rfl ?_
    cases h
    exact r_iret dX10_leaves_42 rfl rfl rfl
  · rw [if_pos hc4] at h
    refine g_iload_n (pc := 10) dX10_leaves_10 rfl rfl ?_
    refine g_iconst (pc := 11) (v := (0 : Int32)) dX10_leaves_11 rfl ?_
    refine g_bipush (pc := 12) (v := (6 : Int32)) dX10_leaves_12 rfl ?_
    obtain ⟨p6, hp5, h⟩ := Option.bind_eq_some_iff.mp h
    refine r_callS (pc := 14) (c_X10_isOutside hN i2 (0 : Int32) (6 : Int32) p2.2 hp5) yS_X10_isOutside pX10_isOutside mL_X10_83 dX10_leaves_14 (Nat.le_of_ble_eq_true rfl) (Nat.le_of_ble_eq_true rfl) rfl (rK_z (fun hz7 => ?_))
    refine g_if_ne (pc := 17) 40 dX10_leaves_17 (by decide) (fun hc8 => ?_) (fun hc8 => ?_)
    · rw [if_neg hc8] at h
      refine g_bipush (pc := 40) (v := (-3 : Int32)) dX10_leaves_40 rfl ?_
      cases h
      exact r_iret dX10_leaves_42 rfl rfl rfl
    · rw [if_pos hc8] at h
      refine g_iload_n (pc := 20) dX10_leaves_20 rfl rfl ?_
      refine g_iconst (pc := 21) (v := (0 : Int32)) dX10_leaves_21 rfl ?_
      refine g_bipush (pc := 22) (v := (10 : Int32)) dX10_leaves_22 rfl ?_
      obtain ⟨p10, hp9, h⟩ := Option.bind_eq_some_iff.mp h
      refine r_callS (pc := 24) (c_X10_isOutside hN i3 (0 : Int32) (10 : Int32) p6.2 hp9) yS_X10_isOutside pX10_isOutside mL_X10_83 dX10_leaves_24 (Nat.le_of_ble_eq_true rfl) (Nat.le_of_ble_eq_true rfl) rfl (rK_z (fun hz11 => ?_))
      refine g_if_ne (pc := 27) 40 dX10_leaves_27 (by decide) (fun hc12 => ?_) (fun hc12 => ?_)
      · rw [if_neg hc12] at h
        refine g_bipush (pc := 40) (v := (-3 : Int32)) dX10_leaves_40 rfl ?_
        cases h
        exact r_iret dX10_leaves_42 rfl rfl rfl
      · rw [if_pos hc12] at h
        refine g_iload (pc := 30) dX10_leaves_30 rfl ?_
        refine g_iconst (pc := 32) (v := (0 : Int32)) dX10_leaves_32 rfl ?_
        refine g_iconst (pc := 33) (v := (1 : Int32)) dX10_leaves_33 rfl ?_
        obtain ⟨p14, hp13, h⟩ := Option.bind_eq_some_iff.mp h
        refine r_callS (pc := 34) (c_X10_isOutside hN i4 (0 : Int32) (1 : Int32) p10.2 hp13) yS_X10_isOutside pX10_isOutside mL_X10_83 dX10_leaves_34 (Nat.le_of_ble_eq_true rfl) (Nat.le_of_ble_eq_true rfl) rfl (rK_z (fun hz15 => ?_))
        refine g_if_eq (pc := 37) 43 dX10_leaves_37 (by decide) (fun hc16 => ?_) (fun hc16 => ?_)
        · rw [if_pos hc16] at h
          refine g_iconst (pc := 43) (v := (0 : Int32)) dX10_leaves_43 rfl ?_
          refine g_istore (pc := 44) (lv' := fun y => [(0, .ref (κ 0 + 0)), (1, .int i1), (2, .int i2), (3, .int i3), (4, .int i4), (5, .int y)]) dX10_leaves_44 (Nat.le_of_ble_eq_true rfl) (fun _ => rfl) (fun y17 e18 => ?_)
          rw [e18]
          refine g_iconst (pc := 46) (v := (1 : Int32)) dX10_leaves_46 rfl ?_
          refine g_istore (pc := 47) (lv' := fun y => [(0, .ref (κ 0 + 0)), (1, .int i1), (2, .int i2), (3, .int i3), (4, .int i4), (5, .int (0 : Int32)), (6, .int y)]) dX10_leaves_47 (Nat.le_of_ble_eq_true rfl) (fun _ => rfl) (fun y19 e20 => ?_)
          rw [e20]
          refine g_iconst (pc := 49) (v := (0 : Int32)) dX10_leaves_49 rfl ?_
          refine g_istore (pc := 50) (lv' := fun y => [(0, .ref (κ 0 + 0)), (1, .int i1), (2, .int i2), (3, .int i3), (4, .int i4), (5, .int (0 : Int32)), (6, .int (1 : Int32)), (7, .int y)]) dX10_leaves_50 (Nat.le_of_ble_eq_true rfl) (fun _ => rfl) (fun y21 e22 => ?_)
          rw [e22]
          obtain ⟨p41, hp42, h⟩ := Option.bind_eq_some_iff.mp h
          refine cl_X10_leaves_52 hN i1 i2 i3 i4  gF (0 : Int32) (1 : Int32) (0 : Int32) _ _ hp42 ?_
          refine g_bipush (pc := 110) (v := (10 : Int32)) dX10_leaves_110 rfl ?_
          refine g_iload_n (pc := 112) dX10_leaves_112 rfl rfl ?_
          obtain ⟨p44, hp43, h⟩ := Option.bind_eq_some_iff.mp h
          refine r_callS (pc := 113) (c_X10_power hN (10 : Int32) i1 p41.2.2.2 hp43) yS_X10_power pX10_power mL_X10_274 dX10_leaves_113 (Nat.le_of_ble_eq_true rfl) (Nat.le_of_ble_eq_true rfl) rfl (rK_i ?_)
          refine g_istore (pc := 116) (lv' := fun y => [(0, .ref (κ 0 + 0)), (1, .int i1), (2, .int i2), (3, .int i3), (4, .int i4), (5, .int p41.1), (6, .int p41.2.1), (7, .int y)]) dX10_leaves_116 (Nat.le_of_ble_eq_true rfl) (fun _ => rfl) (fun x45 e46 => ?_)
          rw [lt_of e46] at h
          refine g_iload (pc := 118) dX10_leaves_118 rfl ?_
          refine g_iload (pc := 120) dX10_leaves_120 rfl ?_
          obtain ⟨p48, hp47, h⟩ := Option.bind_eq_some_iff.mp h
          refine r_callS (pc := 122) (c_X10_commonDivisor hN p41.1 x45 p44.2 hp47) yS_X10_commonDivisor pX10_commonDivisor mL_X10_277 dX10_leaves_122 (Nat.le_of_ble_eq_true rfl) (Nat.le_of_ble_eq_true rfl) rfl (rK_i ?_)
          refine g_istore (pc := 125) (lv' := fun y => [(0, .ref (κ 0 + 0)), (1, .int i1), (2, .int i2), (3, .int i3), (4, .int i4), (5, .int p41.1), (6, .int p41.2.1), (7, .int x45), (8, .int y)]) dX10_leaves_125 (Nat.le_of_ble_eq_true rfl) (fun _ => rfl) (fun x49 e50 => ?_)
          rw [lt_of e50] at h
          refine g_iload (pc := 127) dX10_leaves_127 rfl ?_
          refine g_if_ne (pc := 129) 140 dX10_leaves_129 (by decide) (fun hc51 => ?_) (fun hc51 => ?_)
          · rw [if_neg hc51] at h
            refine g_iload (pc := 140) dX10_leaves_140 rfl ?_
            refine g_iload (pc := 142) dX10_leaves_142 rfl ?_
            obtain ⟨hg52, h⟩ := gd_some' h
            refine g_idiv (pc := 144) dX10_leaves_144 hg52 ?_
            cases h
            exact r_iret dX10_leaves_145 rfl rfl rfl
          · rw [if_pos hc51] at h
            refine g_iload (pc := 132) dX10_leaves_132 rfl ?_
            refine g_iload (pc := 134) dX10_leaves_134 rfl ?_
            obtain ⟨hg53, h⟩ := gd_some' h
            refine g_idiv (pc := 136) dX10_leaves_136 hg53 ?_
            refine g_goto (pc := 137) 145 dX10_leaves_137 (by decide) ?_
            cases h
            exact r_iret dX10_leaves_145 rfl rfl rfl
        · rw [if_neg hc16] at h
          refine g_bipush (pc := 40) (v := (-3 : Int32)) dX10_leaves_40 rfl ?_
          cases h
          exact r_iret dX10_leaves_42 rfl rfl rfl

def l_X0_readClause_32 (j2 : Nat) : Nat → Int32 → Int32 → Int32 → gMem → Option (Int32 × gMem)
  | 0, _, _, _, _ => none
  | n + 1, i3, i4, i5, μ =>
  (f_X9_numbers j2 μ).bind (fun p19 =>
  if p19.1 ≤ i5 then
  (if inb (p19.2 10 5) 14 = true then
  lt (st p19.2 12 (p19.2 10 5).toNatClampNeg (gDeed.getD j2 0)) (fun m21 =>
  if inb (m21 10 5) 14 = true then
  lt (st m21 13 (m21 10 5).toNatClampNeg (gKind.getD j2 0)) (fun m24 =>
  if inb (m24 10 5) 14 = true then
  lt (st m24 14 (m24 10 5).toNatClampNeg i3) (fun m27 =>
  if inb (m27 10 5) 14 = true then
  lt (st m27 15 (m27 10 5).toNatClampNeg i4) (fun m30 =>
  some ((1 : Int32), m30)) else none) else none) else none) else none)
else
  ((f_X3_readToken  p19.2).bind (fun m34 =>
  (f_X3_number  m34).bind (fun p36 =>
  lt p36.1 (fun x37 =>
  (f_X9_leastNumber j2 i5 i3 p36.2).bind (fun p40 =>
  (f_X9_mostNumber j2 i5 p40.2).bind (fun p42 =>
  (f_X10_isOutside x37 p40.1 p42.1 p42.2).bind (fun p44 =>
  if p44.1 = 0 then
  (if i5 = 0 then
  (lt (i5 + Int32.ofInt 1) (fun x54 =>
  l_X0_readClause_32 j2 n x37 i4 x54 p44.2))
else
  (lt (i5 + Int32.ofInt 1) (fun x50 =>
  l_X0_readClause_32 j2 n i3 x37 x50 p44.2)))
else
  (some ((0 : Int32), p44.2))))))))))
def f_X0_readClause  (μ : gMem) : Option (Int32 × gMem) :=
  (f_X3_readToken  μ).bind (fun m2 =>
  (f_X0_findWord  m2).bind (fun p4 =>
  Option.casesOn p4.1 (some ((0 : Int32), p4.2)) (fun j5 =>
  (f_X0_countSisters j5 p4.2).bind (fun p9 =>
  if p9.1 = 0 then
  (some ((0 : Int32), p9.2))
else
  (l_X0_readClause_32 j5 gF (0 : Int32) (0 : Int32) (0 : Int32) p9.2)))))
set_option maxRecDepth 100000 in
set_option maxHeartbeats 4000000 in
theorem cl_X0_readClause_32 {κ : Nat → Nat} {N : Nat} {r : Int32} {μ' : gMem} (hN : 140 ≤ N) (j2 : Nat) (hj2 : j2 < 12) : ∀ (n : Nat) (i3 : Int32) (i4 : Int32) (i5 : Int32) (μ : gMem), l_X0_readClause_32 j2 n i3 i4 i5 μ = some (r, μ') → RR κ N 7 iX0_readClause 32 [(0, .ref (κ 0 + 10)), (1, .ref (κ 0 + 8)), (2, .ref (κ (40 + j2))), (3, .int i3), (4, .int i4), (5, .int i5)] [] μ (qZ r μ') := by
  intro n
  induction n with
  | zero =>
    intro i3 i4 i5 μ h
    unfold l_X0_readClause_32 at h
    cases h
  | succ n ih =>
    intro i3 i4 i5 μ h
    unfold l_X0_readClause_32 at h
    refine g_iload (pc := 32) dX0_readClause_32 rfl ?_
    refine g_aload_n (pc := 34) dX0_readClause_34 rfl rfl ?_
    obtain ⟨p19, hp18, h⟩ := Option.bind_eq_some_iff.mp h
    refine r_callVT (pc := 35) (c_X9_numbers hN j2 hj2 μ hp18) yV_X9_numbers (fun _ _ z => gRcW z hj2) pX9_numbers mL_X0_71 dX0_readClause_35 (Nat.le_of_ble_eq_true rfl) (Nat.le_of_ble_eq_true rfl) rfl (rK_i ?_)
    refine g_icmp_ge (pc := 38) 95 dX0_readClause_38 (by decide) (fun hc20 => ?_) (fun hc20 => ?_)
    · rw [if_pos hc20] at h
      refine g_aload_n (pc := 95) dX0_readClause_95 rfl rfl ?_
      refine gf_X0_21 (pc := 96) rfl dX0_readClause_96 (Nat.lt_of_lt_of_le (by decide) hN) kd_10 ?_
      refine g_aload_n (pc := 99) dX0_readClause_99 rfl rfl ?_
      refine gf_X0_38 (pc := 100) rfl dX0_readClause_100 (Nat.lt_of_lt_of_le (by decide) hN) kd_10 ?_
      refine g_aload_n (pc := 103) dX0_readClause_103 rfl rfl ?_
      refine g_getO (pc := 104) dX0_readClause_104 (fun _ _ z => (z.2.2.2.1 _ hj2).2.2.1) wF_X0_90 ?_
      obtain ⟨hg23, h⟩ := gd_some h
      refine r_iast (pc := 107) 14 dX0_readClause_107 (Nat.lt_of_lt_of_le (by decide) hN) kd_12 ln_12 hg23 (fun m21 e22 => ?_)
      rw [lt_of e22] at h
      refine g_aload_n (pc := 108) dX0_readClause_108 rfl rfl ?_
      refine gf_X0_25 (pc := 109) rfl dX0_readClause_109 (Nat.lt_of_lt_of_le (by decide) hN) kd_10 ?_
      refine g_aload_n (pc := 112) dX0_readClause_112 rfl rfl ?_
      refine gf_X0_38 (pc := 113) rfl dX0_readClause_113 (Nat.lt_of_lt_of_le (by decide) hN) kd_10 ?_
      refine g_aload_n (pc := 116) dX0_readClause_116 rfl rfl ?_
      refine g_getO (pc := 117) dX0_readClause_117 (fun _ _ z => (z.2.2.2.1 _ hj2).2.2.2) wF_X0_93 ?_
      obtain ⟨hg26, h⟩ := gd_some h
      refine r_iast (pc := 120) 14 dX0_readClause_120 (Nat.lt_of_lt_of_le (by decide) hN) kd_13 ln_13 hg26 (fun m24 e25 => ?_)
      rw [lt_of e25] at h
      refine g_aload_n (pc := 121) dX0_readClause_121 rfl rfl ?_
      refine gf_X0_28 (pc := 122) rfl dX0_readClause_122 (Nat.lt_of_lt_of_le (by decide) hN) kd_10 ?_
      refine g_aload_n (pc := 125) dX0_readClause_125 rfl rfl ?_
      refine gf_X0_38 (pc := 126) rfl dX0_readClause_126 (Nat.lt_of_lt_of_le (by decide) hN) kd_10 ?_
      refine g_iload_n (pc := 129) dX0_readClause_129 rfl rfl ?_
      obtain ⟨hg29, h⟩ := gd_some h
      refine r_iast (pc := 130) 14 dX0_readClause_130 (Nat.lt_of_lt_of_le (by decide) hN) kd_14 ln_14 hg29 (fun m27 e28 => ?_)
      rw [lt_of e28] at h
      refine g_aload_n (pc := 131) dX0_readClause_131 rfl rfl ?_
      refine gf_X0_31 (pc := 132) rfl dX0_readClause_132 (Nat.lt_of_lt_of_le (by decide) hN) kd_10 ?_
      refine g_aload_n (pc := 135) dX0_readClause_135 rfl rfl ?_
      refine gf_X0_38 (pc := 136) rfl dX0_readClause_136 (Nat.lt_of_lt_of_le (by decide) hN) kd_10 ?_
      refine g_iload (pc := 139) dX0_readClause_139 rfl ?_
      obtain ⟨hg32, h⟩ := gd_some h
      refine r_iast (pc := 141) 14 dX0_readClause_141 (Nat.lt_of_lt_of_le (by decide) hN) kd_15 ln_15 hg32 (fun m30 e31 => ?_)
      rw [lt_of e31] at h
      refine g_iconst (pc := 142) (v := (1 : Int32)) dX0_readClause_142 rfl ?_
      cases h
      exact r_zret dX0_readClause_143 rfl rfl rfl rfl
    · rw [if_neg hc20] at h
      refine g_aload_n (pc := 41) dX0_readClause_41 rfl rfl ?_
      obtain ⟨m34, hp33, h⟩ := Option.bind_eq_some_iff.mp h
      refine r_callV (ci := 3) (pc := 42) (c_X3_readToken hN  p19.2 hp33) yV_X3_readToken ⟨rfl, by decide⟩ pX3_readToken mL_X0_53 dX0_readClause_42 (Nat.le_of_ble_eq_true rfl) (Nat.le_of_ble_eq_true rfl) (Nat.lt_of_lt_of_le (by decide) hN) kd_8 rfl (rK_v ?_)
      refine g_aload_n (pc := 45) dX0_readClause_45 rfl rfl ?_
      obtain ⟨p36, hp35, h⟩ := Option.bind_eq_some_iff.mp h
      refine r_callV (ci := 3) (pc := 46) (c_X3_number hN  m34 hp35) yV_X3_number ⟨rfl, by decide⟩ pX3_number mL_X0_75 dX0_readClause_46 (Nat.le_of_ble_eq_true rfl) (Nat.le_of_ble_eq_true rfl) (Nat.lt_of_lt_of_le (by decide) hN) kd_8 rfl (rK_i ?_)
      refine g_istore (pc := 49) (lv' := fun y => [(0, .ref (κ 0 + 10)), (1, .ref (κ 0 + 8)), (2, .ref (κ (40 + j2))), (3, .int i3), (4, .int i4), (5, .int i5), (6, .int y)]) dX0_readClause_49 (Nat.le_of_ble_eq_true rfl) (fun _ => rfl) (fun x37 e38 => ?_)
      rw [lt_of e38] at h
      refine g_iload (pc := 51) dX0_readClause_51 rfl ?_
      refine g_aload_n (pc := 53) dX0_readClause_53 rfl rfl ?_
      refine g_iload (pc := 54) dX0_readClause_54 rfl ?_
      refine g_iload_n (pc := 56) dX0_readClause_56 rfl rfl ?_
      obtain ⟨p40, hp39, h⟩ := Option.bind_eq_some_iff.mp h
      refine r_callVT (pc := 57) (c_X9_leastNumber hN j2 i5 i3 hj2 p36.2 hp39) yV_X9_leastNumber (fun _ _ z => gRcW z hj2) pX9_leastNumber mL_X0_78 dX0_readClause_57 (Nat.le_of_ble_eq_true rfl) (Nat.le_of_ble_eq_true rfl) rfl (rK_i ?_)
      refine g_aload_n (pc := 60) dX0_readClause_60 rfl rfl ?_
      refine g_iload (pc := 61) dX0_readClause_61 rfl ?_
      obtain ⟨p42, hp41, h⟩ := Option.bind_eq_some_iff.mp h
      refine r_callVT (pc := 63) (c_X9_mostNumber hN j2 i5 hj2 p40.2 hp41) yV_X9_mostNumber (fun _ _ z => gRcW z hj2) pX9_mostNumber mL_X0_82 dX0_readClause_63 (Nat.le_of_ble_eq_true rfl) (Nat.le_of_ble_eq_true rfl) rfl (rK_i ?_)
      obtain ⟨p44, hp43, h⟩ := Option.bind_eq_some_iff.mp h
      refine r_callSN (pc := 66) (c_X10_isOutside hN x37 p40.1 p42.1 p42.2 hp43) yS_X10_isOutside pX10_isOutside (fun _ z => z.2.1.1) dX0_readClause_66 (Nat.le_of_ble_eq_true rfl) (Nat.le_of_ble_eq_true rfl) rfl (rK_z (fun hz45 => ?_))
      refine g_if_eq (pc := 69) 74 dX0_readClause_69 (by decide) (fun hc46 => ?_) (fun hc46 => ?_)
      · rw [if_pos hc46] at h
        refine g_iload (pc := 74) dX0_readClause_74 rfl ?_
        refine g_if_ne (pc := 76) 85 dX0_readClause_76 (by decide) (fun hc47 => ?_) (fun hc47 => ?_)
        · rw [if_neg hc47] at h
          refine g_iload (pc := 85) dX0_readClause_85 rfl ?_
          refine g_istore (pc := 87) (lv' := fun y => [(0, .ref (κ 0 + 10)), (1, .ref (κ 0 + 8)), (2, .ref (κ (40 + j2))), (3, .int i3), (4, .int y), (5, .int i5), (6, .int x37)]) dX0_readClause_87 (Nat.le_of_ble_eq_true rfl) (fun _ => rfl) (fun y48 e49 => ?_)
          rw [e49]
          refine g_iinc (pc := 89) (lv' := fun y => [(0, .ref (κ 0 + 10)), (1, .ref (κ 0 + 8)), (2, .ref (κ (40 + j2))), (3, .int i3), (4, .int x37), (5, .int y), (6, .int x37)]) dX0_readClause_89 rfl (Nat.le_of_ble_eq_true rfl) (fun _ => rfl) (fun x50 e51 => ?_)
          rw [lt_of e51] at h
          refine g_goto (pc := 92) 32 dX0_readClause_92 (by decide) ?_
          refine g_lv (lv' := [(0, .ref (κ 0 + 10)), (1, .ref (κ 0 + 8)), (2, .ref (κ (40 + j2))), (3, .int i3), (4, .int x37), (5, .int x50)]) rfl ?_
          exact ih _ _ _ _ h
        · rw [if_pos hc47] at h
          refine g_iload (pc := 79) dX0_readClause_79 rfl ?_
          refine g_istore_n (pc := 81) (lv' := fun y => [(0, .ref (κ 0 + 10)), (1, .ref (κ 0 + 8)), (2, .ref (κ (40 + j2))), (3, .int y), (4, .int i4), (5, .int i5), (6, .int x37)]) dX0_readClause_81 rfl (Nat.le_of_ble_eq_true rfl) (fun _ => rfl) (fun y52 e53 => ?_)
          rw [e53]
          refine g_goto (pc := 82) 89 dX0_readClause_82 (by decide) ?_
          refine g_iinc (pc := 89) (lv' := fun y => [(0, .ref (κ 0 + 10)), (1, .ref (κ 0 + 8)), (2, .ref (κ (40 + j2))), (3, .int x37), (4, .int i4), (5, .int y), (6, .int x37)]) dX0_readClause_89 rfl (Nat.le_of_ble_eq_true rfl) (fun _ => rfl) (fun x54 e55 => ?_)
          rw [lt_of e55] at h
          refine g_goto (pc := 92) 32 dX0_readClause_92 (by decide) ?_
          refine g_lv (lv' := [(0, .ref (κ 0 + 10)), (1, .ref (κ 0 + 8)), (2, .ref (κ (40 + j2))), (3, .int x37), (4, .int i4), (5, .int x54)]) rfl ?_
          exact ih _ _ _ _ h
      · rw [if_neg hc46] at h
        refine g_iconst (pc := 72) (v := (0 : Int32)) dX0_readClause_72 rfl ?_
        cases h
        exact r_zret dX0_readClause_73 rfl rfl rfl rfl
set_option maxRecDepth 100000 in
set_option maxHeartbeats 4000000 in
theorem c_X0_readClause {κ : Nat → Nat} {N : Nat} (hN : 140 ≤ N)   (μ : gMem) {r : Int32} {μ' : gMem} (h : f_X0_readClause  μ = some (r, μ')) : CT2 κ N 7 yX0_readClause iX0_readClause [.ref (κ 0 + 10), .ref (κ 0 + 8)] μ (qZ r μ') := by
  refine CT2.of (by decide) rfl rfl (Nat.le_of_ble_eq_true rfl) ?_
  unfold f_X0_readClause at h
  show RR κ N 7 iX0_readClause 0 [(0, .ref (κ 0 + 10)), (1, .ref (κ 0 + 8))] [] μ _
  refine g_aload_n (pc := 0) dX0_readClause_0 rfl rfl ?_
  obtain ⟨m2, hp1, h⟩ := Option.bind_eq_some_iff.mp h
  refine r_callV (ci := 3) (pc := 1) (c_X3_readToken hN  μ hp1) yV_X3_readToken ⟨rfl, by decide⟩ pX3_readToken mL_X0_53 dX0_readClause_1 (Nat.le_of_ble_eq_true rfl) (Nat.le_of_ble_eq_true rfl) (Nat.lt_of_lt_of_le (by decide) hN) kd_8 rfl (rK_v ?_)
  refine g_aload_n (pc := 4) dX0_readClause_4 rfl rfl ?_
  refine g_aload_n (pc := 5) dX0_readClause_5 rfl rfl ?_
  obtain ⟨p4, hp3, h⟩ := Option.bind_eq_some_iff.mp h
  refine r_callV (ci := 0) (pc := 6) (c_X0_findWord hN  m2 hp3) yV_X0_findWord ⟨rfl, by decide⟩ pX0_findWord mL_X0_63 dX0_readClause_6 (Nat.le_of_ble_eq_true rfl) (Nat.le_of_ble_eq_true rfl) (Nat.lt_of_lt_of_le (by decide) hN) kd_10 rfl (fun v m hq => ?_)
  obtain ⟨rfl, rfl, hj6⟩ := hq
  obtain ⟨o56, m57⟩ := p4
  cases o56 with
  | none =>
    show RR κ N 7 iX0_readClause 9 [(0, .ref (κ 0 + 10)), (1, .ref (κ 0 + 8))] [.null] m57 _
    simp only at h
    refine g_astore_nN (pc := 9) (lv' := [(0, .ref (κ 0 + 10)), (1, .ref (κ 0 + 8)), (2, .null)]) dX0_readClause_9 rfl (Nat.le_of_ble_eq_true rfl) rfl ?_
    refine g_aload_nN (pc := 10) dX0_readClause_10 rfl rfl ?_
    refine g_ifnullN (pc := 11) 22 dX0_readClause_11 (by decide) ?_
    refine g_iconst (pc := 22) (v := (0 : Int32)) dX0_readClause_22 rfl ?_
    cases h
    exact r_zret dX0_readClause_23 rfl rfl rfl rfl
  | some j5 =>
    show RR κ N 7 iX0_readClause 9 [(0, .ref (κ 0 + 10)), (1, .ref (κ 0 + 8))] [.ref (κ (40 + j5))] m57 _
    simp only at h
    refine g_astore_n (pc := 9) (lv' := fun y => [(0, .ref (κ 0 + 10)), (1, .ref (κ 0 + 8)), (2, .ref y)]) dX0_readClause_9 rfl (Nat.le_of_ble_eq_true rfl) (fun _ => rfl) (fun y58 e59 => ?_)
    rw [e59]
    refine g_aload_n (pc := 10) dX0_readClause_10 rfl rfl ?_
    refine g_ifnull (pc := 11) dX0_readClause_11 ?_
    refine g_aload_n (pc := 14) dX0_readClause_14 rfl rfl ?_
    refine g_aload_n (pc := 15) dX0_readClause_15 rfl rfl ?_
    obtain ⟨p9, hp8, h⟩ := Option.bind_eq_some_iff.mp h
    refine r_callV (ci := 0) (pc := 16) (c_X0_countSisters hN j5 (hj6 _ rfl) m57 hp8) yV_X0_countSisters ⟨rfl, by decide⟩ pX0_countSisters mL_X0_67 dX0_readClause_16 (Nat.le_of_ble_eq_true rfl) (Nat.le_of_ble_eq_true rfl) (Nat.lt_of_lt_of_le (by decide) hN) kd_10 rfl (rK_z (fun hz10 => ?_))
    refine g_if_ne (pc := 19) 24 dX0_readClause_19 (by decide) (fun hc11 => ?_) (fun hc11 => ?_)
    · rw [if_neg hc11] at h
      refine g_iconst (pc := 24) (v := (0 : Int32)) dX0_readClause_24 rfl ?_
      refine g_istore_n (pc := 25) (lv' := fun y => [(0, .ref (κ 0 + 10)), (1, .ref (κ 0 + 8)), (2, .ref (κ (40 + j5))), (3, .int y)]) dX0_readClause_25 rfl (Nat.le_of_ble_eq_true rfl) (fun _ => rfl) (fun y12 e13 => ?_)
      rw [e13]
      refine g_iconst (pc := 26) (v := (0 : Int32)) dX0_readClause_26 rfl ?_
      refine g_istore (pc := 27) (lv' := fun y => [(0, .ref (κ 0 + 10)), (1, .ref (κ 0 + 8)), (2, .ref (κ (40 + j5))), (3, .int (0 : Int32)), (4, .int y)]) dX0_readClause_27 (Nat.le_of_ble_eq_true rfl) (fun _ => rfl) (fun y14 e15 => ?_)
      rw [e15]
      refine g_iconst (pc := 29) (v := (0 : Int32)) dX0_readClause_29 rfl ?_
      refine g_istore (pc := 30) (lv' := fun y => [(0, .ref (κ 0 + 10)), (1, .ref (κ 0 + 8)), (2, .ref (κ (40 + j5))), (3, .int (0 : Int32)), (4, .int (0 : Int32)), (5, .int y)]) dX0_readClause_30 (Nat.le_of_ble_eq_true rfl) (fun _ => rfl) (fun y16 e17 => ?_)
      rw [e17]
      exact cl_X0_readClause_32 hN j5 (hj6 _ rfl) gF (0 : Int32) (0 : Int32) (0 : Int32) _ h
    · rw [if_pos hc11] at h
      refine g_iconst (pc := 22) (v := (0 : Int32)) dX0_readClause_22 rfl ?_
      cases h
      exact r_zret dX0_readClause_23 rfl rfl rfl rfl

def l_X1_fill_28 (a1 : Nat) (i2 : Int32) (i3 : Int32) (a4 : Nat) : Nat → Int32 → gMem → Option (Int32 × gMem)
  | 0, _, _ => none
  | n + 1, i5, μ =>
  if (μ 106 9) ≤ i5 then
  (some (i5, μ))
else
  (if i5 = i3 then
  (if (μ 136 0) = 0 then
  (if inb i2 5 = true then
  (f_X8_draw 136 (2 + 1 + i2.toNatClampNeg) μ).bind (fun m36 =>
  (f_X7_isFrost ((m36 a1 0) + i5) m36).bind (fun p38 =>
  (f_X8_passMinute 136 (2 + 1 + i2.toNatClampNeg) p38.1 p38.2).bind (fun p41 =>
  if inb i5 40 = true then
  lt (st p41.2 a4 i5.toNatClampNeg p41.1) (fun m42 =>
  lt (i5 + Int32.ofInt 1) (fun x45 =>
  l_X1_fill_28 a1 i2 i3 a4 n x45 m42)) else none))) else none)
else
  (if inb i2 5 = true then
  (f_X7_isFrost ((μ a1 0) + i5) μ).bind (fun p25 =>
  (f_X8_passMinute 136 (2 + 1 + i2.toNatClampNeg) p25.1 p25.2).bind (fun p28 =>
  if inb i5 40 = true then
  lt (st p28.2 a4 i5.toNatClampNeg p28.1) (fun m29 =>
  lt (i5 + Int32.ofInt 1) (fun x32 =>
  l_X1_fill_28 a1 i2 i3 a4 n x32 m29)) else none)) else none))
else
  (if inb i2 5 = true then
  (f_X7_isFrost ((μ a1 0) + i5) μ).bind (fun p13 =>
  (f_X8_passMinute 136 (2 + 1 + i2.toNatClampNeg) p13.1 p13.2).bind (fun p16 =>
  if inb i5 40 = true then
  lt (st p16.2 a4 i5.toNatClampNeg p16.1) (fun m17 =>
  lt (i5 + Int32.ofInt 1) (fun x20 =>
  l_X1_fill_28 a1 i2 i3 a4 n x20 m17)) else none)) else none))
def f_X1_fill (a1 : Nat) (i2 : Int32) (i3 : Int32) (μ : gMem) : Option (gMem) :=
  if inb ((i2 * (4 : Int32)) + i3) 20 = true then
  if inb i2 5 = true then
  (f_X8_copy 136 ((a1 + 1) + 1 + i2.toNatClampNeg) μ).bind (fun m6 =>
  (l_X1_fill_28 a1 i2 i3 (107 + 1 + ((i2 * (4 : Int32)) + i3).toNatClampNeg) gF (0 : Int32) m6).bind (fun p47 =>
  some p47.2)) else none else none
set_option maxRecDepth 100000 in
set_option maxHeartbeats 4000000 in
theorem cl_X1_fill_28 {κ : Nat → Nat} {N : Nat} {Q : rQ} (hN : 140 ≤ N) (a1 : Nat) (i2 : Int32) (i3 : Int32) (a4 : Nat) (h1 : kd a1 = 5) (g1 : a1 < N) (h4 : kd a4 = 20) (g4 : a4 < N) (n4 : ln a4 = 40) : ∀ (n : Nat) (i5 : Int32) (μ : gMem) (p : Int32 × gMem), l_X1_fill_28 a1 i2 i3 a4 n i5 μ = some p → RR κ N 5 iX1_fill 110 [(0, .ref (κ 0 + 106)), (1, .ref (κ 0 + a1)), (2, .int i2), (3, .int i3), (4, .ref (κ 0 + a4)), (5, .int p.1)] [] p.2 Q → RR κ N 5 iX1_fill 28 [(0, .ref (κ 0 + 106)), (1, .ref (κ 0 + a1)), (2, .int i2), (3, .int i3), (4, .ref (κ 0 + a4)), (5, .int i5)] [] μ Q := by
  intro n
  induction n with
  | zero =>
    intro i5 μ p h k
    unfold l_X1_fill_28 at h
    cases h
  | succ n ih =>
    intro i5 μ p h k
    unfold l_X1_fill_28 at h
    refine g_iload (pc := 28) dX1_fill_28 rfl ?_
    refine g_aload_n (pc := 30) dX1_fill_30 rfl rfl ?_
    refine gf_X1_48 (pc := 31) rfl dX1_fill_31 (Nat.lt_of_lt_of_le (by decide) hN) kd_106 ?_
    refine g_icmp_ge (pc := 34) 110 dX1_fill_34 (by decide) (fun hc9 => ?_) (fun hc9 => ?_)
    · rw [if_pos hc9] at h
      cases h
      exact k
    · rw [if_neg hc9] at h
      refine g_iload (pc := 37) dX1_fill_37 rfl ?_
      refine g_iload_n (pc := 39) dX1_fill_39 rfl rfl ?_
      refine g_icmp_ne (pc := 40) 69 dX1_fill_40 (by decide) (fun hc10 => ?_) (fun hc10 => ?_)
      · rw [if_neg hc10] at h
        refine g_aload (pc := 69) dX1_fill_69 rfl ?_
        refine g_iload (pc := 71) dX1_fill_71 rfl ?_
        refine g_aload_n (pc := 73) dX1_fill_73 rfl rfl ?_
        refine gf_X1_30 (pc := 74) rfl dX1_fill_74 (Nat.lt_of_lt_of_le (by decide) hN) kd_106 ?_
        refine g_aload_n (pc := 77) dX1_fill_77 rfl rfl ?_
        refine gf_X1_9 (pc := 78) rfl dX1_fill_78 (Nat.lt_of_lt_of_le (by decide) hN) kd_106 ?_
        refine gf_X1_78 (pc := 81) rfl dX1_fill_81 (Nat.lt_of_lt_of_le (by decide) hN) kd_1 ?_
        refine g_iload_n (pc := 84) dX1_fill_84 rfl rfl ?_
        obtain ⟨hg11, h⟩ := gd_some h
        refine r_aald (pc := 85) 23 5 (2 + 1 + i2.toNatClampNeg) dX1_fill_85 (Nat.lt_of_lt_of_le (by decide) hN) kd_2 (by decide) ln_2 hg11 rfl ?_
        refine g_aload_n (pc := 86) dX1_fill_86 rfl rfl ?_
        refine gf_X1_9 (pc := 87) rfl dX1_fill_87 (Nat.lt_of_lt_of_le (by decide) hN) kd_106 ?_
        refine g_aload_n (pc := 90) dX1_fill_90 rfl rfl ?_
        refine gf_X1_86 (pc := 91) rfl dX1_fill_91 g1 h1 ?_
        refine g_iload (pc := 94) dX1_fill_94 rfl ?_
        refine g_iadd (pc := 96) dX1_fill_96 ?_
        obtain ⟨p13, hp12, h⟩ := Option.bind_eq_some_iff.mp h
        refine r_callV (ci := 7) (pc := 97) (c_X7_isFrost hN ((μ a1 0) + i5) μ hp12) yV_X7_isFrost ⟨rfl, by decide⟩ pX7_isFrost mL_X1_89 dX1_fill_97 (Nat.le_of_ble_eq_true rfl) (Nat.le_of_ble_eq_true rfl) (Nat.lt_of_lt_of_le (by decide) hN) kd_1 rfl (rK_z (fun hz14 => ?_))
        obtain ⟨p16, hp15, h⟩ := Option.bind_eq_some_iff.mp h
        refine r_callV (ci := 8) (pc := 100) (c_X8_passMinute hN 136 (2 + 1 + i2.toNatClampNeg) p13.1 kd_136 ((kd_sis (inb_lt hg11)).1) p13.2 hp15) yV_X8_passMinute ⟨rfl, by decide⟩ pX8_passMinute mL_X1_93 dX1_fill_100 (Nat.le_of_ble_eq_true rfl) (Nat.le_of_ble_eq_true rfl) (Nat.lt_of_lt_of_le (by decide) hN) kd_136 rfl (rK_i ?_)
        obtain ⟨hg19, h⟩ := gd_some h
        refine r_iast (pc := 103) 40 dX1_fill_103 g4 h4 n4 hg19 (fun m17 e18 => ?_)
        rw [lt_of e18] at h
        refine g_iinc (pc := 104) (lv' := fun y => [(0, .ref (κ 0 + 106)), (1, .ref (κ 0 + a1)), (2, .int i2), (3, .int i3), (4, .ref (κ 0 + a4)), (5, .int y)]) dX1_fill_104 rfl (Nat.le_of_ble_eq_true rfl) (fun _ => rfl) (fun x20 e21 => ?_)
        rw [lt_of e21] at h
        refine g_goto (pc := 107) 28 dX1_fill_107 (by decide) ?_
        refine g_lv (lv' := [(0, .ref (κ 0 + 106)), (1, .ref (κ 0 + a1)), (2, .int i2), (3, .int i3), (4, .ref (κ 0 + a4)), (5, .int x20)]) rfl ?_
        exact ih _ _ _ h k
      · rw [if_pos hc10] at h
        refine g_aload_n (pc := 43) dX1_fill_43 rfl rfl ?_
        refine gf_X1_30 (pc := 44) rfl dX1_fill_44 (Nat.lt_of_lt_of_le (by decide) hN) kd_106 ?_
        refine gf_X1_63 (pc := 47) rfl dX1_fill_47 (Nat.lt_of_lt_of_le (by decide) hN) kd_136 ?_
        refine g_if_ne (pc := 50) 69 dX1_fill_50 (by decide) (fun hc22 => ?_) (fun hc22 => ?_)
        · rw [if_neg hc22] at h
          refine g_aload (pc := 69) dX1_fill_69 rfl ?_
          refine g_iload (pc := 71) dX1_fill_71 rfl ?_
          refine g_aload_n (pc := 73) dX1_fill_73 rfl rfl ?_
          refine gf_X1_30 (pc := 74) rfl dX1_fill_74 (Nat.lt_of_lt_of_le (by decide) hN) kd_106 ?_
          refine g_aload_n (pc := 77) dX1_fill_77 rfl rfl ?_
          refine gf_X1_9 (pc := 78) rfl dX1_fill_78 (Nat.lt_of_lt_of_le (by decide) hN) kd_106 ?_
          refine gf_X1_78 (pc := 81) rfl dX1_fill_81 (Nat.lt_of_lt_of_le (by decide) hN) kd_1 ?_
          refine g_iload_n (pc := 84) dX1_fill_84 rfl rfl ?_
          obtain ⟨hg23, h⟩ := gd_some h
          refine r_aald (pc := 85) 23 5 (2 + 1 + i2.toNatClampNeg) dX1_fill_85 (Nat.lt_of_lt_of_le (by decide) hN) kd_2 (by decide) ln_2 hg23 rfl ?_
          refine g_aload_n (pc := 86) dX1_fill_86 rfl rfl ?_
          refine gf_X1_9 (pc := 87) rfl dX1_fill_87 (Nat.lt_of_lt_of_le (by decide) hN) kd_106 ?_
          refine g_aload_n (pc := 90) dX1_fill_90 rfl rfl ?_
          refine gf_X1_86 (pc := 91) rfl dX1_fill_91 g1 h1 ?_
          refine g_iload (pc := 94) dX1_fill_94 rfl ?_
          refine g_iadd (pc := 96) dX1_fill_96 ?_
          obtain ⟨p25, hp24, h⟩ := Option.bind_eq_some_iff.mp h
          refine r_callV (ci := 7) (pc := 97) (c_X7_isFrost hN ((μ a1 0) + i5) μ hp24) yV_X7_isFrost ⟨rfl, by decide⟩ pX7_isFrost mL_X1_89 dX1_fill_97 (Nat.le_of_ble_eq_true rfl) (Nat.le_of_ble_eq_true rfl) (Nat.lt_of_lt_of_le (by decide) hN) kd_1 rfl (rK_z (fun hz26 => ?_))
          obtain ⟨p28, hp27, h⟩ := Option.bind_eq_some_iff.mp h
          refine r_callV (ci := 8) (pc := 100) (c_X8_passMinute hN 136 (2 + 1 + i2.toNatClampNeg) p25.1 kd_136 ((kd_sis (inb_lt hg23)).1) p25.2 hp27) yV_X8_passMinute ⟨rfl, by decide⟩ pX8_passMinute mL_X1_93 dX1_fill_100 (Nat.le_of_ble_eq_true rfl) (Nat.le_of_ble_eq_true rfl) (Nat.lt_of_lt_of_le (by decide) hN) kd_136 rfl (rK_i ?_)
          obtain ⟨hg31, h⟩ := gd_some h
          refine r_iast (pc := 103) 40 dX1_fill_103 g4 h4 n4 hg31 (fun m29 e30 => ?_)
          rw [lt_of e30] at h
          refine g_iinc (pc := 104) (lv' := fun y => [(0, .ref (κ 0 + 106)), (1, .ref (κ 0 + a1)), (2, .int i2), (3, .int i3), (4, .ref (κ 0 + a4)), (5, .int y)]) dX1_fill_104 rfl (Nat.le_of_ble_eq_true rfl) (fun _ => rfl) (fun x32 e33 => ?_)
          rw [lt_of e33] at h
          refine g_goto (pc := 107) 28 dX1_fill_107 (by decide) ?_
          refine g_lv (lv' := [(0, .ref (κ 0 + 106)), (1, .ref (κ 0 + a1)), (2, .int i2), (3, .int i3), (4, .ref (κ 0 + a4)), (5, .int x32)]) rfl ?_
          exact ih _ _ _ h k
        · rw [if_pos hc22] at h
          refine g_aload_n (pc := 53) dX1_fill_53 rfl rfl ?_
          refine gf_X1_30 (pc := 54) rfl dX1_fill_54 (Nat.lt_of_lt_of_le (by decide) hN) kd_106 ?_
          refine g_aload_n (pc := 57) dX1_fill_57 rfl rfl ?_
          refine gf_X1_9 (pc := 58) rfl dX1_fill_58 (Nat.lt_of_lt_of_le (by decide) hN) kd_106 ?_
          refine gf_X1_78 (pc := 61) rfl dX1_fill_61 (Nat.lt_of_lt_of_le (by decide) hN) kd_1 ?_
          refine g_iload_n (pc := 64) dX1_fill_64 rfl rfl ?_
          obtain ⟨hg34, h⟩ := gd_some h
          refine r_aald (pc := 65) 23 5 (2 + 1 + i2.toNatClampNeg) dX1_fill_65 (Nat.lt_of_lt_of_le (by decide) hN) kd_2 (by decide) ln_2 hg34 rfl ?_
          obtain ⟨m36, hp35, h⟩ := Option.bind_eq_some_iff.mp h
          refine r_callV (ci := 8) (pc := 66) (c_X8_draw hN 136 (2 + 1 + i2.toNatClampNeg) kd_136 ((kd_sis (inb_lt hg34)).1) μ hp35) yV_X8_draw ⟨rfl, by decide⟩ pX8_draw mL_X1_82 dX1_fill_66 (Nat.le_of_ble_eq_true rfl) (Nat.le_of_ble_eq_true rfl) (Nat.lt_of_lt_of_le (by decide) hN) kd_136 rfl (rK_v ?_)
          refine g_aload (pc := 69) dX1_fill_69 rfl ?_
          refine g_iload (pc := 71) dX1_fill_71 rfl ?_
          refine g_aload_n (pc := 73) dX1_fill_73 rfl rfl ?_
          refine gf_X1_30 (pc := 74) rfl dX1_fill_74 (Nat.lt_of_lt_of_le (by decide) hN) kd_106 ?_
          refine g_aload_n (pc := 77) dX1_fill_77 rfl rfl ?_
          refine gf_X1_9 (pc := 78) rfl dX1_fill_78 (Nat.lt_of_lt_of_le (by decide) hN) kd_106 ?_
          refine gf_X1_78 (pc := 81) rfl dX1_fill_81 (Nat.lt_of_lt_of_le (by decide) hN) kd_1 ?_
          refine g_iload_n (pc := 84) dX1_fill_84 rfl rfl ?_
          refine r_aald (pc := 85) 23 5 (2 + 1 + i2.toNatClampNeg) dX1_fill_85 (Nat.lt_of_lt_of_le (by decide) hN) kd_2 (by decide) ln_2 hg34 rfl ?_
          refine g_aload_n (pc := 86) dX1_fill_86 rfl rfl ?_
          refine gf_X1_9 (pc := 87) rfl dX1_fill_87 (Nat.lt_of_lt_of_le (by decide) hN) kd_106 ?_
          refine g_aload_n (pc := 90) dX1_fill_90 rfl rfl ?_
          refine gf_X1_86 (pc := 91) rfl dX1_fill_91 g1 h1 ?_
          refine g_iload (pc := 94) dX1_fill_94 rfl ?_
          refine g_iadd (pc := 96) dX1_fill_96 ?_
          obtain ⟨p38, hp37, h⟩ := Option.bind_eq_some_iff.mp h
          refine r_callV (ci := 7) (pc := 97) (c_X7_isFrost hN ((m36 a1 0) + i5) m36 hp37) yV_X7_isFrost ⟨rfl, by decide⟩ pX7_isFrost mL_X1_89 dX1_fill_97 (Nat.le_of_ble_eq_true rfl) (Nat.le_of_ble_eq_true rfl) (Nat.lt_of_lt_of_le (by decide) hN) kd_1 rfl (rK_z (fun hz39 => ?_))
          obtain ⟨p41, hp40, h⟩ := Option.bind_eq_some_iff.mp h
          refine r_callV (ci := 8) (pc := 100) (c_X8_passMinute hN 136 (2 + 1 + i2.toNatClampNeg) p38.1 kd_136 ((kd_sis (inb_lt hg34)).1) p38.2 hp40) yV_X8_passMinute ⟨rfl, by decide⟩ pX8_passMinute mL_X1_93 dX1_fill_100 (Nat.le_of_ble_eq_true rfl) (Nat.le_of_ble_eq_true rfl) (Nat.lt_of_lt_of_le (by decide) hN) kd_136 rfl (rK_i ?_)
          obtain ⟨hg44, h⟩ := gd_some h
          refine r_iast (pc := 103) 40 dX1_fill_103 g4 h4 n4 hg44 (fun m42 e43 => ?_)
          rw [lt_of e43] at h
          refine g_iinc (pc := 104) (lv' := fun y => [(0, .ref (κ 0 + 106)), (1, .ref (κ 0 + a1)), (2, .int i2), (3, .int i3), (4, .ref (κ 0 + a4)), (5, .int y)]) dX1_fill_104 rfl (Nat.le_of_ble_eq_true rfl) (fun _ => rfl) (fun x45 e46 => ?_)
          rw [lt_of e46] at h
          refine g_goto (pc := 107) 28 dX1_fill_107 (by decide) ?_
          refine g_lv (lv' := [(0, .ref (κ 0 + 106)), (1, .ref (κ 0 + a1)), (2, .int i2), (3, .int i3), (4, .ref (κ 0 + a4)), (5, .int x45)]) rfl ?_
          exact ih _ _ _ h k
set_option maxRecDepth 100000 in
set_option maxHeartbeats 4000000 in
theorem c_X1_fill {κ : Nat → Nat} {N : Nat} (hN : 140 ≤ N) (a1 : Nat) (i2 : Int32) (i3 : Int32) (h1 : kd a1 = 5) (μ : gMem) {μ' : gMem} (h : f_X1_fill a1 i2 i3 μ = some μ') : CT2 κ N 5 yX1_fill iX1_fill [.ref (κ 0 + 106), .ref (κ 0 + a1), .int i2, .int i3] μ (qV μ') := by
  refine CT2.of (by decide) rfl rfl (Nat.le_of_ble_eq_true rfl) ?_
  unfold f_X1_fill at h
  show RR κ N 5 iX1_fill 0 [(0, .ref (κ 0 + 106)), (1, .ref (κ 0 + a1)), (2, .int i2), (3, .int i3)] [] μ _
  refine g_aload_n (pc := 0) dX1_fill_0 rfl rfl ?_
  refine gf_X1_17 (pc := 1) rfl dX1_fill_1 (Nat.lt_of_lt_of_le (by decide) hN) kd_106 ?_
  refine g_iload_n (pc := 4) dX1_fill_4 rfl rfl ?_
  refine g_iconst (pc := 5) (v := (4 : Int32)) dX1_fill_5 rfl ?_
  refine g_imul (pc := 6) dX1_fill_6 ?_
  refine g_iload_n (pc := 7) dX1_fill_7 rfl rfl ?_
  refine g_iadd (pc := 8) dX1_fill_8 ?_
  obtain ⟨hg1, h⟩ := gd_some h
  refine r_aald (pc := 9) 25 20 (107 + 1 + ((i2 * (4 : Int32)) + i3).toNatClampNeg) dX1_fill_9 (Nat.lt_of_lt_of_le (by decide) hN) kd_107 (by decide) ln_107 hg1 rfl ?_
  refine g_astore (pc := 10) (lv' := fun y => [(0, .ref (κ 0 + 106)), (1, .ref (κ 0 + a1)), (2, .int i2), (3, .int i3), (4, .ref y)]) dX1_fill_10 (Nat.le_of_ble_eq_true rfl) (fun _ => rfl) (fun y2 e3 => ?_)
  rw [e3]
  refine g_aload_n (pc := 12) dX1_fill_12 rfl rfl ?_
  refine gf_X1_30 (pc := 13) rfl dX1_fill_13 (Nat.lt_of_lt_of_le (by decide) hN) kd_106 ?_
  refine g_aload_n (pc := 16) dX1_fill_16 rfl rfl ?_
  refine gf_X1_59 (pc := 17) rfl dX1_fill_17 (Nat.lt_of_lt_of_le (kd_obj h1 (by decide)) hN) h1 ?_
  refine g_iload_n (pc := 20) dX1_fill_20 rfl rfl ?_
  obtain ⟨hg4, h⟩ := gd_some h
  refine r_aald (pc := 21) 24 5 ((a1 + 1) + 1 + i2.toNatClampNeg) dX1_fill_21 (Nat.lt_of_lt_of_le (Nat.lt_of_lt_of_le (Nat.lt_of_succ_le (Nat.add_le_add_left (by decide : 2 ≤ 7) _)) (kd_scene h1).2.2) hN) (kd_scene h1).1 (by decide) (kd_scene h1).2.1 hg4 rfl ?_
  obtain ⟨m6, hp5, h⟩ := Option.bind_eq_some_iff.mp h
  refine r_callV (ci := 8) (pc := 22) (c_X8_copy hN 136 ((a1 + 1) + 1 + i2.toNatClampNeg) kd_136 ((kd_warr (kd_scene h1).1 (inb_lt hg4)).1) μ hp5) yV_X8_copy ⟨rfl, by decide⟩ pX8_copy mL_X1_74 dX1_fill_22 (Nat.le_of_ble_eq_true rfl) (Nat.le_of_ble_eq_true rfl) (Nat.lt_of_lt_of_le (by decide) hN) kd_136 rfl (rK_v ?_)
  refine g_iconst (pc := 25) (v := (0 : Int32)) dX1_fill_25 rfl ?_
  refine g_istore (pc := 26) (lv' := fun y => [(0, .ref (κ 0 + 106)), (1, .ref (κ 0 + a1)), (2, .int i2), (3, .int i3), (4, .ref (κ 0 + (107 + 1 + ((i2 * (4 : Int32)) + i3).toNatClampNeg))), (5, .int y)]) dX1_fill_26 (Nat.le_of_ble_eq_true rfl) (fun _ => rfl) (fun y7 e8 => ?_)
  rw [e8]
  obtain ⟨p47, hp48, h⟩ := Option.bind_eq_some_iff.mp h
  refine cl_X1_fill_28 hN a1 i2 i3 (107 + 1 + ((i2 * (4 : Int32)) + i3).toNatClampNeg) h1 (Nat.lt_of_lt_of_le (kd_obj h1 (by decide)) hN) ((kd_r107 (inb_lt hg1)).1) (Nat.lt_of_lt_of_le (kd_r107 (inb_lt hg1)).2.2 hN) ((kd_r107 (inb_lt hg1)).2.1) gF (0 : Int32) _ _ hp48 ?_
  cases h
  exact r_vret dX1_fill_110 rfl rfl

def l_X1_tryFrom_53 (F : Int32 → gMem → Option gMem) (i1 : Int32) : Nat → Int32 → gMem → Option (Int32 × gMem)
  | 0, _, _ => none
  | n + 1, i2, μ =>
  if (4 : Int32) ≤ i2 then
  (some (i2, μ))
else
  (if (μ 1 4) ≤ (μ 106 6) then
  (some (i2, μ))
else
  (if inb i1 5 = true then
  lt (st μ 135 i1.toNatClampNeg i2) (fun m12 =>
  (f_X1_addRow i1 i2 m12).bind (fun m16 =>
  (F (i1 + (1 : Int32)) m16).bind (fun m18 =>
  lt (i2 + Int32.ofInt 1) (fun x19 =>
  l_X1_tryFrom_53 F i1 n x19 m18)))) else none))
def f_X1_tryFrom : Nat → Int32 → gMem → Option gMem
  | 0, _, _ => none
  | n + 1, i1, μ => lt (f_X1_tryFrom n) (fun F =>
  if (μ 1 1) ≤ i1 then
  (if inb i1 6 = true then
  (f_X1_judge (128 + 1 + i1.toNatClampNeg) μ).bind (fun m4 =>
  some m4) else none)
else
  (if i1 < (5 : Int32) then
  (if inb i1 5 = true then
  if (μ 135 i1.toNatClampNeg) = (-1 : Int32) then
  ((f_X1_addRow i1 (0 : Int32) μ).bind (fun m24 =>
  (F (i1 + (1 : Int32)) m24).bind (fun m26 =>
  some m26)))
else
  ((l_X1_tryFrom_53 F i1 gF (0 : Int32) μ).bind (fun p21 =>
  some p21.2)) else none)
else
  (if inb i1 6 = true then
  (f_X1_judge (128 + 1 + i1.toNatClampNeg) μ).bind (fun m29 =>
  some m29) else none)))
set_option maxRecDepth 100000 in
set_option maxHeartbeats 4000000 in
theorem cl_X1_tryFrom_53 {κ : Nat → Nat} {N D : Nat} {Q : rQ} (hN : 140 ≤ N) (F : Int32 → gMem → Option gMem) (i1 : Int32) (hD : 2 ≤ D) (hF : ∀ i m m', F i m = some m' → CT2 κ N D yX1_tryFrom iX1_tryFrom [.ref (κ 0 + 106), .int i] m (qV m')) : ∀ (n : Nat) (i2 : Int32) (μ : gMem) (p : Int32 × gMem), l_X1_tryFrom_53 F i1 n i2 μ = some p → RR κ N (D + 1) iX1_tryFrom 98 [(0, .ref (κ 0 + 106)), (1, .int i1), (2, .int p.1)] [] p.2 Q → RR κ N (D + 1) iX1_tryFrom 53 [(0, .ref (κ 0 + 106)), (1, .int i1), (2, .int i2)] [] μ Q := by
  intro n
  induction n with
  | zero =>
    intro i2 μ p h k
    unfold l_X1_tryFrom_53 at h
    cases h
  | succ n ih =>
    intro i2 μ p h k
    unfold l_X1_tryFrom_53 at h
    refine g_iload_n (pc := 53) dX1_tryFrom_53 rfl rfl ?_
    refine g_iconst (pc := 54) (v := (4 : Int32)) dX1_tryFrom_54 rfl ?_
    refine g_icmp_ge (pc := 55) 98 dX1_tryFrom_55 (by decide) (fun hc10 => ?_) (fun hc10 => ?_)
    · rw [if_pos hc10] at h
      cases h
      exact k
    · rw [if_neg hc10] at h
      refine g_aload_n (pc := 58) dX1_tryFrom_58 rfl rfl ?_
      refine gf_X1_51 (pc := 59) rfl dX1_tryFrom_59 (Nat.lt_of_lt_of_le (by decide) hN) kd_106 ?_
      refine g_aload_n (pc := 62) dX1_tryFrom_62 rfl rfl ?_
      refine gf_X1_9 (pc := 63) rfl dX1_tryFrom_63 (Nat.lt_of_lt_of_le (by decide) hN) kd_106 ?_
      refine gf_X1_105 (pc := 66) rfl dX1_tryFrom_66 (Nat.lt_of_lt_of_le (by decide) hN) kd_1 ?_
      refine g_icmp_ge (pc := 69) 98 dX1_tryFrom_69 (by decide) (fun hc11 => ?_) (fun hc11 => ?_)
      · rw [if_pos hc11] at h
        cases h
        exact k
      · rw [if_neg hc11] at h
        refine g_aload_n (pc := 72) dX1_tryFrom_72 rfl rfl ?_
        refine gf_X1_23 (pc := 73) rfl dX1_tryFrom_73 (Nat.lt_of_lt_of_le (by decide) hN) kd_106 ?_
        refine g_iload_n (pc := 76) dX1_tryFrom_76 rfl rfl ?_
        refine g_iload_n (pc := 77) dX1_tryFrom_77 rfl rfl ?_
        obtain ⟨hg14, h⟩ := gd_some h
        refine r_iast (pc := 78) 5 dX1_tryFrom_78 (Nat.lt_of_lt_of_le (by decide) hN) kd_135 ln_135 hg14 (fun m12 e13 => ?_)
        rw [lt_of e13] at h
        refine g_aload_n (pc := 79) dX1_tryFrom_79 rfl rfl ?_
        refine g_iload_n (pc := 80) dX1_tryFrom_80 rfl rfl ?_
        refine g_iload_n (pc := 81) dX1_tryFrom_81 rfl rfl ?_
        obtain ⟨m16, hp15, h⟩ := Option.bind_eq_some_iff.mp h
        refine r_callV (ci := 1) (pc := 82) (c_X1_addRow hN i1 i2 m12 hp15) yV_X1_addRow ⟨rfl, by decide⟩ pX1_addRow mL_X1_101 dX1_tryFrom_82 (by omega) (Nat.le_of_ble_eq_true rfl) (Nat.lt_of_lt_of_le (by decide) hN) kd_106 rfl (rK_v ?_)
        refine g_aload_n (pc := 85) dX1_tryFrom_85 rfl rfl ?_
        refine g_iload_n (pc := 86) dX1_tryFrom_86 rfl rfl ?_
        refine g_iconst (pc := 87) (v := (1 : Int32)) dX1_tryFrom_87 rfl ?_
        refine g_iadd (pc := 88) dX1_tryFrom_88 ?_
        obtain ⟨m18, hp17, h⟩ := Option.bind_eq_some_iff.mp h
        refine r_callV (ci := 1) (pc := 89) (hF (i1 + (1 : Int32)) m16 _ hp17) yV_X1_tryFrom ⟨rfl, by decide⟩ pX1_tryFrom mL_X1_70 dX1_tryFrom_89 (by omega) (Nat.le_of_ble_eq_true rfl) (Nat.lt_of_lt_of_le (by decide) hN) kd_106 rfl (rK_v ?_)
        refine g_iinc (pc := 92) (lv' := fun y => [(0, .ref (κ 0 + 106)), (1, .int i1), (2, .int y)]) dX1_tryFrom_92 rfl (Nat.le_of_ble_eq_true rfl) (fun _ => rfl) (fun x19 e20 => ?_)
        rw [lt_of e20] at h
        refine g_goto (pc := 95) 53 dX1_tryFrom_95 (by decide) ?_
        refine g_lv (lv' := [(0, .ref (κ 0 + 106)), (1, .int i1), (2, .int x19)]) rfl ?_
        exact ih _ _ _ h k
set_option maxRecDepth 100000 in
set_option maxHeartbeats 4000000 in
theorem c1_X1_tryFrom {κ : Nat → Nat} {N D : Nat} (hN : 140 ≤ N) (hD : 2 ≤ D) (F : Int32 → gMem → Option gMem) (hF : ∀ i m m', F i m = some m' → CT2 κ N D yX1_tryFrom iX1_tryFrom [.ref (κ 0 + 106), .int i] m (qV m')) (i1 : Int32) (μ : gMem) {μ' : gMem} (h : (if (μ 1 1) ≤ i1 then
  (if inb i1 6 = true then
  (f_X1_judge (128 + 1 + i1.toNatClampNeg) μ).bind (fun m4 =>
  some m4) else none)
else
  (if i1 < (5 : Int32) then
  (if inb i1 5 = true then
  if (μ 135 i1.toNatClampNeg) = (-1 : Int32) then
  ((f_X1_addRow i1 (0 : Int32) μ).bind (fun m24 =>
  (F (i1 + (1 : Int32)) m24).bind (fun m26 =>
  some m26)))
else
  ((l_X1_tryFrom_53 F i1 gF (0 : Int32) μ).bind (fun p21 =>
  some p21.2)) else none)
else
  (if inb i1 6 = true then
  (f_X1_judge (128 + 1 + i1.toNatClampNeg) μ).bind (fun m29 =>
  some m29) else none))) = some μ') : CT2 κ N (D + 1) yX1_tryFrom iX1_tryFrom [.ref (κ 0 + 106), .int i1] μ (qV μ') := by
  refine CT2.of (by decide) rfl rfl (Nat.le_of_ble_eq_true rfl) ?_
  show RR κ N (D + 1) iX1_tryFrom 0 [(0, .ref (κ 0 + 106)), (1, .int i1)] [] μ _
  refine g_iload_n (pc := 0) dX1_tryFrom_0 rfl rfl ?_
  refine g_aload_n (pc := 1) dX1_tryFrom_1 rfl rfl ?_
  refine gf_X1_9 (pc := 2) rfl dX1_tryFrom_2 (Nat.lt_of_lt_of_le (by decide) hN) kd_106 ?_
  refine gf_X1_54 (pc := 5) rfl dX1_tryFrom_5 (Nat.lt_of_lt_of_le (by decide) hN) kd_1 ?_
  refine g_icmp_ge (pc := 8) 16 dX1_tryFrom_8 (by decide) (fun hc1 => ?_) (fun hc1 => ?_)
  · rw [if_pos hc1] at h
    refine g_aload_n (pc := 16) dX1_tryFrom_16 rfl rfl ?_
    refine g_aload_n (pc := 17) dX1_tryFrom_17 rfl rfl ?_
    refine gf_X1_20 (pc := 18) rfl dX1_tryFrom_18 (Nat.lt_of_lt_of_le (by decide) hN) kd_106 ?_
    refine g_iload_n (pc := 21) dX1_tryFrom_21 rfl rfl ?_
    obtain ⟨hg2, h⟩ := gd_some h
    refine r_aald (pc := 22) 25 6 (128 + 1 + i1.toNatClampNeg) dX1_tryFrom_22 (Nat.lt_of_lt_of_le (by decide) hN) kd_128 (by decide) ln_128 hg2 rfl ?_
    obtain ⟨m4, hp3, h⟩ := Option.bind_eq_some_iff.mp h
    refine r_callV (ci := 1) (pc := 23) (c_X1_judge hN (128 + 1 + i1.toNatClampNeg) ((kd_r128 (inb_lt hg2)).1) (Nat.lt_of_lt_of_le (kd_r128 (inb_lt hg2)).2.2 hN) ((kd_r128 (inb_lt hg2)).2.1) μ hp3) yV_X1_judge ⟨rfl, by decide⟩ pX1_judge mL_X1_97 dX1_tryFrom_23 (by omega) (Nat.le_of_ble_eq_true rfl) (Nat.lt_of_lt_of_le (by decide) hN) kd_106 rfl (rK_v ?_)
    cases h
    exact r_vret dX1_tryFrom_26 rfl rfl
  · rw [if_neg hc1] at h
    refine g_iload_n (pc := 11) dX1_tryFrom_11 rfl rfl ?_
    refine g_iconst (pc := 12) (v := (5 : Int32)) dX1_tryFrom_12 rfl ?_
    refine g_icmp_lt (pc := 13) 27 dX1_tryFrom_13 (by decide) (fun hc5 => ?_) (fun hc5 => ?_)
    · rw [if_pos hc5] at h
      refine g_aload_n (pc := 27) dX1_tryFrom_27 rfl rfl ?_
      refine gf_X1_23 (pc := 28) rfl dX1_tryFrom_28 (Nat.lt_of_lt_of_le (by decide) hN) kd_106 ?_
      refine g_iload_n (pc := 31) dX1_tryFrom_31 rfl rfl ?_
      obtain ⟨hg6, h⟩ := gd_some h
      refine r_iald (pc := 32) 5 dX1_tryFrom_32 (Nat.lt_of_lt_of_le (by decide) hN) kd_135 ln_135 hg6 ?_
      refine g_iconst (pc := 33) (v := (-1 : Int32)) dX1_tryFrom_33 rfl ?_
      refine g_icmp_ne (pc := 34) 51 dX1_tryFrom_34 (by decide) (fun hc7 => ?_) (fun hc7 => ?_)
      · rw [if_neg hc7] at h
        refine g_iconst (pc := 51) (v := (0 : Int32)) dX1_tryFrom_51 rfl ?_
        refine g_istore_n (pc := 52) (lv' := fun y => [(0, .ref (κ 0 + 106)), (1, .int i1), (2, .int y)]) dX1_tryFrom_52 rfl (Nat.le_of_ble_eq_true rfl) (fun _ => rfl) (fun y8 e9 => ?_)
        rw [e9]
        obtain ⟨p21, hp22, h⟩ := Option.bind_eq_some_iff.mp h
        refine cl_X1_tryFrom_53 hN F i1 hD hF  gF (0 : Int32) _ _ hp22 ?_
        cases h
        exact r_vret dX1_tryFrom_98 rfl rfl
      · rw [if_pos hc7] at h
        refine g_aload_n (pc := 37) dX1_tryFrom_37 rfl rfl ?_
        refine g_iload_n (pc := 38) dX1_tryFrom_38 rfl rfl ?_
        refine g_iconst (pc := 39) (v := (0 : Int32)) dX1_tryFrom_39 rfl ?_
        obtain ⟨m24, hp23, h⟩ := Option.bind_eq_some_iff.mp h
        refine r_callV (ci := 1) (pc := 40) (c_X1_addRow hN i1 (0 : Int32) μ hp23) yV_X1_addRow ⟨rfl, by decide⟩ pX1_addRow mL_X1_101 dX1_tryFrom_40 (by omega) (Nat.le_of_ble_eq_true rfl) (Nat.lt_of_lt_of_le (by decide) hN) kd_106 rfl (rK_v ?_)
        refine g_aload_n (pc := 43) dX1_tryFrom_43 rfl rfl ?_
        refine g_iload_n (pc := 44) dX1_tryFrom_44 rfl rfl ?_
        refine g_iconst (pc := 45) (v := (1 : Int32)) dX1_tryFrom_45 rfl ?_
        refine g_iadd (pc := 46) dX1_tryFrom_46 ?_
        obtain ⟨m26, hp25, h⟩ := Option.bind_eq_some_iff.mp h
        refine r_callV (ci := 1) (pc := 47) (hF (i1 + (1 : Int32)) m24 _ hp25) yV_X1_tryFrom ⟨rfl, by decide⟩ pX1_tryFrom mL_X1_70 dX1_tryFrom_47 (by omega) (Nat.le_of_ble_eq_true rfl) (Nat.lt_of_lt_of_le (by decide) hN) kd_106 rfl (rK_v ?_)
        cases h
        exact r_vret dX1_tryFrom_50 rfl rfl
    · rw [if_neg hc5] at h
      refine g_aload_n (pc := 16) dX1_tryFrom_16 rfl rfl ?_
      refine g_aload_n (pc := 17) dX1_tryFrom_17 rfl rfl ?_
      refine gf_X1_20 (pc := 18) rfl dX1_tryFrom_18 (Nat.lt_of_lt_of_le (by decide) hN) kd_106 ?_
      refine g_iload_n (pc := 21) dX1_tryFrom_21 rfl rfl ?_
      obtain ⟨hg27, h⟩ := gd_some h
      refine r_aald (pc := 22) 25 6 (128 + 1 + i1.toNatClampNeg) dX1_tryFrom_22 (Nat.lt_of_lt_of_le (by decide) hN) kd_128 (by decide) ln_128 hg27 rfl ?_
      obtain ⟨m29, hp28, h⟩ := Option.bind_eq_some_iff.mp h
      refine r_callV (ci := 1) (pc := 23) (c_X1_judge hN (128 + 1 + i1.toNatClampNeg) ((kd_r128 (inb_lt hg27)).1) (Nat.lt_of_lt_of_le (kd_r128 (inb_lt hg27)).2.2 hN) ((kd_r128 (inb_lt hg27)).2.1) μ hp28) yV_X1_judge ⟨rfl, by decide⟩ pX1_judge mL_X1_97 dX1_tryFrom_23 (by omega) (Nat.le_of_ble_eq_true rfl) (Nat.lt_of_lt_of_le (by decide) hN) kd_106 rfl (rK_v ?_)
      cases h
      exact r_vret dX1_tryFrom_26 rfl rfl
theorem c_X1_tryFrom {κ : Nat → Nat} {N : Nat} (hN : 140 ≤ N) : ∀ (n : Nat) (i1 : Int32) (μ : gMem) {μ' : gMem} (_ : f_X1_tryFrom n i1 μ = some μ'), CT2 κ N (n + 2) yX1_tryFrom iX1_tryFrom [.ref (κ 0 + 106), .int i1] μ (qV μ')
  | 0, _, _, _, h => by cases h
  | n + 1, i1, μ, _, h => c1_X1_tryFrom hN (by omega) (f_X1_tryFrom n) (fun i m m' h2 => c_X1_tryFrom hN n i m h2) i1 μ h

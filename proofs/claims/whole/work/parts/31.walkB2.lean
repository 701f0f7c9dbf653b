def f_X11_number (i1 : Int32) (i2 : Int32) (μ : gMem) : Option (Int32 × gMem) :=
  (f_X11_nextToken  μ).bind (fun m2 =>
  if (m2 140 6) = (2 : Int32) then
  ((f_X11_in ((m2 140 7).toInt64) i1.toInt64 i2.toInt64 m2).bind (fun p5 =>
  lt (if p5.1 = 0 then (-1 : Int32) else (p5.2 140 7)) (fun x7 =>
  some (x7, p5.2))))
else
  (some ((-1 : Int32), m2)))
set_option maxRecDepth 100000 in
set_option maxHeartbeats 4000000 in
theorem c_X11_number {κ : Nat → Nat} {N : Nat} (hN : 151 ≤ N) (i1 : Int32) (i2 : Int32)  (μ : gMem) {r : Int32} {μ' : gMem} (h : f_X11_number i1 i2 μ = some (r, μ')) : CT2 κ N 3 yX11_number iX11_number [.ref (κ 0 + 140), .int i1, .int i2] μ (qI r μ') := by
  refine CT2.of (by decide) rfl rfl (Nat.le_of_ble_eq_true rfl) ?_
  unfold f_X11_number at h
  show RR κ N 3 iX11_number 0 [(0, .ref (κ 0 + 140)), (1, .int i1), (2, .int i2)] [] μ _
  refine g_aload_n (pc := 0) dX11_number_0 rfl rfl ?_
  obtain ⟨m2, hp1, h⟩ := Option.bind_eq_some_iff.mp h
  refine r_callV (ci := 10) (pc := 1) (c_X11_nextToken hN  μ hp1) yV_X11_nextToken ⟨rfl, by decide⟩ pX11_nextToken mL_X11_92 dX11_number_1 (Nat.le_of_ble_eq_true rfl) (Nat.le_of_ble_eq_true rfl) (Nat.lt_of_lt_of_le (by decide) hN) kd_140 rfl (rK_v ?_)
  refine g_aload_n (pc := 4) dX11_number_4 rfl rfl ?_
  refine gf_X11_71 (pc := 5) rfl dX11_number_5 (Nat.lt_of_lt_of_le (by decide) hN) kd_140 ?_
  refine g_iconst (pc := 8) (v := (2 : Int32)) dX11_number_8 rfl ?_
  refine g_icmp_ne (pc := 9) 34 dX11_number_9 (by decide) (fun hc3 => ?_) (fun hc3 => ?_)
  · rw [if_neg hc3] at h
    refine g_iconst (pc := 34) (v := (-1 : Int32)) dX11_number_34 rfl ?_
    cases h
    exact r_iret dX11_number_35 rfl rfl rfl
  · rw [if_pos hc3] at h
    refine g_aload_n (pc := 12) dX11_number_12 rfl rfl ?_
    refine gf_X11_68 (pc := 13) rfl dX11_number_13 (Nat.lt_of_lt_of_le (by decide) hN) kd_140 ?_
    refine g_i2l (pc := 16) dX11_number_16 ?_
    refine g_iload_n (pc := 17) dX11_number_17 rfl rfl ?_
    refine g_i2l (pc := 18) dX11_number_18 ?_
    refine g_iload_n (pc := 19) dX11_number_19 rfl rfl ?_
    refine g_i2l (pc := 20) dX11_number_20 ?_
    obtain ⟨p5, hp4, h⟩ := Option.bind_eq_some_iff.mp h
    refine r_callS (pc := 21) (c_X11_in hN ((m2 140 7).toInt64) i1.toInt64 i2.toInt64 m2 hp4) yS_X11_in pX11_in mL_X11_49 dX11_number_21 (Nat.le_of_ble_eq_true rfl) (Nat.le_of_ble_eq_true rfl) rfl (rK_z (fun hz6 => ?_))
    have key9 : ∀ x7 : Int32, x7 = (if p5.1 = 0 then (-1 : Int32) else (p5.2 140 7)) → RR κ N 3 iX11_number 35 [(0, .ref (κ 0 + 140)), (1, .int i1), (2, .int i2)] [.int x7] p5.2 (qI r μ') := by
      intro x7 e8
      rw [lt_of e8] at h
      cases h
      exact r_iret dX11_number_35 rfl rfl rfl
    refine g_if_eq (pc := 24) 34 dX11_number_24 (by decide) (fun hc10 => ?_) (fun hc10 => ?_)
    · refine g_iconst (pc := 34) (v := (-1 : Int32)) dX11_number_34 rfl ?_
      exact key9 _ (by rw [if_pos hc10])
    · refine g_aload_n (pc := 27) dX11_number_27 rfl rfl ?_
      refine gf_X11_68 (pc := 28) rfl dX11_number_28 (Nat.lt_of_lt_of_le (by decide) hN) kd_140 ?_
      refine g_goto (pc := 31) 35 dX11_number_31 (by decide) ?_
      exact key9 _ (by rw [if_neg hc10])

def f_X11_readSister (i1 : Int32) (μ : gMem) : Option (Int32 × gMem) :=
  if (μ 140 10) = (5 : Int32) then
  (some ((0 : Int32), μ))
else
  ((f_X11_number (1 : Int32) (6 : Int32) μ).bind (fun p3 =>
  lt p3.1 (fun x4 =>
  if 0 ≤ x4 then
  ((f_X11_number (1 : Int32) (40 : Int32) p3.2).bind (fun p8 =>
  lt p8.1 (fun x9 =>
  if 0 ≤ x9 then
  (lt ((6 : Int32) + ((5 : Int32) * (p8.2 140 10))) (fun x12 =>
  if inb x12 31 = true then
  lt (st p8.2 144 x12.toNatClampNeg i1) (fun m14 =>
  if inb (x12 + (1 : Int32)) 31 = true then
  lt (st m14 144 (x12 + (1 : Int32)).toNatClampNeg x4) (fun m17 =>
  if inb (x12 + (2 : Int32)) 31 = true then
  lt (st m17 144 (x12 + (2 : Int32)).toNatClampNeg x9) (fun m20 =>
  if inb (x12 + (3 : Int32)) 31 = true then
  lt (st m20 144 (x12 + (3 : Int32)).toNatClampNeg (m20 144 (4 : Int32).toNatClampNeg)) (fun m23 =>
  if inb (x12 + (4 : Int32)) 31 = true then
  lt (st m23 144 (x12 + (4 : Int32)).toNatClampNeg (m23 144 (5 : Int32).toNatClampNeg)) (fun m26 =>
  lt (st m26 140 10 ((m26 140 10) + (1 : Int32))) (fun m29 =>
  some ((1 : Int32), m29))) else none) else none) else none) else none) else none))
else
  (some ((0 : Int32), p8.2)))))
else
  (some ((0 : Int32), p3.2)))))
set_option maxRecDepth 100000 in
set_option maxHeartbeats 4000000 in
theorem c_X11_readSister {κ : Nat → Nat} {N : Nat} (hN : 151 ≤ N) (i1 : Int32)  (μ : gMem) {r : Int32} {μ' : gMem} (h : f_X11_readSister i1 μ = some (r, μ')) : CT2 κ N 4 yX11_readSister iX11_readSister [.ref (κ 0 + 140), .int i1] μ (qZ r μ') := by
  refine CT2.of (by decide) rfl rfl (Nat.le_of_ble_eq_true rfl) ?_
  unfold f_X11_readSister at h
  show RR κ N 4 iX11_readSister 0 [(0, .ref (κ 0 + 140)), (1, .int i1)] [] μ _
  refine g_aload_n (pc := 0) dX11_readSister_0 rfl rfl ?_
  refine gf_X11_95 (pc := 1) rfl dX11_readSister_1 (Nat.lt_of_lt_of_le (by decide) hN) kd_140 ?_
  refine g_iconst (pc := 4) (v := (5 : Int32)) dX11_readSister_4 rfl ?_
  refine g_icmp_ne (pc := 5) 10 dX11_readSister_5 (by decide) (fun hc1 => ?_) (fun hc1 => ?_)
  · rw [if_neg hc1] at h
    refine g_aload_n (pc := 10) dX11_readSister_10 rfl rfl ?_
    refine g_iconst (pc := 11) (v := (1 : Int32)) dX11_readSister_11 rfl ?_
    refine g_bipush (pc := 12) (v := (6 : Int32)) dX11_readSister_12 rfl ?_
    obtain ⟨p3, hp2, h⟩ := Option.bind_eq_some_iff.mp h
    refine r_callV (ci := 10) (pc := 14) (c_X11_number hN (1 : Int32) (6 : Int32) μ hp2) yV_X11_number ⟨rfl, by decide⟩ pX11_number mL_X11_98 dX11_readSister_14 (Nat.le_of_ble_eq_true rfl) (Nat.le_of_ble_eq_true rfl) (Nat.lt_of_lt_of_le (by decide) hN) kd_140 rfl (rK_i ?_)
    refine g_istore_n (pc := 17) (lv' := fun y => [(0, .ref (κ 0 + 140)), (1, .int i1), (2, .int y)]) dX11_readSister_17 rfl (Nat.le_of_ble_eq_true rfl) (fun _ => rfl) (fun x4 e5 => ?_)
    rw [lt_of e5] at h
    refine g_iload_n (pc := 18) dX11_readSister_18 rfl rfl ?_
    refine g_if_ge (pc := 19) 26 dX11_readSister_19 (by decide) (fun hc6 => ?_) (fun hc6 => ?_)
    · rw [if_pos hc6] at h
      refine g_aload_n (pc := 26) dX11_readSister_26 rfl rfl ?_
      refine g_iconst (pc := 27) (v := (1 : Int32)) dX11_readSister_27 rfl ?_
      refine g_bipush (pc := 28) (v := (40 : Int32)) dX11_readSister_28 rfl ?_
      obtain ⟨p8, hp7, h⟩ := Option.bind_eq_some_iff.mp h
      refine r_callV (ci := 10) (pc := 30) (c_X11_number hN (1 : Int32) (40 : Int32) p3.2 hp7) yV_X11_number ⟨rfl, by decide⟩ pX11_number mL_X11_98 dX11_readSister_30 (Nat.le_of_ble_eq_true rfl) (Nat.le_of_ble_eq_true rfl) (Nat.lt_of_lt_of_le (by decide) hN) kd_140 rfl (rK_i ?_)
      refine g_istore_n (pc := 33) (lv' := fun y => [(0, .ref (κ 0 + 140)), (1, .int i1), (2, .int x4), (3, .int y)]) dX11_readSister_33 rfl (Nat.le_of_ble_eq_true rfl) (fun _ => rfl) (fun x9 e10 => ?_)
      rw [lt_of e10] at h
      refine g_iload_n (pc := 34) dX11_readSister_34 rfl rfl ?_
      refine g_if_ge (pc := 35) 40 dX11_readSister_35 (by decide) (fun hc11 => ?_) (fun hc11 => ?_)
      · rw [if_pos hc11] at h
        refine g_bipush (pc := 40) (v := (6 : Int32)) dX11_readSister_40 rfl ?_
        refine g_iconst (pc := 42) (v := (5 : Int32)) dX11_readSister_42 rfl ?_
        refine g_aload_n (pc := 43) dX11_readSister_43 rfl rfl ?_
        refine gf_X11_95 (pc := 44) rfl dX11_readSister_44 (Nat.lt_of_lt_of_le (by decide) hN) kd_140 ?_
        refine g_imul (pc := 47) dX11_readSister_47 ?_
        refine g_iadd (pc := 48) dX11_readSister_48 ?_
        refine g_istore (pc := 49) (lv' := fun y => [(0, .ref (κ 0 + 140)), (1, .int i1), (2, .int x4), (3, .int x9), (4, .int y)]) dX11_readSister_49 (Nat.le_of_ble_eq_true rfl) (fun _ => rfl) (fun x12 e13 => ?_)
        rw [lt_of e13] at h
        refine g_aload_n (pc := 51) dX11_readSister_51 rfl rfl ?_
        refine gf_X11_19 (pc := 52) rfl dX11_readSister_52 (Nat.lt_of_lt_of_le (by decide) hN) kd_140 ?_
        refine g_iload (pc := 55) dX11_readSister_55 rfl ?_
        refine g_iload_n (pc := 57) dX11_readSister_57 rfl rfl ?_
        obtain ⟨hg16, h⟩ := gd_some h
        refine r_iast (pc := 58) 31 dX11_readSister_58 (Nat.lt_of_lt_of_le (by decide) hN) kd_144 ln_144 hg16 (fun m14 e15 => ?_)
        rw [lt_of e15] at h
        refine g_aload_n (pc := 59) dX11_readSister_59 rfl rfl ?_
        refine gf_X11_19 (pc := 60) rfl dX11_readSister_60 (Nat.lt_of_lt_of_le (by decide) hN) kd_140 ?_
        refine g_iload (pc := 63) dX11_readSister_63 rfl ?_
        refine g_iconst (pc := 65) (v := (1 : Int32)) dX11_readSister_65 rfl ?_
        refine g_iadd (pc := 66) dX11_readSister_66 ?_
        refine g_iload_n (pc := 67) dX11_readSister_67 rfl rfl ?_
        obtain ⟨hg19, h⟩ := gd_some h
        refine r_iast (pc := 68) 31 dX11_readSister_68 (Nat.lt_of_lt_of_le (by decide) hN) kd_144 ln_144 hg19 (fun m17 e18 => ?_)
        rw [lt_of e18] at h
        refine g_aload_n (pc := 69) dX11_readSister_69 rfl rfl ?_
        refine gf_X11_19 (pc := 70) rfl dX11_readSister_70 (Nat.lt_of_lt_of_le (by decide) hN) kd_140 ?_
        refine g_iload (pc := 73) dX11_readSister_73 rfl ?_
        refine g_iconst (pc := 75) (v := (2 : Int32)) dX11_readSister_75 rfl ?_
        refine g_iadd (pc := 76) dX11_readSister_76 ?_
        refine g_iload_n (pc := 77) dX11_readSister_77 rfl rfl ?_
        obtain ⟨hg22, h⟩ := gd_some h
        refine r_iast (pc := 78) 31 dX11_readSister_78 (Nat.lt_of_lt_of_le (by decide) hN) kd_144 ln_144 hg22 (fun m20 e21 => ?_)
        rw [lt_of e21] at h
        refine g_aload_n (pc := 79) dX11_readSister_79 rfl rfl ?_
        refine gf_X11_19 (pc := 80) rfl dX11_readSister_80 (Nat.lt_of_lt_of_le (by decide) hN) kd_140 ?_
        refine g_iload (pc := 83) dX11_readSister_83 rfl ?_
        refine g_iconst (pc := 85) (v := (3 : Int32)) dX11_readSister_85 rfl ?_
        refine g_iadd (pc := 86) dX11_readSister_86 ?_
        refine g_aload_n (pc := 87) dX11_readSister_87 rfl rfl ?_
        refine gf_X11_19 (pc := 88) rfl dX11_readSister_88 (Nat.lt_of_lt_of_le (by decide) hN) kd_140 ?_
        refine g_iconst (pc := 91) (v := (4 : Int32)) dX11_readSister_91 rfl ?_
        refine r_iald (pc := 92) 31 dX11_readSister_92 (Nat.lt_of_lt_of_le (by decide) hN) kd_144 ln_144 (by decide) ?_
        obtain ⟨hg25, h⟩ := gd_some h
        refine r_iast (pc := 93) 31 dX11_readSister_93 (Nat.lt_of_lt_of_le (by decide) hN) kd_144 ln_144 hg25 (fun m23 e24 => ?_)
        rw [lt_of e24] at h
        refine g_aload_n (pc := 94) dX11_readSister_94 rfl rfl ?_
        refine gf_X11_19 (pc := 95) rfl dX11_readSister_95 (Nat.lt_of_lt_of_le (by decide) hN) kd_140 ?_
        refine g_iload (pc := 98) dX11_readSister_98 rfl ?_
        refine g_iconst (pc := 100) (v := (4 : Int32)) dX11_readSister_100 rfl ?_
        refine g_iadd (pc := 101) dX11_readSister_101 ?_
        refine g_aload_n (pc := 102) dX11_readSister_102 rfl rfl ?_
        refine gf_X11_19 (pc := 103) rfl dX11_readSister_103 (Nat.lt_of_lt_of_le (by decide) hN) kd_140 ?_
        refine g_iconst (pc := 106) (v := (5 : Int32)) dX11_readSister_106 rfl ?_
        refine r_iald (pc := 107) 31 dX11_readSister_107 (Nat.lt_of_lt_of_le (by decide) hN) kd_144 ln_144 (by decide) ?_
        obtain ⟨hg28, h⟩ := gd_some h
        refine r_iast (pc := 108) 31 dX11_readSister_108 (Nat.lt_of_lt_of_le (by decide) hN) kd_144 ln_144 hg28 (fun m26 e27 => ?_)
        rw [lt_of e27] at h
        refine g_aload_n (pc := 109) dX11_readSister_109 rfl rfl ?_
        refine g_dup (pc := 110) dX11_readSister_110 rfl ?_
        refine gf_X11_95 (pc := 111) rfl dX11_readSister_111 (Nat.lt_of_lt_of_le (by decide) hN) kd_140 ?_
        refine g_iconst (pc := 114) (v := (1 : Int32)) dX11_readSister_114 rfl ?_
        refine g_iadd (pc := 115) dX11_readSister_115 ?_
        refine pf_X11_95 (pc := 116) rfl dX11_readSister_116 (Nat.lt_of_lt_of_le (by decide) hN) kd_140 (fun m29 e30 => ?_)
        rw [lt_of e30] at h
        refine g_iconst (pc := 119) (v := (1 : Int32)) dX11_readSister_119 rfl ?_
        cases h
        exact r_zret dX11_readSister_120 rfl rfl rfl rfl
      · rw [if_neg hc11] at h
        refine g_iconst (pc := 38) (v := (0 : Int32)) dX11_readSister_38 rfl ?_
        cases h
        exact r_zret dX11_readSister_39 rfl rfl rfl rfl
    · rw [if_neg hc6] at h
      refine g_iconst (pc := 22) (v := (-1 : Int32)) dX11_readSister_22 rfl ?_
      refine g_goto (pc := 23) 33 dX11_readSister_23 (by decide) ?_
      refine g_istore_n (pc := 33) (lv' := fun y => [(0, .ref (κ 0 + 140)), (1, .int i1), (2, .int x4), (3, .int y)]) dX11_readSister_33 rfl (Nat.le_of_ble_eq_true rfl) (fun _ => rfl) (fun y31 e32 => ?_)
      rw [e32]
      refine g_iload_n (pc := 34) dX11_readSister_34 rfl rfl ?_
      refine g_if_ge (pc := 35) 40 dX11_readSister_35 (by decide) (fun z33 => absurd z33 (by decide)) (fun _ => ?_)
      refine g_iconst (pc := 38) (v := (0 : Int32)) dX11_readSister_38 rfl ?_
      cases h
      exact r_zret dX11_readSister_39 rfl rfl rfl rfl
  · rw [if_pos hc1] at h
    refine g_iconst (pc := 8) (v := (0 : Int32)) dX11_readSister_8 rfl ?_
    cases h
    exact r_zret dX11_readSister_9 rfl rfl rfl rfl

def f_X11_takes (i1 : Int32) (i2 : Int32) (i3 : Int32) (μ : gMem) : Option (Int32 × gMem) :=
  (f_X11_number i2 i3 μ).bind (fun p2 =>
  lt p2.1 (fun x3 =>
  if 0 ≤ x3 then
  (if inb i1 31 = true then
  lt (st p2.2 144 i1.toNatClampNeg x3) (fun m6 =>
  lt (if x3 < 0 then (0 : Int32) else (1 : Int32)) (fun x9 =>
  some (x9, m6))) else none)
else
  (if inb i1 31 = true then
  lt (st p2.2 144 i1.toNatClampNeg (p2.2 144 i1.toNatClampNeg)) (fun m14 =>
  lt (if x3 < 0 then (0 : Int32) else (1 : Int32)) (fun x16 =>
  some (x16, m14))) else none)))
set_option maxRecDepth 100000 in
set_option maxHeartbeats 4000000 in
theorem c_X11_takes {κ : Nat → Nat} {N : Nat} (hN : 151 ≤ N) (i1 : Int32) (i2 : Int32) (i3 : Int32)  (μ : gMem) {r : Int32} {μ' : gMem} (h : f_X11_takes i1 i2 i3 μ = some (r, μ')) : CT2 κ N 4 yX11_takes iX11_takes [.ref (κ 0 + 140), .int i1, .int i2, .int i3] μ (qZ r μ') := by
  refine CT2.of (by decide) rfl rfl (Nat.le_of_ble_eq_true rfl) ?_
  unfold f_X11_takes at h
  show RR κ N 4 iX11_takes 0 [(0, .ref (κ 0 + 140)), (1, .int i1), (2, .int i2), (3, .int i3)] [] μ _
  refine g_aload_n (pc := 0) dX11_takes_0 rfl rfl ?_
  refine g_iload_n (pc := 1) dX11_takes_1 rfl rfl ?_
  refine g_iload_n (pc := 2) dX11_takes_2 rfl rfl ?_
  obtain ⟨p2, hp1, h⟩ := Option.bind_eq_some_iff.mp h
  refine r_callV (ci := 10) (pc := 3) (c_X11_number hN i2 i3 μ hp1) yV_X11_number ⟨rfl, by decide⟩ pX11_number mL_X11_98 dX11_takes_3 (Nat.le_of_ble_eq_true rfl) (Nat.le_of_ble_eq_true rfl) (Nat.lt_of_lt_of_le (by decide) hN) kd_140 rfl (rK_i ?_)
  refine g_istore (pc := 6) (lv' := fun y => [(0, .ref (κ 0 + 140)), (1, .int i1), (2, .int i2), (3, .int i3), (4, .int y)]) dX11_takes_6 (Nat.le_of_ble_eq_true rfl) (fun _ => rfl) (fun x3 e4 => ?_)
  rw [lt_of e4] at h
  refine g_aload_n (pc := 8) dX11_takes_8 rfl rfl ?_
  refine gf_X11_19 (pc := 9) rfl dX11_takes_9 (Nat.lt_of_lt_of_le (by decide) hN) kd_140 ?_
  refine g_iload_n (pc := 12) dX11_takes_12 rfl rfl ?_
  refine g_iload (pc := 13) dX11_takes_13 rfl ?_
  refine g_if_ge (pc := 15) 27 dX11_takes_15 (by decide) (fun hc5 => ?_) (fun hc5 => ?_)
  · rw [if_pos hc5] at h
    refine g_iload (pc := 27) dX11_takes_27 rfl ?_
    obtain ⟨hg8, h⟩ := gd_some h
    refine r_iast (pc := 29) 31 dX11_takes_29 (Nat.lt_of_lt_of_le (by decide) hN) kd_144 ln_144 hg8 (fun m6 e7 => ?_)
    rw [lt_of e7] at h
    refine g_iload (pc := 30) dX11_takes_30 rfl ?_
    have key11 : ∀ x9 : Int32, x9 = (if x3 < 0 then (0 : Int32) else (1 : Int32)) → RR κ N 4 iX11_takes 40 [(0, .ref (κ 0 + 140)), (1, .int i1), (2, .int i2), (3, .int i3), (4, .int x3)] [.int x9] m6 (qZ r μ') := by
      intro x9 e10
      rw [lt_of e10] at h
      cases h
      exact r_zret dX11_takes_40 rfl (nz_if' e10) rfl rfl
    refine g_if_lt (pc := 32) 39 dX11_takes_32 (by decide) (fun hc12 => ?_) (fun hc12 => ?_)
    · refine g_iconst (pc := 39) (v := (0 : Int32)) dX11_takes_39 rfl ?_
      exact key11 _ (by rw [if_pos hc12])
    · refine g_iconst (pc := 35) (v := (1 : Int32)) dX11_takes_35 rfl ?_
      refine g_goto (pc := 36) 40 dX11_takes_36 (by decide) ?_
      exact key11 _ (by rw [if_neg hc12])
  · rw [if_neg hc5] at h
    refine g_aload_n (pc := 18) dX11_takes_18 rfl rfl ?_
    refine gf_X11_19 (pc := 19) rfl dX11_takes_19 (Nat.lt_of_lt_of_le (by decide) hN) kd_140 ?_
    refine g_iload_n (pc := 22) dX11_takes_22 rfl rfl ?_
    obtain ⟨hg13, h⟩ := gd_some h
    refine r_iald (pc := 23) 31 dX11_takes_23 (Nat.lt_of_lt_of_le (by decide) hN) kd_144 ln_144 hg13 ?_
    refine g_goto (pc := 24) 29 dX11_takes_24 (by decide) ?_
    refine r_iast (pc := 29) 31 dX11_takes_29 (Nat.lt_of_lt_of_le (by decide) hN) kd_144 ln_144 hg13 (fun m14 e15 => ?_)
    rw [lt_of e15] at h
    refine g_iload (pc := 30) dX11_takes_30 rfl ?_
    have key18 : ∀ x16 : Int32, x16 = (if x3 < 0 then (0 : Int32) else (1 : Int32)) → RR κ N 4 iX11_takes 40 [(0, .ref (κ 0 + 140)), (1, .int i1), (2, .int i2), (3, .int i3), (4, .int x3)] [.int x16] m14 (qZ r μ') := by
      intro x16 e17
      rw [lt_of e17] at h
      cases h
      exact r_zret dX11_takes_40 rfl (nz_if' e17) rfl rfl
    refine g_if_lt (pc := 32) 39 dX11_takes_32 (by decide) (fun hc19 => ?_) (fun hc19 => ?_)
    · refine g_iconst (pc := 39) (v := (0 : Int32)) dX11_takes_39 rfl ?_
      exact key18 _ (by rw [if_pos hc19])
    · refine g_iconst (pc := 35) (v := (1 : Int32)) dX11_takes_35 rfl ?_
      refine g_goto (pc := 36) 40 dX11_takes_36 (by decide) ?_
      exact key18 _ (by rw [if_neg hc19])

def f_X11_readClause  (μ : gMem) : Option (Int32 × gMem) :=
  (f_X11_verb  μ).bind (fun p2 =>
  lt p2.1 (fun x3 =>
  if 0 ≤ x3 then
  (if (3 : Int32) ≤ x3 then
  (if (7 : Int32) ≤ x3 then
  (if x3 = (7 : Int32) then
  ((f_X11_asAtFirst 144 p2.2).bind (fun m34 =>
  lt (st m34 140 10 (0 : Int32)) (fun m35 =>
  some ((1 : Int32), m35))))
else
  (if x3 = (8 : Int32) then
  ((f_X11_takes (0 : Int32) (1 : Int32) (99 : Int32) p2.2).bind (fun p31 =>
  some (p31.1, p31.2)))
else
  (if x3 = (9 : Int32) then
  ((f_X11_takes (1 : Int32) (0 : Int32) (9 : Int32) p2.2).bind (fun p28 =>
  some (p28.1, p28.2)))
else
  (if x3 = (10 : Int32) then
  ((f_X11_takes (2 : Int32) (0 : Int32) (99 : Int32) p2.2).bind (fun p17 =>
  if p17.1 = 0 then
  (some ((0 : Int32), p17.2))
else
  ((f_X11_takes (3 : Int32) (p17.2 144 (2 : Int32).toNatClampNeg) (99 : Int32) p17.2).bind (fun p21 =>
  lt (if p21.1 = 0 then (0 : Int32) else (1 : Int32)) (fun x23 =>
  some (x23, p21.2))))))
else
  (lt (st p2.2 144 (2 : Int32).toNatClampNeg (-1 : Int32)) (fun m12 =>
  lt (st m12 144 (3 : Int32).toNatClampNeg (-1 : Int32)) (fun m14 =>
  some ((1 : Int32), m14))))))))
else
  (lt (st p2.2 144 (4 : Int32).toNatClampNeg (x3 - (3 : Int32))) (fun m37 =>
  (f_X11_takes (5 : Int32) (0 : Int32) (9 : Int32) m37).bind (fun p40 =>
  some (p40.1, p40.2)))))
else
  ((f_X11_readSister x3 p2.2).bind (fun p43 =>
  some (p43.1, p43.2))))
else
  (some ((0 : Int32), p2.2))))
set_option maxRecDepth 100000 in
set_option maxHeartbeats 4000000 in
theorem c_X11_readClause {κ : Nat → Nat} {N : Nat} (hN : 151 ≤ N)   (μ : gMem) {r : Int32} {μ' : gMem} (h : f_X11_readClause  μ = some (r, μ')) : CT2 κ N 5 yX11_readClause iX11_readClause [.ref (κ 0 + 140)] μ (qZ r μ') := by
  refine CT2.of (by decide) rfl rfl (Nat.le_of_ble_eq_true rfl) ?_
  unfold f_X11_readClause at h
  show RR κ N 5 iX11_readClause 0 [(0, .ref (κ 0 + 140))] [] μ _
  refine g_aload_n (pc := 0) dX11_readClause_0 rfl rfl ?_
  obtain ⟨p2, hp1, h⟩ := Option.bind_eq_some_iff.mp h
  refine r_callV (ci := 10) (pc := 1) (c_X11_verb hN  μ hp1) yV_X11_verb ⟨rfl, by decide⟩ pX11_verb mL_X11_102 dX11_readClause_1 (Nat.le_of_ble_eq_true rfl) (Nat.le_of_ble_eq_true rfl) (Nat.lt_of_lt_of_le (by decide) hN) kd_140 rfl (rK_i ?_)
  refine g_istore_n (pc := 4) (lv' := fun y => [(0, .ref (κ 0 + 140)), (1, .int y)]) dX11_readClause_4 rfl (Nat.le_of_ble_eq_true rfl) (fun _ => rfl) (fun x3 e4 => ?_)
  rw [lt_of e4] at h
  refine g_iload_n (pc := 5) dX11_readClause_5 rfl rfl ?_
  refine g_if_ge (pc := 6) 11 dX11_readClause_6 (by decide) (fun hc5 => ?_) (fun hc5 => ?_)
  · rw [if_pos hc5] at h
    refine g_iload_n (pc := 11) dX11_readClause_11 rfl rfl ?_
    refine g_iconst (pc := 12) (v := (3 : Int32)) dX11_readClause_12 rfl ?_
    refine g_icmp_ge (pc := 13) 22 dX11_readClause_13 (by decide) (fun hc6 => ?_) (fun hc6 => ?_)
    · rw [if_pos hc6] at h
      refine g_iload_n (pc := 22) dX11_readClause_22 rfl rfl ?_
      refine g_bipush (pc := 23) (v := (7 : Int32)) dX11_readClause_23 rfl ?_
      refine g_icmp_ge (pc := 25) 46 dX11_readClause_25 (by decide) (fun hc7 => ?_) (fun hc7 => ?_)
      · rw [if_pos hc7] at h
        refine g_iload_n (pc := 46) dX11_readClause_46 rfl rfl ?_
        refine g_bipush (pc := 47) (v := (7 : Int32)) dX11_readClause_47 rfl ?_
        refine g_icmp_ne (pc := 49) 66 dX11_readClause_49 (by decide) (fun hc8 => ?_) (fun hc8 => ?_)
        · rw [if_neg hc8] at h
          refine g_iload_n (pc := 66) dX11_readClause_66 rfl rfl ?_
          refine g_bipush (pc := 67) (v := (8 : Int32)) dX11_readClause_67 rfl ?_
          refine g_icmp_ne (pc := 69) 81 dX11_readClause_69 (by decide) (fun hc9 => ?_) (fun hc9 => ?_)
          · rw [if_neg hc9] at h
            refine g_iload_n (pc := 81) dX11_readClause_81 rfl rfl ?_
            refine g_bipush (pc := 82) (v := (9 : Int32)) dX11_readClause_82 rfl ?_
            refine g_icmp_ne (pc := 84) 96 dX11_readClause_84 (by decide) (fun hc10 => ?_) (fun hc10 => ?_)
            · rw [if_neg hc10] at h
              refine g_iload_n (pc := 96) dX11_readClause_96 rfl rfl ?_
              refine g_bipush (pc := 97) (v := (10 : Int32)) dX11_readClause_97 rfl ?_
              refine g_icmp_ne (pc := 99) 135 dX11_readClause_99 (by decide) (fun hc11 => ?_) (fun hc11 => ?_)
              · rw [if_neg hc11] at h
                refine g_aload_n (pc := 135) dX11_readClause_135 rfl rfl ?_
                refine gf_X11_19 (pc := 136) rfl dX11_readClause_136 (Nat.lt_of_lt_of_le (by decide) hN) kd_140 ?_
                refine g_iconst (pc := 139) (v := (2 : Int32)) dX11_readClause_139 rfl ?_
                refine g_iconst (pc := 140) (v := (-1 : Int32)) dX11_readClause_140 rfl ?_
                refine r_iast (pc := 141) 31 dX11_readClause_141 (Nat.lt_of_lt_of_le (by decide) hN) kd_144 ln_144 (by decide) (fun m12 e13 => ?_)
                rw [lt_of e13] at h
                refine g_aload_n (pc := 142) dX11_readClause_142 rfl rfl ?_
                refine gf_X11_19 (pc := 143) rfl dX11_readClause_143 (Nat.lt_of_lt_of_le (by decide) hN) kd_140 ?_
                refine g_iconst (pc := 146) (v := (3 : Int32)) dX11_readClause_146 rfl ?_
                refine g_iconst (pc := 147) (v := (-1 : Int32)) dX11_readClause_147 rfl ?_
                refine r_iast (pc := 148) 31 dX11_readClause_148 (Nat.lt_of_lt_of_le (by decide) hN) kd_144 ln_144 (by decide) (fun m14 e15 => ?_)
                rw [lt_of e15] at h
                refine g_iconst (pc := 149) (v := (1 : Int32)) dX11_readClause_149 rfl ?_
                cases h
                exact r_zret dX11_readClause_150 rfl rfl rfl rfl
              · rw [if_pos hc11] at h
                refine g_aload_n (pc := 102) dX11_readClause_102 rfl rfl ?_
                refine g_iconst (pc := 103) (v := (2 : Int32)) dX11_readClause_103 rfl ?_
                refine g_iconst (pc := 104) (v := (0 : Int32)) dX11_readClause_104 rfl ?_
                refine g_bipush (pc := 105) (v := (99 : Int32)) dX11_readClause_105 rfl ?_
                obtain ⟨p17, hp16, h⟩ := Option.bind_eq_some_iff.mp h
                refine r_callV (ci := 10) (pc := 107) (c_X11_takes hN (2 : Int32) (0 : Int32) (99 : Int32) p2.2 hp16) yV_X11_takes ⟨rfl, by decide⟩ pX11_takes mL_X11_110 dX11_readClause_107 (Nat.le_of_ble_eq_true rfl) (Nat.le_of_ble_eq_true rfl) (Nat.lt_of_lt_of_le (by decide) hN) kd_140 rfl (rK_z (fun hz18 => ?_))
                refine g_if_eq (pc := 110) 133 dX11_readClause_110 (by decide) (fun hc19 => ?_) (fun hc19 => ?_)
                · rw [if_pos hc19] at h
                  refine g_iconst (pc := 133) (v := (0 : Int32)) dX11_readClause_133 rfl ?_
                  cases h
                  exact r_zret dX11_readClause_134 rfl rfl rfl rfl
                · rw [if_neg hc19] at h
                  refine g_aload_n (pc := 113) dX11_readClause_113 rfl rfl ?_
                  refine g_iconst (pc := 114) (v := (3 : Int32)) dX11_readClause_114 rfl ?_
                  refine g_aload_n (pc := 115) dX11_readClause_115 rfl rfl ?_
                  refine gf_X11_19 (pc := 116) rfl dX11_readClause_116 (Nat.lt_of_lt_of_le (by decide) hN) kd_140 ?_
                  refine g_iconst (pc := 119) (v := (2 : Int32)) dX11_readClause_119 rfl ?_
                  refine r_iald (pc := 120) 31 dX11_readClause_120 (Nat.lt_of_lt_of_le (by decide) hN) kd_144 ln_144 (by decide) ?_
                  refine g_bipush (pc := 121) (v := (99 : Int32)) dX11_readClause_121 rfl ?_
                  obtain ⟨p21, hp20, h⟩ := Option.bind_eq_some_iff.mp h
                  refine r_callV (ci := 10) (pc := 123) (c_X11_takes hN (3 : Int32) (p17.2 144 (2 : Int32).toNatClampNeg) (99 : Int32) p17.2 hp20) yV_X11_takes ⟨rfl, by decide⟩ pX11_takes mL_X11_110 dX11_readClause_123 (Nat.le_of_ble_eq_true rfl) (Nat.le_of_ble_eq_true rfl) (Nat.lt_of_lt_of_le (by decide) hN) kd_140 rfl (rK_z (fun hz22 => ?_))
                  have key25 : ∀ x23 : Int32, x23 = (if p21.1 = 0 then (0 : Int32) else (1 : Int32)) → RR κ N 5 iX11_readClause 134 [(0, .ref (κ 0 + 140)), (1, .int x3)] [.int x23] p21.2 (qZ r μ') := by
                    intro x23 e24
                    rw [lt_of e24] at h
                    cases h
                    exact r_zret dX11_readClause_134 rfl (nz_if' e24) rfl rfl
                  refine g_if_eq (pc := 126) 133 dX11_readClause_126 (by decide) (fun hc26 => ?_) (fun hc26 => ?_)
                  · refine g_iconst (pc := 133) (v := (0 : Int32)) dX11_readClause_133 rfl ?_
                    exact key25 _ (by rw [if_pos hc26])
                  · refine g_iconst (pc := 129) (v := (1 : Int32)) dX11_readClause_129 rfl ?_
                    refine g_goto (pc := 130) 134 dX11_readClause_130 (by decide) ?_
                    exact key25 _ (by rw [if_neg hc26])
            · rw [if_pos hc10] at h
              refine g_aload_n (pc := 87) dX11_readClause_87 rfl rfl ?_
              refine g_iconst (pc := 88) (v := (1 : Int32)) dX11_readClause_88 rfl ?_
              refine g_iconst (pc := 89) (v := (0 : Int32)) dX11_readClause_89 rfl ?_
              refine g_bipush (pc := 90) (v := (9 : Int32)) dX11_readClause_90 rfl ?_
              obtain ⟨p28, hp27, h⟩ := Option.bind_eq_some_iff.mp h
              refine r_callV (ci := 10) (pc := 92) (c_X11_takes hN (1 : Int32) (0 : Int32) (9 : Int32) p2.2 hp27) yV_X11_takes ⟨rfl, by decide⟩ pX11_takes mL_X11_110 dX11_readClause_92 (Nat.le_of_ble_eq_true rfl) (Nat.le_of_ble_eq_true rfl) (Nat.lt_of_lt_of_le (by decide) hN) kd_140 rfl (rK_z (fun hz29 => ?_))
              cases h
              exact r_zret dX11_readClause_95 rfl hz29 rfl rfl
          · rw [if_pos hc9] at h
            refine g_aload_n (pc := 72) dX11_readClause_72 rfl rfl ?_
            refine g_iconst (pc := 73) (v := (0 : Int32)) dX11_readClause_73 rfl ?_
            refine g_iconst (pc := 74) (v := (1 : Int32)) dX11_readClause_74 rfl ?_
            refine g_bipush (pc := 75) (v := (99 : Int32)) dX11_readClause_75 rfl ?_
            obtain ⟨p31, hp30, h⟩ := Option.bind_eq_some_iff.mp h
            refine r_callV (ci := 10) (pc := 77) (c_X11_takes hN (0 : Int32) (1 : Int32) (99 : Int32) p2.2 hp30) yV_X11_takes ⟨rfl, by decide⟩ pX11_takes mL_X11_110 dX11_readClause_77 (Nat.le_of_ble_eq_true rfl) (Nat.le_of_ble_eq_true rfl) (Nat.lt_of_lt_of_le (by decide) hN) kd_140 rfl (rK_z (fun hz32 => ?_))
            cases h
            exact r_zret dX11_readClause_80 rfl hz32 rfl rfl
        · rw [if_pos hc8] at h
          refine g_aload_n (pc := 52) dX11_readClause_52 rfl rfl ?_
          refine gf_X11_19 (pc := 53) rfl dX11_readClause_53 (Nat.lt_of_lt_of_le (by decide) hN) kd_140 ?_
          obtain ⟨m34, hp33, h⟩ := Option.bind_eq_some_iff.mp h
          refine r_callS (pc := 56) (c_X11_asAtFirst hN 144 kd_144 (Nat.lt_of_lt_of_le (by decide) hN) ln_144 p2.2 hp33) yS_X11_asAtFirst pX11_asAtFirst mL_X11_41 dX11_readClause_56 (Nat.le_of_ble_eq_true rfl) (Nat.le_of_ble_eq_true rfl) rfl (rK_v ?_)
          refine g_aload_n (pc := 59) dX11_readClause_59 rfl rfl ?_
          refine g_iconst (pc := 60) (v := (0 : Int32)) dX11_readClause_60 rfl ?_
          refine pf_X11_95 (pc := 61) rfl dX11_readClause_61 (Nat.lt_of_lt_of_le (by decide) hN) kd_140 (fun m35 e36 => ?_)
          rw [lt_of e36] at h
          refine g_iconst (pc := 64) (v := (1 : Int32)) dX11_readClause_64 rfl ?_
          cases h
          exact r_zret dX11_readClause_65 rfl rfl rfl rfl
      · rw [if_neg hc7] at h
        refine g_aload_n (pc := 28) dX11_readClause_28 rfl rfl ?_
        refine gf_X11_19 (pc := 29) rfl dX11_readClause_29 (Nat.lt_of_lt_of_le (by decide) hN) kd_140 ?_
        refine g_iconst (pc := 32) (v := (4 : Int32)) dX11_readClause_32 rfl ?_
        refine g_iload_n (pc := 33) dX11_readClause_33 rfl rfl ?_
        refine g_iconst (pc := 34) (v := (3 : Int32)) dX11_readClause_34 rfl ?_
        refine g_isub (pc := 35) dX11_readClause_35 ?_
        refine r_iast (pc := 36) 31 dX11_readClause_36 (Nat.lt_of_lt_of_le (by decide) hN) kd_144 ln_144 (by decide) (fun m37 e38 => ?_)
        rw [lt_of e38] at h
        refine g_aload_n (pc := 37) dX11_readClause_37 rfl rfl ?_
        refine g_iconst (pc := 38) (v := (5 : Int32)) dX11_readClause_38 rfl ?_
        refine g_iconst (pc := 39) (v := (0 : Int32)) dX11_readClause_39 rfl ?_
        refine g_bipush (pc := 40) (v := (9 : Int32)) dX11_readClause_40 rfl ?_
        obtain ⟨p40, hp39, h⟩ := Option.bind_eq_some_iff.mp h
        refine r_callV (ci := 10) (pc := 42) (c_X11_takes hN (5 : Int32) (0 : Int32) (9 : Int32) m37 hp39) yV_X11_takes ⟨rfl, by decide⟩ pX11_takes mL_X11_110 dX11_readClause_42 (Nat.le_of_ble_eq_true rfl) (Nat.le_of_ble_eq_true rfl) (Nat.lt_of_lt_of_le (by decide) hN) kd_140 rfl (rK_z (fun hz41 => ?_))
        cases h
        exact r_zret dX11_readClause_45 rfl hz41 rfl rfl
    · rw [if_neg hc6] at h
      refine g_aload_n (pc := 16) dX11_readClause_16 rfl rfl ?_
      refine g_iload_n (pc := 17) dX11_readClause_17 rfl rfl ?_
      obtain ⟨p43, hp42, h⟩ := Option.bind_eq_some_iff.mp h
      refine r_callV (ci := 10) (pc := 18) (c_X11_readSister hN x3 p2.2 hp42) yV_X11_readSister ⟨rfl, by decide⟩ pX11_readSister mL_X11_106 dX11_readClause_18 (Nat.le_of_ble_eq_true rfl) (Nat.le_of_ble_eq_true rfl) (Nat.lt_of_lt_of_le (by decide) hN) kd_140 rfl (rK_z (fun hz44 => ?_))
      cases h
      exact r_zret dX11_readClause_21 rfl hz44 rfl rfl
  · rw [if_neg hc5] at h
    refine g_iconst (pc := 9) (v := (0 : Int32)) dX11_readClause_9 rfl ?_
    cases h
    exact r_zret dX11_readClause_10 rfl rfl rfl rfl

def l_X11_readText_20  : Nat → Int32 → gMem → Option (Int32 × gMem)
  | 0, _, _ => none
  | n + 1, i1, μ =>
  if (31 : Int32) ≤ i1 then
  (some (i1, μ))
else
  (if inb i1 31 = true then
  lt (st μ 144 i1.toNatClampNeg (μ 141 i1.toNatClampNeg)) (fun m11 =>
  lt (i1 + Int32.ofInt 1) (fun x13 =>
  l_X11_readText_20 n x13 m11)) else none)
def l_X11_readText_44 (i1 : Int32) : Nat → gMem → Option (Int32 × gMem)
  | 0, _ => none
  | n + 1, μ =>
  (f_X11_nextToken  μ).bind (fun m18 =>
  (f_X11_readClause  m18).bind (fun p20 =>
  if p20.1 = 0 then
  (some ((0 : Int32), p20.2))
else
  (lt (st p20.2 140 11 ((p20.2 140 11) + (1 : Int32))) (fun m23 =>
  (f_X11_nextToken  m23).bind (fun m26 =>
  if (m26 140 6) = (3 : Int32) then
  (some ((1 : Int32), m26))
else
  (if (m26 140 6) = 0 then
  (if (m26 140 7) = (59 : Int32) then
  (if (m26 140 11) = (14 : Int32) then
  (some ((0 : Int32), m26))
else
  (l_X11_readText_44 i1 n  m26))
else
  (some ((0 : Int32), m26)))
else
  (some ((0 : Int32), m26))))))))
def f_X11_readText  (μ : gMem) : Option (Int32 × gMem) :=
  lt (st μ 140 5 (0 : Int32)) (fun m1 =>
  lt (st m1 140 11 (0 : Int32)) (fun m3 =>
  lt (st m3 140 10 (m3 140 1)) (fun m5 =>
  (l_X11_readText_20 gF (0 : Int32) m5).bind (fun p15 =>
  l_X11_readText_44 p15.1 gF  p15.2))))
set_option maxRecDepth 100000 in
set_option maxHeartbeats 4000000 in
theorem cl_X11_readText_20 {κ : Nat → Nat} {N : Nat} {Q : rQ} (hN : 151 ≤ N)   : ∀ (n : Nat) (i1 : Int32) (μ : gMem) (p : Int32 × gMem), l_X11_readText_20 n i1 μ = some p → RR κ N 6 iX11_readText 44 [(0, .ref (κ 0 + 140)), (1, .int p.1)] [] p.2 Q → RR κ N 6 iX11_readText 20 [(0, .ref (κ 0 + 140)), (1, .int i1)] [] μ Q := by
  intro n
  induction n with
  | zero =>
    intro i1 μ p h k
    unfold l_X11_readText_20 at h
    cases h
  | succ n ih =>
    intro i1 μ p h k
    unfold l_X11_readText_20 at h
    refine g_iload_n (pc := 20) dX11_readText_20 rfl rfl ?_
    refine g_bipush (pc := 21) (v := (31 : Int32)) dX11_readText_21 rfl ?_
    refine g_icmp_ge (pc := 23) 44 dX11_readText_23 (by decide) (fun hc9 => ?_) (fun hc9 => ?_)
    · rw [if_pos hc9] at h
      cases h
      exact k
    · rw [if_neg hc9] at h
      refine g_aload_n (pc := 26) dX11_readText_26 rfl rfl ?_
      refine gf_X11_19 (pc := 27) rfl dX11_readText_27 (Nat.lt_of_lt_of_le (by decide) hN) kd_140 ?_
      refine g_iload_n (pc := 30) dX11_readText_30 rfl rfl ?_
      refine g_aload_n (pc := 31) dX11_readText_31 rfl rfl ?_
      refine gf_X11_7 (pc := 32) rfl dX11_readText_32 (Nat.lt_of_lt_of_le (by decide) hN) kd_140 ?_
      refine g_iload_n (pc := 35) dX11_readText_35 rfl rfl ?_
      obtain ⟨hg10, h⟩ := gd_some h
      refine r_iald (pc := 36) 31 dX11_readText_36 (Nat.lt_of_lt_of_le (by decide) hN) kd_141 ln_141 hg10 ?_
      refine r_iast (pc := 37) 31 dX11_readText_37 (Nat.lt_of_lt_of_le (by decide) hN) kd_144 ln_144 hg10 (fun m11 e12 => ?_)
      rw [lt_of e12] at h
      refine g_iinc (pc := 38) (lv' := fun y => [(0, .ref (κ 0 + 140)), (1, .int y)]) dX11_readText_38 rfl (Nat.le_of_ble_eq_true rfl) (fun _ => rfl) (fun x13 e14 => ?_)
      rw [lt_of e14] at h
      refine g_goto (pc := 41) 20 dX11_readText_41 (by decide) ?_
      refine g_lv (lv' := [(0, .ref (κ 0 + 140)), (1, .int x13)]) rfl ?_
      exact ih _ _ _ h k
set_option maxRecDepth 100000 in
set_option maxHeartbeats 4000000 in
theorem cl_X11_readText_44 {κ : Nat → Nat} {N : Nat} {r : Int32} {μ' : gMem} (hN : 151 ≤ N) (i1 : Int32)  : ∀ (n : Nat)  (μ : gMem), l_X11_readText_44 i1 n  μ = some (r, μ') → RR κ N 6 iX11_readText 44 [(0, .ref (κ 0 + 140)), (1, .int i1)] [] μ (qZ r μ') := by
  intro n
  induction n with
  | zero =>
    intro  μ h
    unfold l_X11_readText_44 at h
    cases h
  | succ n ih =>
    intro  μ h
    unfold l_X11_readText_44 at h
    refine g_aload_n (pc := 44) dX11_readText_44 rfl rfl ?_
    obtain ⟨m18, hp17, h⟩ := Option.bind_eq_some_iff.mp h
    refine r_callV (ci := 10) (pc := 45) (c_X11_nextToken hN  μ hp17) yV_X11_nextToken ⟨rfl, by decide⟩ pX11_nextToken mL_X11_92 dX11_readText_45 (Nat.le_of_ble_eq_true rfl) (Nat.le_of_ble_eq_true rfl) (Nat.lt_of_lt_of_le (by decide) hN) kd_140 rfl (rK_v ?_)
    refine g_aload_n (pc := 48) dX11_readText_48 rfl rfl ?_
    obtain ⟨p20, hp19, h⟩ := Option.bind_eq_some_iff.mp h
    refine r_callV (ci := 10) (pc := 49) (c_X11_readClause hN  m18 hp19) yV_X11_readClause ⟨rfl, by decide⟩ pX11_readClause mL_X11_117 dX11_readText_49 (Nat.le_of_ble_eq_true rfl) (Nat.le_of_ble_eq_true rfl) (Nat.lt_of_lt_of_le (by decide) hN) kd_140 rfl (rK_z (fun hz21 => ?_))
    refine g_if_ne (pc := 52) 57 dX11_readText_52 (by decide) (fun hc22 => ?_) (fun hc22 => ?_)
    · rw [if_neg hc22] at h
      refine g_aload_n (pc := 57) dX11_readText_57 rfl rfl ?_
      refine g_dup (pc := 58) dX11_readText_58 rfl ?_
      refine gf_X11_114 (pc := 59) rfl dX11_readText_59 (Nat.lt_of_lt_of_le (by decide) hN) kd_140 ?_
      refine g_iconst (pc := 62) (v := (1 : Int32)) dX11_readText_62 rfl ?_
      refine g_iadd (pc := 63) dX11_readText_63 ?_
      refine pf_X11_114 (pc := 64) rfl dX11_readText_64 (Nat.lt_of_lt_of_le (by decide) hN) kd_140 (fun m23 e24 => ?_)
      rw [lt_of e24] at h
      refine g_aload_n (pc := 67) dX11_readText_67 rfl rfl ?_
      obtain ⟨m26, hp25, h⟩ := Option.bind_eq_some_iff.mp h
      refine r_callV (ci := 10) (pc := 68) (c_X11_nextToken hN  m23 hp25) yV_X11_nextToken ⟨rfl, by decide⟩ pX11_nextToken mL_X11_92 dX11_readText_68 (Nat.le_of_ble_eq_true rfl) (Nat.le_of_ble_eq_true rfl) (Nat.lt_of_lt_of_le (by decide) hN) kd_140 rfl (rK_v ?_)
      refine g_aload_n (pc := 71) dX11_readText_71 rfl rfl ?_
      refine gf_X11_71 (pc := 72) rfl dX11_readText_72 (Nat.lt_of_lt_of_le (by decide) hN) kd_140 ?_
      refine g_iconst (pc := 75) (v := (3 : Int32)) dX11_readText_75 rfl ?_
      refine g_icmp_ne (pc := 76) 81 dX11_readText_76 (by decide) (fun hc27 => ?_) (fun hc27 => ?_)
      · rw [if_neg hc27] at h
        refine g_aload_n (pc := 81) dX11_readText_81 rfl rfl ?_
        refine gf_X11_71 (pc := 82) rfl dX11_readText_82 (Nat.lt_of_lt_of_le (by decide) hN) kd_140 ?_
        refine g_if_ne (pc := 85) 106 dX11_readText_85 (by decide) (fun hc28 => ?_) (fun hc28 => ?_)
        · rw [if_neg hc28] at h
          refine g_iconst (pc := 106) (v := (0 : Int32)) dX11_readText_106 rfl ?_
          cases h
          exact r_zret dX11_readText_107 rfl rfl rfl rfl
        · rw [if_pos hc28] at h
          refine g_aload_n (pc := 88) dX11_readText_88 rfl rfl ?_
          refine gf_X11_68 (pc := 89) rfl dX11_readText_89 (Nat.lt_of_lt_of_le (by decide) hN) kd_140 ?_
          refine g_bipush (pc := 92) (v := (59 : Int32)) dX11_readText_92 rfl ?_
          refine g_icmp_ne (pc := 94) 106 dX11_readText_94 (by decide) (fun hc29 => ?_) (fun hc29 => ?_)
          · rw [if_neg hc29] at h
            refine g_iconst (pc := 106) (v := (0 : Int32)) dX11_readText_106 rfl ?_
            cases h
            exact r_zret dX11_readText_107 rfl rfl rfl rfl
          · rw [if_pos hc29] at h
            refine g_aload_n (pc := 97) dX11_readText_97 rfl rfl ?_
            refine gf_X11_114 (pc := 98) rfl dX11_readText_98 (Nat.lt_of_lt_of_le (by decide) hN) kd_140 ?_
            refine g_bipush (pc := 101) (v := (14 : Int32)) dX11_readText_101 rfl ?_
            refine g_icmp_ne (pc := 103) 44 dX11_readText_103 (by decide) (fun hc30 => ?_) (fun hc30 => ?_)
            · rw [if_neg hc30] at h
              refine g_lv (lv' := [(0, .ref (κ 0 + 140)), (1, .int i1)]) rfl ?_
              exact ih  _ h
            · rw [if_pos hc30] at h
              refine g_iconst (pc := 106) (v := (0 : Int32)) dX11_readText_106 rfl ?_
              cases h
              exact r_zret dX11_readText_107 rfl rfl rfl rfl
      · rw [if_pos hc27] at h
        refine g_iconst (pc := 79) (v := (1 : Int32)) dX11_readText_79 rfl ?_
        cases h
        exact r_zret dX11_readText_80 rfl rfl rfl rfl
    · rw [if_pos hc22] at h
      refine g_iconst (pc := 55) (v := (0 : Int32)) dX11_readText_55 rfl ?_
      cases h
      exact r_zret dX11_readText_56 rfl rfl rfl rfl
set_option maxRecDepth 100000 in
set_option maxHeartbeats 4000000 in
theorem c_X11_readText {κ : Nat → Nat} {N : Nat} (hN : 151 ≤ N)   (μ : gMem) {r : Int32} {μ' : gMem} (h : f_X11_readText  μ = some (r, μ')) : CT2 κ N 6 yX11_readText iX11_readText [.ref (κ 0 + 140)] μ (qZ r μ') := by
  refine CT2.of (by decide) rfl rfl (Nat.le_of_ble_eq_true rfl) ?_
  unfold f_X11_readText at h
  show RR κ N 6 iX11_readText 0 [(0, .ref (κ 0 + 140))] [] μ _
  refine g_aload_n (pc := 0) dX11_readText_0 rfl rfl ?_
  refine g_iconst (pc := 1) (v := (0 : Int32)) dX11_readText_1 rfl ?_
  refine pf_X11_58 (pc := 2) rfl dX11_readText_2 (Nat.lt_of_lt_of_le (by decide) hN) kd_140 (fun m1 e2 => ?_)
  rw [lt_of e2] at h
  refine g_aload_n (pc := 5) dX11_readText_5 rfl rfl ?_
  refine g_iconst (pc := 6) (v := (0 : Int32)) dX11_readText_6 rfl ?_
  refine pf_X11_114 (pc := 7) rfl dX11_readText_7 (Nat.lt_of_lt_of_le (by decide) hN) kd_140 (fun m3 e4 => ?_)
  rw [lt_of e4] at h
  refine g_aload_n (pc := 10) dX11_readText_10 rfl rfl ?_
  refine g_aload_n (pc := 11) dX11_readText_11 rfl rfl ?_
  refine gf_X11_45 (pc := 12) rfl dX11_readText_12 (Nat.lt_of_lt_of_le (by decide) hN) kd_140 ?_
  refine pf_X11_95 (pc := 15) rfl dX11_readText_15 (Nat.lt_of_lt_of_le (by decide) hN) kd_140 (fun m5 e6 => ?_)
  rw [lt_of e6] at h
  refine g_iconst (pc := 18) (v := (0 : Int32)) dX11_readText_18 rfl ?_
  refine g_istore_n (pc := 19) (lv' := fun y => [(0, .ref (κ 0 + 140)), (1, .int y)]) dX11_readText_19 rfl (Nat.le_of_ble_eq_true rfl) (fun _ => rfl) (fun y7 e8 => ?_)
  rw [e8]
  obtain ⟨p15, hp16, h⟩ := Option.bind_eq_some_iff.mp h
  refine cl_X11_readText_20 hN   gF (0 : Int32) _ _ hp16 ?_
  exact cl_X11_readText_44 hN p15.1  gF  _ h

def f_X11_fault  (μ : gMem) : Option (Int32 × gMem) :=
  (f_X11_readText  μ).bind (fun p2 =>
  lt (if p2.1 = 0 then (p2.2 140 8) else (-1 : Int32)) (fun x4 =>
  some (x4, p2.2)))
set_option maxRecDepth 100000 in
set_option maxHeartbeats 4000000 in
theorem c_X11_fault {κ : Nat → Nat} {N : Nat} (hN : 151 ≤ N)   (μ : gMem) {r : Int32} {μ' : gMem} (h : f_X11_fault  μ = some (r, μ')) : CT2 κ N 7 yX11_fault iX11_fault [.ref (κ 0 + 140)] μ (qI r μ') := by
  refine CT2.of (by decide) rfl rfl (Nat.le_of_ble_eq_true rfl) ?_
  unfold f_X11_fault at h
  show RR κ N 7 iX11_fault 0 [(0, .ref (κ 0 + 140))] [] μ _
  refine g_aload_n (pc := 0) dX11_fault_0 rfl rfl ?_
  obtain ⟨p2, hp1, h⟩ := Option.bind_eq_some_iff.mp h
  refine r_callV (ci := 10) (pc := 1) (c_X11_readText hN  μ hp1) yV_X11_readText ⟨rfl, by decide⟩ pX11_readText mL_X11_121 dX11_fault_1 (Nat.le_of_ble_eq_true rfl) (Nat.le_of_ble_eq_true rfl) (Nat.lt_of_lt_of_le (by decide) hN) kd_140 rfl (rK_z (fun hz3 => ?_))
  have key6 : ∀ x4 : Int32, x4 = (if p2.1 = 0 then (p2.2 140 8) else (-1 : Int32)) → RR κ N 7 iX11_fault 15 [(0, .ref (κ 0 + 140))] [.int x4] p2.2 (qI r μ') := by
    intro x4 e5
    rw [lt_of e5] at h
    cases h
    exact r_iret dX11_fault_15 rfl rfl rfl
  refine g_if_eq (pc := 4) 11 dX11_fault_4 (by decide) (fun hc7 => ?_) (fun hc7 => ?_)
  · refine g_aload_n (pc := 11) dX11_fault_11 rfl rfl ?_
    refine gf_X11_65 (pc := 12) rfl dX11_fault_12 (Nat.lt_of_lt_of_le (by decide) hN) kd_140 ?_
    exact key6 _ (by rw [if_pos hc7])
  · refine g_iconst (pc := 7) (v := (-1 : Int32)) dX11_fault_7 rfl ?_
    refine g_goto (pc := 8) 15 dX11_fault_8 (by decide) ?_
    exact key6 _ (by rw [if_neg hc7])

def l_X11_anew_2  : Nat → Int32 → gMem → Option (Int32 × gMem)
  | 0, _, _ => none
  | n + 1, i1, μ =>
  if (35 : Int32) ≤ i1 then
  (some (i1, μ))
else
  (if inb i1 35 = true then
  lt (st μ 142 i1.toNatClampNeg (0 : Int32)) (fun m4 =>
  lt (i1 + Int32.ofInt 1) (fun x7 =>
  l_X11_anew_2 n x7 m4)) else none)
def f_X11_anew  (μ : gMem) : Option (gMem) :=
  (l_X11_anew_2 gF (0 : Int32) μ).bind (fun p9 =>
  lt (st p9.2 142 (32 : Int32).toNatClampNeg (p9.2 141 (1 : Int32).toNatClampNeg)) (fun m11 =>
  some m11))
set_option maxRecDepth 100000 in
set_option maxHeartbeats 4000000 in
theorem cl_X11_anew_2 {κ : Nat → Nat} {N : Nat} {Q : rQ} (hN : 151 ≤ N)   : ∀ (n : Nat) (i1 : Int32) (μ : gMem) (p : Int32 × gMem), l_X11_anew_2 n i1 μ = some p → RR κ N 1 iX11_anew 21 [(0, .ref (κ 0 + 140)), (1, .int p.1)] [] p.2 Q → RR κ N 1 iX11_anew 2 [(0, .ref (κ 0 + 140)), (1, .int i1)] [] μ Q := by
  intro n
  induction n with
  | zero =>
    intro i1 μ p h k
    unfold l_X11_anew_2 at h
    cases h
  | succ n ih =>
    intro i1 μ p h k
    unfold l_X11_anew_2 at h
    refine g_iload_n (pc := 2) dX11_anew_2 rfl rfl ?_
    refine g_bipush (pc := 3) (v := (35 : Int32)) dX11_anew_3 rfl ?_
    refine g_icmp_ge (pc := 5) 21 dX11_anew_5 (by decide) (fun hc3 => ?_) (fun hc3 => ?_)
    · rw [if_pos hc3] at h
      cases h
      exact k
    · rw [if_neg hc3] at h
      refine g_aload_n (pc := 8) dX11_anew_8 rfl rfl ?_
      refine gf_X11_13 (pc := 9) rfl dX11_anew_9 (Nat.lt_of_lt_of_le (by decide) hN) kd_140 ?_
      refine g_iload_n (pc := 12) dX11_anew_12 rfl rfl ?_
      refine g_iconst (pc := 13) (v := (0 : Int32)) dX11_anew_13 rfl ?_
      obtain ⟨hg6, h⟩ := gd_some h
      refine r_iast (pc := 14) 35 dX11_anew_14 (Nat.lt_of_lt_of_le (by decide) hN) kd_142 ln_142 hg6 (fun m4 e5 => ?_)
      rw [lt_of e5] at h
      refine g_iinc (pc := 15) (lv' := fun y => [(0, .ref (κ 0 + 140)), (1, .int y)]) dX11_anew_15 rfl (Nat.le_of_ble_eq_true rfl) (fun _ => rfl) (fun x7 e8 => ?_)
      rw [lt_of e8] at h
      refine g_goto (pc := 18) 2 dX11_anew_18 (by decide) ?_
      refine g_lv (lv' := [(0, .ref (κ 0 + 140)), (1, .int x7)]) rfl ?_
      exact ih _ _ _ h k
set_option maxRecDepth 100000 in
set_option maxHeartbeats 4000000 in
theorem c_X11_anew {κ : Nat → Nat} {N : Nat} (hN : 151 ≤ N)   (μ : gMem) {μ' : gMem} (h : f_X11_anew  μ = some μ') : CT2 κ N 1 yX11_anew iX11_anew [.ref (κ 0 + 140)] μ (qV μ') := by
  refine CT2.of (by decide) rfl rfl (Nat.le_of_ble_eq_true rfl) ?_
  unfold f_X11_anew at h
  show RR κ N 1 iX11_anew 0 [(0, .ref (κ 0 + 140))] [] μ _
  refine g_iconst (pc := 0) (v := (0 : Int32)) dX11_anew_0 rfl ?_
  refine g_istore_n (pc := 1) (lv' := fun y => [(0, .ref (κ 0 + 140)), (1, .int y)]) dX11_anew_1 rfl (Nat.le_of_ble_eq_true rfl) (fun _ => rfl) (fun y1 e2 => ?_)
  rw [e2]
  obtain ⟨p9, hp10, h⟩ := Option.bind_eq_some_iff.mp h
  refine cl_X11_anew_2 hN   gF (0 : Int32) _ _ hp10 ?_
  refine g_aload_n (pc := 21) dX11_anew_21 rfl rfl ?_
  refine gf_X11_13 (pc := 22) rfl dX11_anew_22 (Nat.lt_of_lt_of_le (by decide) hN) kd_140 ?_
  refine g_bipush (pc := 25) (v := (32 : Int32)) dX11_anew_25 rfl ?_
  refine g_aload_n (pc := 27) dX11_anew_27 rfl rfl ?_
  refine gf_X11_7 (pc := 28) rfl dX11_anew_28 (Nat.lt_of_lt_of_le (by decide) hN) kd_140 ?_
  refine g_iconst (pc := 31) (v := (1 : Int32)) dX11_anew_31 rfl ?_
  refine r_iald (pc := 32) 31 dX11_anew_32 (Nat.lt_of_lt_of_le (by decide) hN) kd_141 ln_141 (by decide) ?_
  refine r_iast (pc := 33) 35 dX11_anew_33 (Nat.lt_of_lt_of_le (by decide) hN) kd_142 ln_142 (by decide) (fun m11 e12 => ?_)
  rw [lt_of e12] at h
  cases h
  exact r_vret dX11_anew_34 rfl rfl

def f_X11_of (i1 : Int32) (i2 : Int32) (μ : gMem) : Option (Int32 × gMem) :=
  if inb (((6 : Int32) + ((5 : Int32) * i1)) + i2) 31 = true then
  some ((μ 141 (((6 : Int32) + ((5 : Int32) * i1)) + i2).toNatClampNeg), μ) else none
set_option maxRecDepth 100000 in
set_option maxHeartbeats 4000000 in
theorem c_X11_of {κ : Nat → Nat} {N : Nat} (hN : 151 ≤ N) (i1 : Int32) (i2 : Int32)  (μ : gMem) {r : Int32} {μ' : gMem} (h : f_X11_of i1 i2 μ = some (r, μ')) : CT2 κ N 1 yX11_of iX11_of [.ref (κ 0 + 140), .int i1, .int i2] μ (qI r μ') := by
  refine CT2.of (by decide) rfl rfl (Nat.le_of_ble_eq_true rfl) ?_
  unfold f_X11_of at h
  show RR κ N 1 iX11_of 0 [(0, .ref (κ 0 + 140)), (1, .int i1), (2, .int i2)] [] μ _
  refine g_aload_n (pc := 0) dX11_of_0 rfl rfl ?_
  refine gf_X11_7 (pc := 1) rfl dX11_of_1 (Nat.lt_of_lt_of_le (by decide) hN) kd_140 ?_
  refine g_bipush (pc := 4) (v := (6 : Int32)) dX11_of_4 rfl ?_
  refine g_iconst (pc := 6) (v := (5 : Int32)) dX11_of_6 rfl ?_
  refine g_iload_n (pc := 7) dX11_of_7 rfl rfl ?_
  refine g_imul (pc := 8) dX11_of_8 ?_
  refine g_iadd (pc := 9) dX11_of_9 ?_
  refine g_iload_n (pc := 10) dX11_of_10 rfl rfl ?_
  refine g_iadd (pc := 11) dX11_of_11 ?_
  obtain ⟨hg1, h⟩ := gd_some h
  refine r_iald (pc := 12) 31 dX11_of_12 (Nat.lt_of_lt_of_le (by decide) hN) kd_141 ln_141 hg1 ?_
  cases h
  exact r_iret dX11_of_13 rfl rfl rfl

def f_X11_walkOf (i1 : Int32) (μ : gMem) : Option (Int32 × gMem) :=
  (f_X11_of i1 (1 : Int32) μ).bind (fun p2 =>
  lt p2.1 (fun x3 =>
  (f_X11_of i1 (0 : Int32) p2.2).bind (fun p6 =>
  if p6.1 = (1 : Int32) then
  (if inb ((20 : Int32) + i1) 35 = true then
  if (p6.2 142 ((20 : Int32) + i1).toNatClampNeg) < (3 : Int32) then
  (lt (if x3 ≤ (1 : Int32) then (1 : Int32) else (x3 - (1 : Int32))) (fun x10 =>
  some (x10, p6.2)))
else
  (some ((x3 + (1 : Int32)), p6.2)) else none)
else
  (some (x3, p6.2)))))
set_option maxRecDepth 100000 in
set_option maxHeartbeats 4000000 in
theorem c_X11_walkOf {κ : Nat → Nat} {N : Nat} (hN : 151 ≤ N) (i1 : Int32)  (μ : gMem) {r : Int32} {μ' : gMem} (h : f_X11_walkOf i1 μ = some (r, μ')) : CT2 κ N 2 yX11_walkOf iX11_walkOf [.ref (κ 0 + 140), .int i1] μ (qI r μ') := by
  refine CT2.of (by decide) rfl rfl (Nat.le_of_ble_eq_true rfl) ?_
  unfold f_X11_walkOf at h
  show RR κ N 2 iX11_walkOf 0 [(0, .ref (κ 0 + 140)), (1, .int i1)] [] μ _
  refine g_aload_n (pc := 0) dX11_walkOf_0 rfl rfl ?_
  refine g_iload_n (pc := 1) dX11_walkOf_1 rfl rfl ?_
  refine g_iconst (pc := 2) (v := (1 : Int32)) dX11_walkOf_2 rfl ?_
  obtain ⟨p2, hp1, h⟩ := Option.bind_eq_some_iff.mp h
  refine r_callV (ci := 10) (pc := 3) (c_X11_of hN i1 (1 : Int32) μ hp1) yV_X11_of ⟨rfl, by decide⟩ pX11_of mL_X11_133 dX11_walkOf_3 (Nat.le_of_ble_eq_true rfl) (Nat.le_of_ble_eq_true rfl) (Nat.lt_of_lt_of_le (by decide) hN) kd_140 rfl (rK_i ?_)
  refine g_istore_n (pc := 6) (lv' := fun y => [(0, .ref (κ 0 + 140)), (1, .int i1), (2, .int y)]) dX11_walkOf_6 rfl (Nat.le_of_ble_eq_true rfl) (fun _ => rfl) (fun x3 e4 => ?_)
  rw [lt_of e4] at h
  refine g_aload_n (pc := 7) dX11_walkOf_7 rfl rfl ?_
  refine g_iload_n (pc := 8) dX11_walkOf_8 rfl rfl ?_
  refine g_iconst (pc := 9) (v := (0 : Int32)) dX11_walkOf_9 rfl ?_
  obtain ⟨p6, hp5, h⟩ := Option.bind_eq_some_iff.mp h
  refine r_callV (ci := 10) (pc := 10) (c_X11_of hN i1 (0 : Int32) p2.2 hp5) yV_X11_of ⟨rfl, by decide⟩ pX11_of mL_X11_133 dX11_walkOf_10 (Nat.le_of_ble_eq_true rfl) (Nat.le_of_ble_eq_true rfl) (Nat.lt_of_lt_of_le (by decide) hN) kd_140 rfl (rK_i ?_)
  refine g_iconst (pc := 13) (v := (1 : Int32)) dX11_walkOf_13 rfl ?_
  refine g_icmp_eq (pc := 14) 19 dX11_walkOf_14 (by decide) (fun hc7 => ?_) (fun hc7 => ?_)
  · rw [if_pos hc7] at h
    refine g_aload_n (pc := 19) dX11_walkOf_19 rfl rfl ?_
    refine gf_X11_13 (pc := 20) rfl dX11_walkOf_20 (Nat.lt_of_lt_of_le (by decide) hN) kd_140 ?_
    refine g_bipush (pc := 23) (v := (20 : Int32)) dX11_walkOf_23 rfl ?_
    refine g_iload_n (pc := 25) dX11_walkOf_25 rfl rfl ?_
    refine g_iadd (pc := 26) dX11_walkOf_26 ?_
    obtain ⟨hg8, h⟩ := gd_some h
    refine r_iald (pc := 27) 35 dX11_walkOf_27 (Nat.lt_of_lt_of_le (by decide) hN) kd_142 ln_142 hg8 ?_
    refine g_iconst (pc := 28) (v := (3 : Int32)) dX11_walkOf_28 rfl ?_
    refine g_icmp_lt (pc := 29) 38 dX11_walkOf_29 (by decide) (fun hc9 => ?_) (fun hc9 => ?_)
    · rw [if_pos hc9] at h
      refine g_iload_n (pc := 38) dX11_walkOf_38 rfl rfl ?_
      refine g_iconst (pc := 39) (v := (1 : Int32)) dX11_walkOf_39 rfl ?_
      have key12 : ∀ x10 : Int32, x10 = (if x3 ≤ (1 : Int32) then (1 : Int32) else (x3 - (1 : Int32))) → RR κ N 2 iX11_walkOf 50 [(0, .ref (κ 0 + 140)), (1, .int i1), (2, .int x3)] [.int x10] p6.2 (qI r μ') := by
        intro x10 e11
        rw [lt_of e11] at h
        cases h
        exact r_iret dX11_walkOf_50 rfl rfl rfl
      refine g_icmp_le (pc := 40) 49 dX11_walkOf_40 (by decide) (fun hc13 => ?_) (fun hc13 => ?_)
      · refine g_iconst (pc := 49) (v := (1 : Int32)) dX11_walkOf_49 rfl ?_
        exact key12 _ (by rw [if_pos hc13])
      · refine g_iload_n (pc := 43) dX11_walkOf_43 rfl rfl ?_
        refine g_iconst (pc := 44) (v := (1 : Int32)) dX11_walkOf_44 rfl ?_
        refine g_isub (pc := 45) dX11_walkOf_45 ?_
        refine g_goto (pc := 46) 50 dX11_walkOf_46 (by decide) ?_
        exact key12 _ (by rw [if_neg hc13])
    · rw [if_neg hc9] at h
      refine g_iload_n (pc := 32) dX11_walkOf_32 rfl rfl ?_
      refine g_iconst (pc := 33) (v := (1 : Int32)) dX11_walkOf_33 rfl ?_
      refine g_iadd (pc := 34) dX11_walkOf_34 ?_
      refine g_goto (pc := 35) 50 dX11_walkOf_35 (by decide) ?_
      cases h
      exact r_iret dX11_walkOf_50 rfl rfl rfl
  · rw [if_neg hc7] at h
    refine g_iload_n (pc := 17) dX11_walkOf_17 rfl rfl ?_
    cases h
    exact r_iret dX11_walkOf_18 rfl rfl rfl

def f_X11_dripOf (i1 : Int32) (μ : gMem) : Option (Int32 × gMem) :=
  (f_X11_of i1 (3 : Int32) μ).bind (fun p2 =>
  lt p2.1 (fun x3 =>
  (f_X11_of i1 (4 : Int32) p2.2).bind (fun p6 =>
  lt p6.1 (fun x7 =>
  lt (x7 / (2 : Int32)) (fun x9 =>
  if x3 = 0 then
  (some (x7, p6.2))
else
  (if x3 = (1 : Int32) then
  (some (x9, p6.2))
else
  (if x3 = (3 : Int32) then
  (some ((x7 + (2 : Int32)), p6.2))
else
  (lt (if x9 ≤ 0 then (0 : Int32) else (x9 - (1 : Int32))) (fun x14 =>
  some (x14, p6.2))))))))))
set_option maxRecDepth 100000 in
set_option maxHeartbeats 4000000 in
theorem c_X11_dripOf {κ : Nat → Nat} {N : Nat} (hN : 151 ≤ N) (i1 : Int32)  (μ : gMem) {r : Int32} {μ' : gMem} (h : f_X11_dripOf i1 μ = some (r, μ')) : CT2 κ N 2 yX11_dripOf iX11_dripOf [.ref (κ 0 + 140), .int i1] μ (qI r μ') := by
  refine CT2.of (by decide) rfl rfl (Nat.le_of_ble_eq_true rfl) ?_
  unfold f_X11_dripOf at h
  show RR κ N 2 iX11_dripOf 0 [(0, .ref (κ 0 + 140)), (1, .int i1)] [] μ _
  refine g_aload_n (pc := 0) dX11_dripOf_0 rfl rfl ?_
  refine g_iload_n (pc := 1) dX11_dripOf_1 rfl rfl ?_
  refine g_iconst (pc := 2) (v := (3 : Int32)) dX11_dripOf_2 rfl ?_
  obtain ⟨p2, hp1, h⟩ := Option.bind_eq_some_iff.mp h
  refine r_callV (ci := 10) (pc := 3) (c_X11_of hN i1 (3 : Int32) μ hp1) yV_X11_of ⟨rfl, by decide⟩ pX11_of mL_X11_133 dX11_dripOf_3 (Nat.le_of_ble_eq_true rfl) (Nat.le_of_ble_eq_true rfl) (Nat.lt_of_lt_of_le (by decide) hN) kd_140 rfl (rK_i ?_)
  refine g_istore_n (pc := 6) (lv' := fun y => [(0, .ref (κ 0 + 140)), (1, .int i1), (2, .int y)]) dX11_dripOf_6 rfl (Nat.le_of_ble_eq_true rfl) (fun _ => rfl) (fun x3 e4 => ?_)
  rw [lt_of e4] at h
  refine g_aload_n (pc := 7) dX11_dripOf_7 rfl rfl ?_
  refine g_iload_n (pc := 8) dX11_dripOf_8 rfl rfl ?_
  refine g_iconst (pc := 9) (v := (4 : Int32)) dX11_dripOf_9 rfl ?_
  obtain ⟨p6, hp5, h⟩ := Option.bind_eq_some_iff.mp h
  refine r_callV (ci := 10) (pc := 10) (c_X11_of hN i1 (4 : Int32) p2.2 hp5) yV_X11_of ⟨rfl, by decide⟩ pX11_of mL_X11_133 dX11_dripOf_10 (Nat.le_of_ble_eq_true rfl) (Nat.le_of_ble_eq_true rfl) (Nat.lt_of_lt_of_le (by decide) hN) kd_140 rfl (rK_i ?_)
  refine g_istore_n (pc := 13) (lv' := fun y => [(0, .ref (κ 0 + 140)), (1, .int i1), (2, .int x3), (3, .int y)]) dX11_dripOf_13 rfl (Nat.le_of_ble_eq_true rfl) (fun _ => rfl) (fun x7 e8 => ?_)
  rw [lt_of e8] at h
  refine g_iload_n (pc := 14) dX11_dripOf_14 rfl rfl ?_
  refine g_iconst (pc := 15) (v := (2 : Int32)) dX11_dripOf_15 rfl ?_
  refine g_idiv (pc := 16) dX11_dripOf_16 (by decide) ?_
  refine g_istore (pc := 17) (lv' := fun y => [(0, .ref (κ 0 + 140)), (1, .int i1), (2, .int x3), (3, .int x7), (4, .int y)]) dX11_dripOf_17 (Nat.le_of_ble_eq_true rfl) (fun _ => rfl) (fun x9 e10 => ?_)
  rw [lt_of e10] at h
  refine g_iload_n (pc := 19) dX11_dripOf_19 rfl rfl ?_
  refine g_if_ne (pc := 20) 27 dX11_dripOf_20 (by decide) (fun hc11 => ?_) (fun hc11 => ?_)
  · rw [if_neg hc11] at h
    refine g_iload_n (pc := 27) dX11_dripOf_27 rfl rfl ?_
    refine g_iconst (pc := 28) (v := (1 : Int32)) dX11_dripOf_28 rfl ?_
    refine g_icmp_ne (pc := 29) 37 dX11_dripOf_29 (by decide) (fun hc12 => ?_) (fun hc12 => ?_)
    · rw [if_neg hc12] at h
      refine g_iload_n (pc := 37) dX11_dripOf_37 rfl rfl ?_
      refine g_iconst (pc := 38) (v := (3 : Int32)) dX11_dripOf_38 rfl ?_
      refine g_icmp_ne (pc := 39) 48 dX11_dripOf_39 (by decide) (fun hc13 => ?_) (fun hc13 => ?_)
      · rw [if_neg hc13] at h
        refine g_iload (pc := 48) dX11_dripOf_48 rfl ?_
        have key16 : ∀ x14 : Int32, x14 = (if x9 ≤ 0 then (0 : Int32) else (x9 - (1 : Int32))) → RR κ N 2 iX11_dripOf 61 [(0, .ref (κ 0 + 140)), (1, .int i1), (2, .int x3), (3, .int x7), (4, .int x9)] [.int x14] p6.2 (qI r μ') := by
          intro x14 e15
          rw [lt_of e15] at h
          cases h
          exact r_iret dX11_dripOf_61 rfl rfl rfl
        refine g_if_le (pc := 50) 60 dX11_dripOf_50 (by decide) (fun hc17 => ?_) (fun hc17 => ?_)
        · refine g_iconst (pc := 60) (v := (0 : Int32)) dX11_dripOf_60 rfl ?_
          exact key16 _ (by rw [if_pos hc17])
        · refine g_iload (pc := 53) dX11_dripOf_53 rfl ?_
          refine g_iconst (pc := 55) (v := (1 : Int32)) dX11_dripOf_55 rfl ?_
          refine g_isub (pc := 56) dX11_dripOf_56 ?_
          refine g_goto (pc := 57) 61 dX11_dripOf_57 (by decide) ?_
          exact key16 _ (by rw [if_neg hc17])
      · rw [if_pos hc13] at h
        refine g_iload_n (pc := 42) dX11_dripOf_42 rfl rfl ?_
        refine g_iconst (pc := 43) (v := (2 : Int32)) dX11_dripOf_43 rfl ?_
        refine g_iadd (pc := 44) dX11_dripOf_44 ?_
        refine g_goto (pc := 45) 61 dX11_dripOf_45 (by decide) ?_
        cases h
        exact r_iret dX11_dripOf_61 rfl rfl rfl
    · rw [if_pos hc12] at h
      refine g_iload (pc := 32) dX11_dripOf_32 rfl ?_
      refine g_goto (pc := 34) 61 dX11_dripOf_34 (by decide) ?_
      cases h
      exact r_iret dX11_dripOf_61 rfl rfl rfl
  · rw [if_pos hc11] at h
    refine g_iload_n (pc := 23) dX11_dripOf_23 rfl rfl ?_
    refine g_goto (pc := 24) 61 dX11_dripOf_24 (by decide) ?_
    cases h
    exact r_iret dX11_dripOf_61 rfl rfl rfl

def f_X11_dripNow (i1 : Int32) (μ : gMem) : Option (Int32 × gMem) :=
  (f_X11_in ((μ 142 (30 : Int32).toNatClampNeg).toInt64) ((μ 141 (2 : Int32).toNatClampNeg).toInt64) ((μ 141 (3 : Int32).toNatClampNeg).toInt64) μ).bind (fun p2 =>
  if p2.1 = 0 then
  (if inb ((25 : Int32) + i1) 35 = true then
  if (p2.2 142 ((25 : Int32) + i1).toNatClampNeg) ≤ (p2.2 142 (30 : Int32).toNatClampNeg) then
  ((f_X11_dripOf i1 p2.2).bind (fun p8 =>
  some (p8.1, p8.2)))
else
  ((f_X11_dripOf i1 p2.2).bind (fun p10 =>
  some ((p10.1 / (2 : Int32)), p10.2))) else none)
else
  (some ((0 : Int32), p2.2)))
set_option maxRecDepth 100000 in
set_option maxHeartbeats 4000000 in
theorem c_X11_dripNow {κ : Nat → Nat} {N : Nat} (hN : 151 ≤ N) (i1 : Int32)  (μ : gMem) {r : Int32} {μ' : gMem} (h : f_X11_dripNow i1 μ = some (r, μ')) : CT2 κ N 3 yX11_dripNow iX11_dripNow [.ref (κ 0 + 140), .int i1] μ (qI r μ') := by
  refine CT2.of (by decide) rfl rfl (Nat.le_of_ble_eq_true rfl) ?_
  unfold f_X11_dripNow at h
  show RR κ N 3 iX11_dripNow 0 [(0, .ref (κ 0 + 140)), (1, .int i1)] [] μ _
  refine g_aload_n (pc := 0) dX11_dripNow_0 rfl rfl ?_
  refine gf_X11_13 (pc := 1) rfl dX11_dripNow_1 (Nat.lt_of_lt_of_le (by decide) hN) kd_140 ?_
  refine g_bipush (pc := 4) (v := (30 : Int32)) dX11_dripNow_4 rfl ?_
  refine r_iald (pc := 6) 35 dX11_dripNow_6 (Nat.lt_of_lt_of_le (by decide) hN) kd_142 ln_142 (by decide) ?_
  refine g_i2l (pc := 7) dX11_dripNow_7 ?_
  refine g_aload_n (pc := 8) dX11_dripNow_8 rfl rfl ?_
  refine gf_X11_7 (pc := 9) rfl dX11_dripNow_9 (Nat.lt_of_lt_of_le (by decide) hN) kd_140 ?_
  refine g_iconst (pc := 12) (v := (2 : Int32)) dX11_dripNow_12 rfl ?_
  refine r_iald (pc := 13) 31 dX11_dripNow_13 (Nat.lt_of_lt_of_le (by decide) hN) kd_141 ln_141 (by decide) ?_
  refine g_i2l (pc := 14) dX11_dripNow_14 ?_
  refine g_aload_n (pc := 15) dX11_dripNow_15 rfl rfl ?_
  refine gf_X11_7 (pc := 16) rfl dX11_dripNow_16 (Nat.lt_of_lt_of_le (by decide) hN) kd_140 ?_
  refine g_iconst (pc := 19) (v := (3 : Int32)) dX11_dripNow_19 rfl ?_
  refine r_iald (pc := 20) 31 dX11_dripNow_20 (Nat.lt_of_lt_of_le (by decide) hN) kd_141 ln_141 (by decide) ?_
  refine g_i2l (pc := 21) dX11_dripNow_21 ?_
  obtain ⟨p2, hp1, h⟩ := Option.bind_eq_some_iff.mp h
  refine r_callS (pc := 22) (c_X11_in hN ((μ 142 (30 : Int32).toNatClampNeg).toInt64) ((μ 141 (2 : Int32).toNatClampNeg).toInt64) ((μ 141 (3 : Int32).toNatClampNeg).toInt64) μ hp1) yS_X11_in pX11_in mL_X11_49 dX11_dripNow_22 (Nat.le_of_ble_eq_true rfl) (Nat.le_of_ble_eq_true rfl) rfl (rK_z (fun hz3 => ?_))
  refine g_if_eq (pc := 25) 30 dX11_dripNow_25 (by decide) (fun hc4 => ?_) (fun hc4 => ?_)
  · rw [if_pos hc4] at h
    refine g_aload_n (pc := 30) dX11_dripNow_30 rfl rfl ?_
    refine gf_X11_13 (pc := 31) rfl dX11_dripNow_31 (Nat.lt_of_lt_of_le (by decide) hN) kd_140 ?_
    refine g_bipush (pc := 34) (v := (25 : Int32)) dX11_dripNow_34 rfl ?_
    refine g_iload_n (pc := 36) dX11_dripNow_36 rfl rfl ?_
    refine g_iadd (pc := 37) dX11_dripNow_37 ?_
    obtain ⟨hg5, h⟩ := gd_some h
    refine r_iald (pc := 38) 35 dX11_dripNow_38 (Nat.lt_of_lt_of_le (by decide) hN) kd_142 ln_142 hg5 ?_
    refine g_aload_n (pc := 39) dX11_dripNow_39 rfl rfl ?_
    refine gf_X11_13 (pc := 40) rfl dX11_dripNow_40 (Nat.lt_of_lt_of_le (by decide) hN) kd_140 ?_
    refine g_bipush (pc := 43) (v := (30 : Int32)) dX11_dripNow_43 rfl ?_
    refine r_iald (pc := 45) 35 dX11_dripNow_45 (Nat.lt_of_lt_of_le (by decide) hN) kd_142 ln_142 (by decide) ?_
    refine g_icmp_le (pc := 46) 59 dX11_dripNow_46 (by decide) (fun hc6 => ?_) (fun hc6 => ?_)
    · rw [if_pos hc6] at h
      refine g_aload_n (pc := 59) dX11_dripNow_59 rfl rfl ?_
      refine g_iload_n (pc := 60) dX11_dripNow_60 rfl rfl ?_
      obtain ⟨p8, hp7, h⟩ := Option.bind_eq_some_iff.mp h
      refine r_callV (ci := 10) (pc := 61) (c_X11_dripOf hN i1 p2.2 hp7) yV_X11_dripOf ⟨rfl, by decide⟩ pX11_dripOf mL_X11_136 dX11_dripNow_61 (Nat.le_of_ble_eq_true rfl) (Nat.le_of_ble_eq_true rfl) (Nat.lt_of_lt_of_le (by decide) hN) kd_140 rfl (rK_i ?_)
      cases h
      exact r_iret dX11_dripNow_64 rfl rfl rfl
    · rw [if_neg hc6] at h
      refine g_aload_n (pc := 49) dX11_dripNow_49 rfl rfl ?_
      refine g_iload_n (pc := 50) dX11_dripNow_50 rfl rfl ?_
      obtain ⟨p10, hp9, h⟩ := Option.bind_eq_some_iff.mp h
      refine r_callV (ci := 10) (pc := 51) (c_X11_dripOf hN i1 p2.2 hp9) yV_X11_dripOf ⟨rfl, by decide⟩ pX11_dripOf mL_X11_136 dX11_dripNow_51 (Nat.le_of_ble_eq_true rfl) (Nat.le_of_ble_eq_true rfl) (Nat.lt_of_lt_of_le (by decide) hN) kd_140 rfl (rK_i ?_)
      refine g_iconst (pc := 54) (v := (2 : Int32)) dX11_dripNow_54 rfl ?_
      refine g_idiv (pc := 55) dX11_dripNow_55 (by decide) ?_
      refine g_goto (pc := 56) 64 dX11_dripNow_56 (by decide) ?_
      cases h
      exact r_iret dX11_dripNow_64 rfl rfl rfl
  · rw [if_neg hc4] at h
    refine g_iconst (pc := 28) (v := (0 : Int32)) dX11_dripNow_28 rfl ?_
    cases h
    exact r_iret dX11_dripNow_29 rfl rfl rfl

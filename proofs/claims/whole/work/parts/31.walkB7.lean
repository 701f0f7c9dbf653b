def l_X11_well_25  : Nat → Int32 → gMem → Option (Int32 × gMem)
  | 0, _, _ => none
  | n + 1, i1, μ =>
  if (31 : Int32) ≤ i1 then
  (some (i1, μ))
else
  (if inb i1 31 = true then
  lt (st μ 141 i1.toNatClampNeg (μ 144 i1.toNatClampNeg)) (fun m13 =>
  lt (i1 + Int32.ofInt 1) (fun x15 =>
  l_X11_well_25 n x15 m13)) else none)
def f_X11_well  (μ : gMem) : Option (Int32 × gMem) :=
  (f_X11_readText  μ).bind (fun p2 =>
  if p2.1 = 0 then
  (some ((-4 : Int32), p2.2))
else
  (lt (st p2.2 140 4 (0 : Int32)) (fun m5 =>
  lt (st m5 140 1 (m5 140 10)) (fun m7 =>
  (l_X11_well_25 gF (0 : Int32) m7).bind (fun p17 =>
  (f_X11_anew  p17.2).bind (fun m20 =>
  lt (st m20 140 19 (0 : Int32)) (fun m21 =>
  lt (st m21 140 13 (0 : Int32)) (fun m23 =>
  lt (st m23 146 (0 : Int32).toNatClampNeg (0 : Int32)) (fun m25 =>
  lt (st m25 146 (1 : Int32).toNatClampNeg (0 : Int32)) (fun m27 =>
  some ((m27 140 11), m27)))))))))))
set_option maxRecDepth 100000 in
set_option maxHeartbeats 4000000 in
theorem cl_X11_well_25 {κ : Nat → Nat} {N : Nat} {Q : rQ} (hN : 151 ≤ N)   : ∀ (n : Nat) (i1 : Int32) (μ : gMem) (p : Int32 × gMem), l_X11_well_25 n i1 μ = some p → RR κ N 7 iX11_well 49 [(0, .ref (κ 0 + 140)), (1, .int p.1)] [] p.2 Q → RR κ N 7 iX11_well 25 [(0, .ref (κ 0 + 140)), (1, .int i1)] [] μ Q := by
  intro n
  induction n with
  | zero =>
    intro i1 μ p h k
    unfold l_X11_well_25 at h
    cases h
  | succ n ih =>
    intro i1 μ p h k
    unfold l_X11_well_25 at h
    refine g_iload_n (pc := 25) dX11_well_25 rfl rfl ?_
    refine g_bipush (pc := 26) (v := (31 : Int32)) dX11_well_26 rfl ?_
    refine g_icmp_ge (pc := 28) 49 dX11_well_28 (by decide) (fun hc11 => ?_) (fun hc11 => ?_)
    · rw [if_pos hc11] at h
      cases h
      exact k
    · rw [if_neg hc11] at h
      refine g_aload_n (pc := 31) dX11_well_31 rfl rfl ?_
      refine gf_X11_7 (pc := 32) rfl dX11_well_32 (Nat.lt_of_lt_of_le (by decide) hN) kd_140 ?_
      refine g_iload_n (pc := 35) dX11_well_35 rfl rfl ?_
      refine g_aload_n (pc := 36) dX11_well_36 rfl rfl ?_
      refine gf_X11_19 (pc := 37) rfl dX11_well_37 (Nat.lt_of_lt_of_le (by decide) hN) kd_140 ?_
      refine g_iload_n (pc := 40) dX11_well_40 rfl rfl ?_
      obtain ⟨hg12, h⟩ := gd_some h
      refine r_iald (pc := 41) 31 dX11_well_41 (Nat.lt_of_lt_of_le (by decide) hN) kd_144 ln_144 hg12 ?_
      refine r_iast (pc := 42) 31 dX11_well_42 (Nat.lt_of_lt_of_le (by decide) hN) kd_141 ln_141 hg12 (fun m13 e14 => ?_)
      rw [lt_of e14] at h
      refine g_iinc (pc := 43) (lv' := fun y => [(0, .ref (κ 0 + 140)), (1, .int y)]) dX11_well_43 rfl (Nat.le_of_ble_eq_true rfl) (fun _ => rfl) (fun x15 e16 => ?_)
      rw [lt_of e16] at h
      refine g_goto (pc := 46) 25 dX11_well_46 (by decide) ?_
      refine g_lv (lv' := [(0, .ref (κ 0 + 140)), (1, .int x15)]) rfl ?_
      exact ih _ _ _ h k
set_option maxRecDepth 100000 in
set_option maxHeartbeats 4000000 in
theorem c_X11_well {κ : Nat → Nat} {N : Nat} (hN : 151 ≤ N)   (μ : gMem) {r : Int32} {μ' : gMem} (h : f_X11_well  μ = some (r, μ')) : CT2 κ N 7 yX11_well iX11_well [.ref (κ 0 + 140)] μ (qI r μ') := by
  refine CT2.of (by decide) rfl rfl (Nat.le_of_ble_eq_true rfl) ?_
  unfold f_X11_well at h
  show RR κ N 7 iX11_well 0 [(0, .ref (κ 0 + 140))] [] μ _
  refine g_aload_n (pc := 0) dX11_well_0 rfl rfl ?_
  obtain ⟨p2, hp1, h⟩ := Option.bind_eq_some_iff.mp h
  refine r_callV (ci := 10) (pc := 1) (c_X11_readText hN  μ hp1) yV_X11_readText ⟨rfl, by decide⟩ pX11_readText mL_X11_121 dX11_well_1 (Nat.le_of_ble_eq_true rfl) (Nat.le_of_ble_eq_true rfl) (Nat.lt_of_lt_of_le (by decide) hN) kd_140 rfl (rK_z (fun hz3 => ?_))
  refine g_if_ne (pc := 4) 10 dX11_well_4 (by decide) (fun hc4 => ?_) (fun hc4 => ?_)
  · rw [if_neg hc4] at h
    refine g_aload_n (pc := 10) dX11_well_10 rfl rfl ?_
    refine g_iconst (pc := 11) (v := (0 : Int32)) dX11_well_11 rfl ?_
    refine pf_X11_55 (pc := 12) rfl dX11_well_12 (Nat.lt_of_lt_of_le (by decide) hN) kd_140 (fun m5 e6 => ?_)
    rw [lt_of e6] at h
    refine g_aload_n (pc := 15) dX11_well_15 rfl rfl ?_
    refine g_aload_n (pc := 16) dX11_well_16 rfl rfl ?_
    refine gf_X11_95 (pc := 17) rfl dX11_well_17 (Nat.lt_of_lt_of_le (by decide) hN) kd_140 ?_
    refine pf_X11_45 (pc := 20) rfl dX11_well_20 (Nat.lt_of_lt_of_le (by decide) hN) kd_140 (fun m7 e8 => ?_)
    rw [lt_of e8] at h
    refine g_iconst (pc := 23) (v := (0 : Int32)) dX11_well_23 rfl ?_
    refine g_istore_n (pc := 24) (lv' := fun y => [(0, .ref (κ 0 + 140)), (1, .int y)]) dX11_well_24 rfl (Nat.le_of_ble_eq_true rfl) (fun _ => rfl) (fun y9 e10 => ?_)
    rw [e10]
    obtain ⟨p17, hp18, h⟩ := Option.bind_eq_some_iff.mp h
    refine cl_X11_well_25 hN   gF (0 : Int32) _ _ hp18 ?_
    refine g_aload_n (pc := 49) dX11_well_49 rfl rfl ?_
    obtain ⟨m20, hp19, h⟩ := Option.bind_eq_some_iff.mp h
    refine r_callV (ci := 10) (pc := 50) (c_X11_anew hN  p17.2 hp19) yV_X11_anew ⟨rfl, by decide⟩ pX11_anew mL_X11_124 dX11_well_50 (Nat.le_of_ble_eq_true rfl) (Nat.le_of_ble_eq_true rfl) (Nat.lt_of_lt_of_le (by decide) hN) kd_140 rfl (rK_v ?_)
    refine g_aload_n (pc := 53) dX11_well_53 rfl rfl ?_
    refine g_iconst (pc := 54) (v := (0 : Int32)) dX11_well_54 rfl ?_
    refine pf_X11_127 (pc := 55) rfl dX11_well_55 (Nat.lt_of_lt_of_le (by decide) hN) kd_140 (fun m21 e22 => ?_)
    rw [lt_of e22] at h
    refine g_aload_n (pc := 58) dX11_well_58 rfl rfl ?_
    refine g_iconst (pc := 59) (v := (0 : Int32)) dX11_well_59 rfl ?_
    refine pf_X11_130 (pc := 60) rfl dX11_well_60 (Nat.lt_of_lt_of_le (by decide) hN) kd_140 (fun m23 e24 => ?_)
    rw [lt_of e24] at h
    refine g_aload_n (pc := 63) dX11_well_63 rfl rfl ?_
    refine gf_X11_25 (pc := 64) rfl dX11_well_64 (Nat.lt_of_lt_of_le (by decide) hN) kd_140 ?_
    refine g_iconst (pc := 67) (v := (0 : Int32)) dX11_well_67 rfl ?_
    refine g_iconst (pc := 68) (v := (0 : Int32)) dX11_well_68 rfl ?_
    refine r_zast (pc := 69) 2 dX11_well_69 (Nat.lt_of_lt_of_le (by decide) hN) kd_146 ln_146 (by decide) rfl (fun m25 e26 => ?_)
    rw [lt_of e26] at h
    refine g_aload_n (pc := 70) dX11_well_70 rfl rfl ?_
    refine gf_X11_25 (pc := 71) rfl dX11_well_71 (Nat.lt_of_lt_of_le (by decide) hN) kd_140 ?_
    refine g_iconst (pc := 74) (v := (1 : Int32)) dX11_well_74 rfl ?_
    refine g_iconst (pc := 75) (v := (0 : Int32)) dX11_well_75 rfl ?_
    refine r_zast (pc := 76) 2 dX11_well_76 (Nat.lt_of_lt_of_le (by decide) hN) kd_146 ln_146 (by decide) rfl (fun m27 e28 => ?_)
    rw [lt_of e28] at h
    refine g_aload_n (pc := 77) dX11_well_77 rfl rfl ?_
    refine gf_X11_114 (pc := 78) rfl dX11_well_78 (Nat.lt_of_lt_of_le (by decide) hN) kd_140 ?_
    cases h
    exact r_iret dX11_well_81 rfl rfl rfl
  · rw [if_pos hc4] at h
    refine g_bipush (pc := 7) (v := (-4 : Int32)) dX11_well_7 rfl ?_
    cases h
    exact r_iret dX11_well_9 rfl rfl rfl

def f_X11_pitch (i1 : Int32) (μ : gMem) : Option (Int32 × gMem) :=
  (f_X11_in i1.toInt64 (0 : Int64) (9 : Int64) μ).bind (fun p2 =>
  if p2.1 = 0 then
  (some ((-3 : Int32), p2.2))
else
  ((f_X11_putAside  p2.2).bind (fun m6 =>
  (f_X11_less (m6 142 (32 : Int32).toNatClampNeg) i1 m6).bind (fun p8 =>
  lt (st p8.2 142 (32 : Int32).toNatClampNeg p8.1) (fun m9 =>
  (f_X11_fullIn (99 : Int32) m9).bind (fun p12 =>
  some (p12.1, p12.2)))))))
set_option maxRecDepth 100000 in
set_option maxHeartbeats 4000000 in
theorem c_X11_pitch {κ : Nat → Nat} {N : Nat} (hN : 151 ≤ N) (i1 : Int32)  (μ : gMem) {r : Int32} {μ' : gMem} (h : f_X11_pitch i1 μ = some (r, μ')) : CT2 κ N 7 yX11_pitch iX11_pitch [.ref (κ 0 + 140), .int i1] μ (qI r μ') := by
  refine CT2.of (by decide) rfl rfl (Nat.le_of_ble_eq_true rfl) ?_
  unfold f_X11_pitch at h
  show RR κ N 7 iX11_pitch 0 [(0, .ref (κ 0 + 140)), (1, .int i1)] [] μ _
  refine g_iload_n (pc := 0) dX11_pitch_0 rfl rfl ?_
  refine g_i2l (pc := 1) dX11_pitch_1 ?_
  refine g_lconst (pc := 2) (v := (0 : Int64)) dX11_pitch_2 rfl ?_
  refine g_ldc2 (pc := 3) kL_X11_168 dX11_pitch_3 ?_
  obtain ⟨p2, hp1, h⟩ := Option.bind_eq_some_iff.mp h
  refine r_callS (pc := 6) (c_X11_in hN i1.toInt64 (0 : Int64) (9 : Int64) μ hp1) yS_X11_in pX11_in mL_X11_49 dX11_pitch_6 (Nat.le_of_ble_eq_true rfl) (Nat.le_of_ble_eq_true rfl) rfl (rK_z (fun hz3 => ?_))
  refine g_if_ne (pc := 9) 15 dX11_pitch_9 (by decide) (fun hc4 => ?_) (fun hc4 => ?_)
  · rw [if_neg hc4] at h
    refine g_aload_n (pc := 15) dX11_pitch_15 rfl rfl ?_
    obtain ⟨m6, hp5, h⟩ := Option.bind_eq_some_iff.mp h
    refine r_callV (ci := 10) (pc := 16) (c_X11_putAside hN  p2.2 hp5) yV_X11_putAside ⟨rfl, by decide⟩ pX11_putAside mL_X11_185 dX11_pitch_16 (Nat.le_of_ble_eq_true rfl) (Nat.le_of_ble_eq_true rfl) (Nat.lt_of_lt_of_le (by decide) hN) kd_140 rfl (rK_v ?_)
    refine g_aload_n (pc := 19) dX11_pitch_19 rfl rfl ?_
    refine gf_X11_13 (pc := 20) rfl dX11_pitch_20 (Nat.lt_of_lt_of_le (by decide) hN) kd_140 ?_
    refine g_bipush (pc := 23) (v := (32 : Int32)) dX11_pitch_23 rfl ?_
    refine g_aload_n (pc := 25) dX11_pitch_25 rfl rfl ?_
    refine gf_X11_13 (pc := 26) rfl dX11_pitch_26 (Nat.lt_of_lt_of_le (by decide) hN) kd_140 ?_
    refine g_bipush (pc := 29) (v := (32 : Int32)) dX11_pitch_29 rfl ?_
    refine r_iald (pc := 31) 35 dX11_pitch_31 (Nat.lt_of_lt_of_le (by decide) hN) kd_142 ln_142 (by decide) ?_
    refine g_iload_n (pc := 32) dX11_pitch_32 rfl rfl ?_
    obtain ⟨p8, hp7, h⟩ := Option.bind_eq_some_iff.mp h
    refine r_callS (pc := 33) (c_X11_less hN (m6 142 (32 : Int32).toNatClampNeg) i1 m6 hp7) yS_X11_less pX11_less mL_X11_170 dX11_pitch_33 (Nat.le_of_ble_eq_true rfl) (Nat.le_of_ble_eq_true rfl) rfl (rK_i ?_)
    refine r_iast (pc := 36) 35 dX11_pitch_36 (Nat.lt_of_lt_of_le (by decide) hN) kd_142 ln_142 (by decide) (fun m9 e10 => ?_)
    rw [lt_of e10] at h
    refine g_aload_n (pc := 37) dX11_pitch_37 rfl rfl ?_
    refine g_bipush (pc := 38) (v := (99 : Int32)) dX11_pitch_38 rfl ?_
    obtain ⟨p12, hp11, h⟩ := Option.bind_eq_some_iff.mp h
    refine r_callV (ci := 10) (pc := 40) (c_X11_fullIn hN (99 : Int32) m9 hp11) yV_X11_fullIn ⟨rfl, by decide⟩ pX11_fullIn mL_X11_194 dX11_pitch_40 (Nat.le_of_ble_eq_true rfl) (Nat.le_of_ble_eq_true rfl) (Nat.lt_of_lt_of_le (by decide) hN) kd_140 rfl (rK_i ?_)
    cases h
    exact r_iret dX11_pitch_43 rfl rfl rfl
  · rw [if_pos hc4] at h
    refine g_bipush (pc := 12) (v := (-3 : Int32)) dX11_pitch_12 rfl ?_
    cases h
    exact r_iret dX11_pitch_14 rfl rfl rfl

def f_X11_seen (i1 : Int32) (i2 : Int32) (μ : gMem) : Option (Int32 × gMem) :=
  (f_X11_in i1.toInt64 (0 : Int64) (99 : Int64) μ).bind (fun p2 =>
  if p2.1 = 0 then
  (some ((-3 : Int32), p2.2))
else
  ((f_X11_in i2.toInt64 (0 : Int64) (99 : Int64) p2.2).bind (fun p6 =>
  if p6.1 = 0 then
  (some ((-3 : Int32), p6.2))
else
  (if (p6.2 140 19) = (6 : Int32) then
  (some ((-5 : Int32), p6.2))
else
  (if inb ((2 : Int32) * (p6.2 140 19)) 12 = true then
  lt (st p6.2 150 ((2 : Int32) * (p6.2 140 19)).toNatClampNeg i1) (fun m10 =>
  if inb (((2 : Int32) * (m10 140 19)) + (1 : Int32)) 12 = true then
  lt (st m10 150 (((2 : Int32) * (m10 140 19)) + (1 : Int32)).toNatClampNeg i2) (fun m13 =>
  lt (st m13 140 19 ((m13 140 19) + (1 : Int32))) (fun m16 =>
  some ((m16 140 19), m16))) else none) else none)))))
set_option maxRecDepth 100000 in
set_option maxHeartbeats 4000000 in
theorem c_X11_seen {κ : Nat → Nat} {N : Nat} (hN : 151 ≤ N) (i1 : Int32) (i2 : Int32)  (μ : gMem) {r : Int32} {μ' : gMem} (h : f_X11_seen i1 i2 μ = some (r, μ')) : CT2 κ N 2 yX11_seen iX11_seen [.ref (κ 0 + 140), .int i1, .int i2] μ (qI r μ') := by
  refine CT2.of (by decide) rfl rfl (Nat.le_of_ble_eq_true rfl) ?_
  unfold f_X11_seen at h
  show RR κ N 2 iX11_seen 0 [(0, .ref (κ 0 + 140)), (1, .int i1), (2, .int i2)] [] μ _
  refine g_iload_n (pc := 0) dX11_seen_0 rfl rfl ?_
  refine g_i2l (pc := 1) dX11_seen_1 ?_
  refine g_lconst (pc := 2) (v := (0 : Int64)) dX11_seen_2 rfl ?_
  refine g_ldc2 (pc := 3) kL_X11_173 dX11_seen_3 ?_
  obtain ⟨p2, hp1, h⟩ := Option.bind_eq_some_iff.mp h
  refine r_callS (pc := 6) (c_X11_in hN i1.toInt64 (0 : Int64) (99 : Int64) μ hp1) yS_X11_in pX11_in mL_X11_49 dX11_seen_6 (Nat.le_of_ble_eq_true rfl) (Nat.le_of_ble_eq_true rfl) rfl (rK_z (fun hz3 => ?_))
  refine g_if_eq (pc := 9) 24 dX11_seen_9 (by decide) (fun hc4 => ?_) (fun hc4 => ?_)
  · rw [if_pos hc4] at h
    refine g_bipush (pc := 24) (v := (-3 : Int32)) dX11_seen_24 rfl ?_
    cases h
    exact r_iret dX11_seen_26 rfl rfl rfl
  · rw [if_neg hc4] at h
    refine g_iload_n (pc := 12) dX11_seen_12 rfl rfl ?_
    refine g_i2l (pc := 13) dX11_seen_13 ?_
    refine g_lconst (pc := 14) (v := (0 : Int64)) dX11_seen_14 rfl ?_
    refine g_ldc2 (pc := 15) kL_X11_173 dX11_seen_15 ?_
    obtain ⟨p6, hp5, h⟩ := Option.bind_eq_some_iff.mp h
    refine r_callS (pc := 18) (c_X11_in hN i2.toInt64 (0 : Int64) (99 : Int64) p2.2 hp5) yS_X11_in pX11_in mL_X11_49 dX11_seen_18 (Nat.le_of_ble_eq_true rfl) (Nat.le_of_ble_eq_true rfl) rfl (rK_z (fun hz7 => ?_))
    refine g_if_ne (pc := 21) 27 dX11_seen_21 (by decide) (fun hc8 => ?_) (fun hc8 => ?_)
    · rw [if_neg hc8] at h
      refine g_aload_n (pc := 27) dX11_seen_27 rfl rfl ?_
      refine gf_X11_127 (pc := 28) rfl dX11_seen_28 (Nat.lt_of_lt_of_le (by decide) hN) kd_140 ?_
      refine g_bipush (pc := 31) (v := (6 : Int32)) dX11_seen_31 rfl ?_
      refine g_icmp_ne (pc := 33) 39 dX11_seen_33 (by decide) (fun hc9 => ?_) (fun hc9 => ?_)
      · rw [if_neg hc9] at h
        refine g_aload_n (pc := 39) dX11_seen_39 rfl rfl ?_
        refine gf_X11_38 (pc := 40) rfl dX11_seen_40 (Nat.lt_of_lt_of_le (by decide) hN) kd_140 ?_
        refine g_iconst (pc := 43) (v := (2 : Int32)) dX11_seen_43 rfl ?_
        refine g_aload_n (pc := 44) dX11_seen_44 rfl rfl ?_
        refine gf_X11_127 (pc := 45) rfl dX11_seen_45 (Nat.lt_of_lt_of_le (by decide) hN) kd_140 ?_
        refine g_imul (pc := 48) dX11_seen_48 ?_
        refine g_iload_n (pc := 49) dX11_seen_49 rfl rfl ?_
        obtain ⟨hg12, h⟩ := gd_some h
        refine r_iast (pc := 50) 12 dX11_seen_50 (Nat.lt_of_lt_of_le (by decide) hN) kd_150 ln_150 hg12 (fun m10 e11 => ?_)
        rw [lt_of e11] at h
        refine g_aload_n (pc := 51) dX11_seen_51 rfl rfl ?_
        refine gf_X11_38 (pc := 52) rfl dX11_seen_52 (Nat.lt_of_lt_of_le (by decide) hN) kd_140 ?_
        refine g_iconst (pc := 55) (v := (2 : Int32)) dX11_seen_55 rfl ?_
        refine g_aload_n (pc := 56) dX11_seen_56 rfl rfl ?_
        refine gf_X11_127 (pc := 57) rfl dX11_seen_57 (Nat.lt_of_lt_of_le (by decide) hN) kd_140 ?_
        refine g_imul (pc := 60) dX11_seen_60 ?_
        refine g_iconst (pc := 61) (v := (1 : Int32)) dX11_seen_61 rfl ?_
        refine g_iadd (pc := 62) dX11_seen_62 ?_
        refine g_iload_n (pc := 63) dX11_seen_63 rfl rfl ?_
        obtain ⟨hg15, h⟩ := gd_some h
        refine r_iast (pc := 64) 12 dX11_seen_64 (Nat.lt_of_lt_of_le (by decide) hN) kd_150 ln_150 hg15 (fun m13 e14 => ?_)
        rw [lt_of e14] at h
        refine g_aload_n (pc := 65) dX11_seen_65 rfl rfl ?_
        refine g_dup (pc := 66) dX11_seen_66 rfl ?_
        refine gf_X11_127 (pc := 67) rfl dX11_seen_67 (Nat.lt_of_lt_of_le (by decide) hN) kd_140 ?_
        refine g_iconst (pc := 70) (v := (1 : Int32)) dX11_seen_70 rfl ?_
        refine g_iadd (pc := 71) dX11_seen_71 ?_
        refine pf_X11_127 (pc := 72) rfl dX11_seen_72 (Nat.lt_of_lt_of_le (by decide) hN) kd_140 (fun m16 e17 => ?_)
        rw [lt_of e17] at h
        refine g_aload_n (pc := 75) dX11_seen_75 rfl rfl ?_
        refine gf_X11_127 (pc := 76) rfl dX11_seen_76 (Nat.lt_of_lt_of_le (by decide) hN) kd_140 ?_
        cases h
        exact r_iret dX11_seen_79 rfl rfl rfl
      · rw [if_pos hc9] at h
        refine g_bipush (pc := 36) (v := (-5 : Int32)) dX11_seen_36 rfl ?_
        cases h
        exact r_iret dX11_seen_38 rfl rfl rfl
    · rw [if_pos hc8] at h
      refine g_bipush (pc := 24) (v := (-3 : Int32)) dX11_seen_24 rfl ?_
      cases h
      exact r_iret dX11_seen_26 rfl rfl rfl

def f_X11_forget  (μ : gMem) : Option (Int32 × gMem) :=
  lt (μ 140 19) (fun x1 =>
  lt (st μ 140 19 (0 : Int32)) (fun m3 =>
  some (x1, m3)))
set_option maxRecDepth 100000 in
set_option maxHeartbeats 4000000 in
theorem c_X11_forget {κ : Nat → Nat} {N : Nat} (hN : 151 ≤ N)   (μ : gMem) {r : Int32} {μ' : gMem} (h : f_X11_forget  μ = some (r, μ')) : CT2 κ N 1 yX11_forget iX11_forget [.ref (κ 0 + 140)] μ (qI r μ') := by
  refine CT2.of (by decide) rfl rfl (Nat.le_of_ble_eq_true rfl) ?_
  unfold f_X11_forget at h
  show RR κ N 1 iX11_forget 0 [(0, .ref (κ 0 + 140))] [] μ _
  refine g_aload_n (pc := 0) dX11_forget_0 rfl rfl ?_
  refine gf_X11_127 (pc := 1) rfl dX11_forget_1 (Nat.lt_of_lt_of_le (by decide) hN) kd_140 ?_
  refine g_istore_n (pc := 4) (lv' := fun y => [(0, .ref (κ 0 + 140)), (1, .int y)]) dX11_forget_4 rfl (Nat.le_of_ble_eq_true rfl) (fun _ => rfl) (fun x1 e2 => ?_)
  rw [lt_of e2] at h
  refine g_aload_n (pc := 5) dX11_forget_5 rfl rfl ?_
  refine g_iconst (pc := 6) (v := (0 : Int32)) dX11_forget_6 rfl ?_
  refine pf_X11_127 (pc := 7) rfl dX11_forget_7 (Nat.lt_of_lt_of_le (by decide) hN) kd_140 (fun m3 e4 => ?_)
  rw [lt_of e4] at h
  refine g_iload_n (pc := 10) dX11_forget_10 rfl rfl ?_
  cases h
  exact r_iret dX11_forget_11 rfl rfl rfl

def l_X11_isBy_6 (i1 : Int32) : Nat → Int32 → gMem → Option (Int32 × gMem)
  | 0, _, _ => none
  | n + 1, i2, μ =>
  if (μ 140 1) ≤ i2 then
  (some (i2, μ))
else
  ((f_X11_has i1 i2 μ).bind (fun p7 =>
  if p7.1 = 0 then
  (lt (i2 + Int32.ofInt 1) (fun x10 =>
  l_X11_isBy_6 i1 n x10 p7.2))
else
  ((f_X11_draws i2 p7.2).bind (fun m13 =>
  lt (i2 + Int32.ofInt 1) (fun x14 =>
  l_X11_isBy_6 i1 n x14 m13)))))
def l_X11_isBy_46 (i1 : Int32) (i3 : Int32) : Nat → Int32 → Int32 → gMem → Option (Int32 × Int32 × gMem)
  | 0, _, _, _ => none
  | n + 1, i2, i4, μ =>
  if (μ 140 19) ≤ i4 then
  (some (i2, i4, μ))
else
  (if i2 = 0 then
  (lt (i4 + Int32.ofInt 1) (fun x29 =>
  l_X11_isBy_46 i1 i3 n (0 : Int32) x29 μ))
else
  (if inb ((2 : Int32) * i4) 12 = true then
  if (μ 150 ((2 : Int32) * i4).toNatClampNeg) = i3 then
  (if inb (((2 : Int32) * i4) + (1 : Int32)) 12 = true then
  lt (if (μ 150 (((2 : Int32) * i4) + (1 : Int32)).toNatClampNeg) = (μ 142 (31 : Int32).toNatClampNeg) then (1 : Int32) else (0 : Int32)) (fun x38 =>
  lt (i4 + Int32.ofInt 1) (fun x43 =>
  l_X11_isBy_46 i1 i3 n x38 x43 μ)) else none)
else
  (lt (i4 + Int32.ofInt 1) (fun x35 =>
  l_X11_isBy_46 i1 i3 n (1 : Int32) x35 μ)) else none))
def l_X11_isBy_37 (i1 : Int32) : Nat → Int32 → Int32 → gMem → Option (Int32 × Int32 × gMem)
  | 0, _, _, _ => none
  | n + 1, i2, i3, μ =>
  if (99 : Int32) < i3 then
  (some (i2, i3, μ))
else
  ((l_X11_isBy_46 i1 i3 gF i2 (0 : Int32) μ).bind (fun p46 =>
  (f_X11_oneMinute  p46.2.2).bind (fun p49 =>
  lt (i3 + Int32.ofInt 1) (fun x50 =>
  l_X11_isBy_37 i1 n p46.1 x50 p49.2))))
def f_X11_isBy (i1 : Int32) (μ : gMem) : Option (Int32 × gMem) :=
  (f_X11_anew  μ).bind (fun m2 =>
  (l_X11_isBy_6 i1 gF (0 : Int32) m2).bind (fun p16 =>
  (l_X11_isBy_37 i1 gF (1 : Int32) (0 : Int32) p16.2).bind (fun p52 =>
  (f_X11_takeBack  p52.2.2).bind (fun m55 =>
  if bz p52.1 = true then some (p52.1, m55) else none))))
set_option maxRecDepth 100000 in
set_option maxHeartbeats 4000000 in
theorem cl_X11_isBy_6 {κ : Nat → Nat} {N : Nat} {Q : rQ} (hN : 151 ≤ N) (i1 : Int32)  : ∀ (n : Nat) (i2 : Int32) (μ : gMem) (p : Int32 × gMem), l_X11_isBy_6 i1 n i2 μ = some p → RR κ N 6 iX11_isBy 33 [(0, .ref (κ 0 + 140)), (1, .int i1), (2, .int p.1)] [] p.2 Q → RR κ N 6 iX11_isBy 6 [(0, .ref (κ 0 + 140)), (1, .int i1), (2, .int i2)] [] μ Q := by
  intro n
  induction n with
  | zero =>
    intro i2 μ p h k
    unfold l_X11_isBy_6 at h
    cases h
  | succ n ih =>
    intro i2 μ p h k
    unfold l_X11_isBy_6 at h
    refine g_iload_n (pc := 6) dX11_isBy_6 rfl rfl ?_
    refine g_aload_n (pc := 7) dX11_isBy_7 rfl rfl ?_
    refine gf_X11_45 (pc := 8) rfl dX11_isBy_8 (Nat.lt_of_lt_of_le (by decide) hN) kd_140 ?_
    refine g_icmp_ge (pc := 11) 33 dX11_isBy_11 (by decide) (fun hc5 => ?_) (fun hc5 => ?_)
    · rw [if_pos hc5] at h
      cases h
      exact k
    · rw [if_neg hc5] at h
      refine g_iload_n (pc := 14) dX11_isBy_14 rfl rfl ?_
      refine g_iload_n (pc := 15) dX11_isBy_15 rfl rfl ?_
      obtain ⟨p7, hp6, h⟩ := Option.bind_eq_some_iff.mp h
      refine r_callS (pc := 16) (c_X11_has hN i1 i2 μ hp6) yS_X11_has pX11_has mL_X11_203 dX11_isBy_16 (Nat.le_of_ble_eq_true rfl) (Nat.le_of_ble_eq_true rfl) rfl (rK_z (fun hz8 => ?_))
      refine g_if_eq (pc := 19) 27 dX11_isBy_19 (by decide) (fun hc9 => ?_) (fun hc9 => ?_)
      · rw [if_pos hc9] at h
        refine g_iinc (pc := 27) (lv' := fun y => [(0, .ref (κ 0 + 140)), (1, .int i1), (2, .int y)]) dX11_isBy_27 rfl (Nat.le_of_ble_eq_true rfl) (fun _ => rfl) (fun x10 e11 => ?_)
        rw [lt_of e11] at h
        refine g_goto (pc := 30) 6 dX11_isBy_30 (by decide) ?_
        refine g_lv (lv' := [(0, .ref (κ 0 + 140)), (1, .int i1), (2, .int x10)]) rfl ?_
        exact ih _ _ _ h k
      · rw [if_neg hc9] at h
        refine g_aload_n (pc := 22) dX11_isBy_22 rfl rfl ?_
        refine g_iload_n (pc := 23) dX11_isBy_23 rfl rfl ?_
        obtain ⟨m13, hp12, h⟩ := Option.bind_eq_some_iff.mp h
        refine r_callV (ci := 10) (pc := 24) (c_X11_draws hN i2 p7.2 hp12) yV_X11_draws ⟨rfl, by decide⟩ pX11_draws mL_X11_155 dX11_isBy_24 (Nat.le_of_ble_eq_true rfl) (Nat.le_of_ble_eq_true rfl) (Nat.lt_of_lt_of_le (by decide) hN) kd_140 rfl (rK_v ?_)
        refine g_iinc (pc := 27) (lv' := fun y => [(0, .ref (κ 0 + 140)), (1, .int i1), (2, .int y)]) dX11_isBy_27 rfl (Nat.le_of_ble_eq_true rfl) (fun _ => rfl) (fun x14 e15 => ?_)
        rw [lt_of e15] at h
        refine g_goto (pc := 30) 6 dX11_isBy_30 (by decide) ?_
        refine g_lv (lv' := [(0, .ref (κ 0 + 140)), (1, .int i1), (2, .int x14)]) rfl ?_
        exact ih _ _ _ h k
set_option maxRecDepth 100000 in
set_option maxHeartbeats 4000000 in
theorem cl_X11_isBy_46 {κ : Nat → Nat} {N : Nat} {Q : rQ} (hN : 151 ≤ N) (i1 : Int32) (i3 : Int32)  : ∀ (n : Nat) (i2 : Int32) (i4 : Int32) (μ : gMem) (p : Int32 × Int32 × gMem), l_X11_isBy_46 i1 i3 n i2 i4 μ = some p → RR κ N 6 iX11_isBy 105 [(0, .ref (κ 0 + 140)), (1, .int i1), (2, .int p.1), (3, .int i3), (4, .int p.2.1)] [] p.2.2 Q → RR κ N 6 iX11_isBy 46 [(0, .ref (κ 0 + 140)), (1, .int i1), (2, .int i2), (3, .int i3), (4, .int i4)] [] μ Q := by
  intro n
  induction n with
  | zero =>
    intro i2 i4 μ p h k
    unfold l_X11_isBy_46 at h
    cases h
  | succ n ih =>
    intro i2 i4 μ p h k
    unfold l_X11_isBy_46 at h
    refine g_iload (pc := 46) dX11_isBy_46 rfl ?_
    refine g_aload_n (pc := 48) dX11_isBy_48 rfl rfl ?_
    refine gf_X11_127 (pc := 49) rfl dX11_isBy_49 (Nat.lt_of_lt_of_le (by decide) hN) kd_140 ?_
    refine g_icmp_ge (pc := 52) 105 dX11_isBy_52 (by decide) (fun hc25 => ?_) (fun hc25 => ?_)
    · rw [if_pos hc25] at h
      cases h
      exact k
    · rw [if_neg hc25] at h
      refine g_iload_n (pc := 55) dX11_isBy_55 rfl rfl ?_
      refine g_if_eq (pc := 56) 97 dX11_isBy_56 (by decide) (fun hc26 => ?_) (fun hc26 => ?_)
      · rw [if_pos hc26] at h
        refine g_iconst (pc := 97) (v := (0 : Int32)) dX11_isBy_97 rfl ?_
        refine g_istore_n (pc := 98) (lv' := fun y => [(0, .ref (κ 0 + 140)), (1, .int i1), (2, .int y), (3, .int i3), (4, .int i4)]) dX11_isBy_98 rfl (Nat.le_of_ble_eq_true rfl) (fun _ => rfl) (fun y27 e28 => ?_)
        rw [e28]
        refine g_iinc (pc := 99) (lv' := fun y => [(0, .ref (κ 0 + 140)), (1, .int i1), (2, .int (0 : Int32)), (3, .int i3), (4, .int y)]) dX11_isBy_99 rfl (Nat.le_of_ble_eq_true rfl) (fun _ => rfl) (fun x29 e30 => ?_)
        rw [lt_of e30] at h
        refine g_goto (pc := 102) 46 dX11_isBy_102 (by decide) ?_
        refine g_lv (lv' := [(0, .ref (κ 0 + 140)), (1, .int i1), (2, .int (0 : Int32)), (3, .int i3), (4, .int x29)]) rfl ?_
        exact ih _ _ _ _ h k
      · rw [if_neg hc26] at h
        refine g_aload_n (pc := 59) dX11_isBy_59 rfl rfl ?_
        refine gf_X11_38 (pc := 60) rfl dX11_isBy_60 (Nat.lt_of_lt_of_le (by decide) hN) kd_140 ?_
        refine g_iconst (pc := 63) (v := (2 : Int32)) dX11_isBy_63 rfl ?_
        refine g_iload (pc := 64) dX11_isBy_64 rfl ?_
        refine g_imul (pc := 66) dX11_isBy_66 ?_
        obtain ⟨hg31, h⟩ := gd_some h
        refine r_iald (pc := 67) 12 dX11_isBy_67 (Nat.lt_of_lt_of_le (by decide) hN) kd_150 ln_150 hg31 ?_
        refine g_iload_n (pc := 68) dX11_isBy_68 rfl rfl ?_
        refine g_icmp_ne (pc := 69) 93 dX11_isBy_69 (by decide) (fun hc32 => ?_) (fun hc32 => ?_)
        · rw [if_neg hc32] at h
          refine g_iconst (pc := 93) (v := (1 : Int32)) dX11_isBy_93 rfl ?_
          refine g_goto (pc := 94) 98 dX11_isBy_94 (by decide) ?_
          refine g_istore_n (pc := 98) (lv' := fun y => [(0, .ref (κ 0 + 140)), (1, .int i1), (2, .int y), (3, .int i3), (4, .int i4)]) dX11_isBy_98 rfl (Nat.le_of_ble_eq_true rfl) (fun _ => rfl) (fun y33 e34 => ?_)
          rw [e34]
          refine g_iinc (pc := 99) (lv' := fun y => [(0, .ref (κ 0 + 140)), (1, .int i1), (2, .int (1 : Int32)), (3, .int i3), (4, .int y)]) dX11_isBy_99 rfl (Nat.le_of_ble_eq_true rfl) (fun _ => rfl) (fun x35 e36 => ?_)
          rw [lt_of e36] at h
          refine g_goto (pc := 102) 46 dX11_isBy_102 (by decide) ?_
          refine g_lv (lv' := [(0, .ref (κ 0 + 140)), (1, .int i1), (2, .int (1 : Int32)), (3, .int i3), (4, .int x35)]) rfl ?_
          exact ih _ _ _ _ h k
        · rw [if_pos hc32] at h
          refine g_aload_n (pc := 72) dX11_isBy_72 rfl rfl ?_
          refine gf_X11_38 (pc := 73) rfl dX11_isBy_73 (Nat.lt_of_lt_of_le (by decide) hN) kd_140 ?_
          refine g_iconst (pc := 76) (v := (2 : Int32)) dX11_isBy_76 rfl ?_
          refine g_iload (pc := 77) dX11_isBy_77 rfl ?_
          refine g_imul (pc := 79) dX11_isBy_79 ?_
          refine g_iconst (pc := 80) (v := (1 : Int32)) dX11_isBy_80 rfl ?_
          refine g_iadd (pc := 81) dX11_isBy_81 ?_
          obtain ⟨hg37, h⟩ := gd_some h
          refine r_iald (pc := 82) 12 dX11_isBy_82 (Nat.lt_of_lt_of_le (by decide) hN) kd_150 ln_150 hg37 ?_
          refine g_aload_n (pc := 83) dX11_isBy_83 rfl rfl ?_
          refine gf_X11_13 (pc := 84) rfl dX11_isBy_84 (Nat.lt_of_lt_of_le (by decide) hN) kd_140 ?_
          refine g_bipush (pc := 87) (v := (31 : Int32)) dX11_isBy_87 rfl ?_
          refine r_iald (pc := 89) 35 dX11_isBy_89 (Nat.lt_of_lt_of_le (by decide) hN) kd_142 ln_142 (by decide) ?_
          have key40 : ∀ x38 : Int32, x38 = (if (μ 150 (((2 : Int32) * i4) + (1 : Int32)).toNatClampNeg) = (μ 142 (31 : Int32).toNatClampNeg) then (1 : Int32) else (0 : Int32)) → RR κ N 6 iX11_isBy 98 [(0, .ref (κ 0 + 140)), (1, .int i1), (2, .int i2), (3, .int i3), (4, .int i4)] [.int x38] μ Q := by
            intro x38 e39
            rw [lt_of e39] at h
            refine g_istore_n (pc := 98) (lv' := fun y => [(0, .ref (κ 0 + 140)), (1, .int i1), (2, .int y), (3, .int i3), (4, .int i4)]) dX11_isBy_98 rfl (Nat.le_of_ble_eq_true rfl) (fun _ => rfl) (fun y41 e42 => ?_)
            rw [e42]
            refine g_iinc (pc := 99) (lv' := fun y => [(0, .ref (κ 0 + 140)), (1, .int i1), (2, .int x38), (3, .int i3), (4, .int y)]) dX11_isBy_99 rfl (Nat.le_of_ble_eq_true rfl) (fun _ => rfl) (fun x43 e44 => ?_)
            rw [lt_of e44] at h
            refine g_goto (pc := 102) 46 dX11_isBy_102 (by decide) ?_
            refine g_lv (lv' := [(0, .ref (κ 0 + 140)), (1, .int i1), (2, .int x38), (3, .int i3), (4, .int x43)]) rfl ?_
            exact ih _ _ _ _ h k
          refine g_icmp_ne (pc := 90) 97 dX11_isBy_90 (by decide) (fun hc45 => ?_) (fun hc45 => ?_)
          · refine g_iconst (pc := 97) (v := (0 : Int32)) dX11_isBy_97 rfl ?_
            exact key40 _ (by rw [if_neg hc45])
          · refine g_iconst (pc := 93) (v := (1 : Int32)) dX11_isBy_93 rfl ?_
            refine g_goto (pc := 94) 98 dX11_isBy_94 (by decide) ?_
            exact key40 _ (by rw [if_pos hc45])
set_option maxRecDepth 100000 in
set_option maxHeartbeats 4000000 in
theorem cl_X11_isBy_37 {κ : Nat → Nat} {N : Nat} {Q : rQ} (hN : 151 ≤ N) (i1 : Int32)  : ∀ (n : Nat) (i2 : Int32) (i3 : Int32) (μ : gMem) (p : Int32 × Int32 × gMem), l_X11_isBy_37 i1 n i2 i3 μ = some p → RR κ N 6 iX11_isBy 116 [(0, .ref (κ 0 + 140)), (1, .int i1), (2, .int p.1), (3, .int p.2.1)] [] p.2.2 Q → RR κ N 6 iX11_isBy 37 [(0, .ref (κ 0 + 140)), (1, .int i1), (2, .int i2), (3, .int i3)] [] μ Q := by
  intro n
  induction n with
  | zero =>
    intro i2 i3 μ p h k
    unfold l_X11_isBy_37 at h
    cases h
  | succ n ih =>
    intro i2 i3 μ p h k
    unfold l_X11_isBy_37 at h
    refine g_iload_n (pc := 37) dX11_isBy_37 rfl rfl ?_
    refine g_bipush (pc := 38) (v := (99 : Int32)) dX11_isBy_38 rfl ?_
    refine g_icmp_gt (pc := 40) 116 dX11_isBy_40 (by decide) (fun hc22 => ?_) (fun hc22 => ?_)
    · rw [if_pos hc22] at h
      cases h
      exact k
    · rw [if_neg hc22] at h
      refine g_iconst (pc := 43) (v := (0 : Int32)) dX11_isBy_43 rfl ?_
      refine g_istore (pc := 44) (lv' := fun y => [(0, .ref (κ 0 + 140)), (1, .int i1), (2, .int i2), (3, .int i3), (4, .int y)]) dX11_isBy_44 (Nat.le_of_ble_eq_true rfl) (fun _ => rfl) (fun y23 e24 => ?_)
      rw [e24]
      obtain ⟨p46, hp47, h⟩ := Option.bind_eq_some_iff.mp h
      refine cl_X11_isBy_46 hN i1 i3  gF i2 (0 : Int32) _ _ hp47 ?_
      refine g_aload_n (pc := 105) dX11_isBy_105 rfl rfl ?_
      obtain ⟨p49, hp48, h⟩ := Option.bind_eq_some_iff.mp h
      refine r_callV (ci := 10) (pc := 106) (c_X11_oneMinute hN  p46.2.2 hp48) yV_X11_oneMinute ⟨rfl, by decide⟩ pX11_oneMinute mL_X11_175 dX11_isBy_106 (Nat.le_of_ble_eq_true rfl) (Nat.le_of_ble_eq_true rfl) (Nat.lt_of_lt_of_le (by decide) hN) kd_140 rfl (rK_i ?_)
      refine g_pop (pc := 109) dX11_isBy_109 rfl ?_
      refine g_iinc (pc := 110) (lv' := fun y => [(0, .ref (κ 0 + 140)), (1, .int i1), (2, .int p46.1), (3, .int y), (4, .int p46.2.1)]) dX11_isBy_110 rfl (Nat.le_of_ble_eq_true rfl) (fun _ => rfl) (fun x50 e51 => ?_)
      rw [lt_of e51] at h
      refine g_goto (pc := 113) 37 dX11_isBy_113 (by decide) ?_
      refine g_lv (lv' := [(0, .ref (κ 0 + 140)), (1, .int i1), (2, .int p46.1), (3, .int x50)]) rfl ?_
      exact ih _ _ _ _ h k
set_option maxRecDepth 100000 in
set_option maxHeartbeats 4000000 in
theorem c_X11_isBy {κ : Nat → Nat} {N : Nat} (hN : 151 ≤ N) (i1 : Int32)  (μ : gMem) {r : Int32} {μ' : gMem} (h : f_X11_isBy i1 μ = some (r, μ')) : CT2 κ N 6 yX11_isBy iX11_isBy [.ref (κ 0 + 140), .int i1] μ (qZ r μ') := by
  refine CT2.of (by decide) rfl rfl (Nat.le_of_ble_eq_true rfl) ?_
  unfold f_X11_isBy at h
  show RR κ N 6 iX11_isBy 0 [(0, .ref (κ 0 + 140)), (1, .int i1)] [] μ _
  refine g_aload_n (pc := 0) dX11_isBy_0 rfl rfl ?_
  obtain ⟨m2, hp1, h⟩ := Option.bind_eq_some_iff.mp h
  refine r_callV (ci := 10) (pc := 1) (c_X11_anew hN  μ hp1) yV_X11_anew ⟨rfl, by decide⟩ pX11_anew mL_X11_124 dX11_isBy_1 (Nat.le_of_ble_eq_true rfl) (Nat.le_of_ble_eq_true rfl) (Nat.lt_of_lt_of_le (by decide) hN) kd_140 rfl (rK_v ?_)
  refine g_iconst (pc := 4) (v := (0 : Int32)) dX11_isBy_4 rfl ?_
  refine g_istore_n (pc := 5) (lv' := fun y => [(0, .ref (κ 0 + 140)), (1, .int i1), (2, .int y)]) dX11_isBy_5 rfl (Nat.le_of_ble_eq_true rfl) (fun _ => rfl) (fun y3 e4 => ?_)
  rw [e4]
  obtain ⟨p16, hp17, h⟩ := Option.bind_eq_some_iff.mp h
  refine cl_X11_isBy_6 hN i1  gF (0 : Int32) _ _ hp17 ?_
  refine g_iconst (pc := 33) (v := (1 : Int32)) dX11_isBy_33 rfl ?_
  refine g_istore_n (pc := 34) (lv' := fun y => [(0, .ref (κ 0 + 140)), (1, .int i1), (2, .int y)]) dX11_isBy_34 rfl (Nat.le_of_ble_eq_true rfl) (fun _ => rfl) (fun y18 e19 => ?_)
  rw [e19]
  refine g_iconst (pc := 35) (v := (0 : Int32)) dX11_isBy_35 rfl ?_
  refine g_istore_n (pc := 36) (lv' := fun y => [(0, .ref (κ 0 + 140)), (1, .int i1), (2, .int (1 : Int32)), (3, .int y)]) dX11_isBy_36 rfl (Nat.le_of_ble_eq_true rfl) (fun _ => rfl) (fun y20 e21 => ?_)
  rw [e21]
  obtain ⟨p52, hp53, h⟩ := Option.bind_eq_some_iff.mp h
  refine cl_X11_isBy_37 hN i1  gF (1 : Int32) (0 : Int32) _ _ hp53 ?_
  refine g_aload_n (pc := 116) dX11_isBy_116 rfl rfl ?_
  obtain ⟨m55, hp54, h⟩ := Option.bind_eq_some_iff.mp h
  refine r_callV (ci := 10) (pc := 117) (c_X11_takeBack hN  p52.2.2 hp54) yV_X11_takeBack ⟨rfl, by decide⟩ pX11_takeBack mL_X11_178 dX11_isBy_117 (Nat.le_of_ble_eq_true rfl) (Nat.le_of_ble_eq_true rfl) (Nat.lt_of_lt_of_le (by decide) hN) kd_140 rfl (rK_v ?_)
  refine g_iload_n (pc := 120) dX11_isBy_120 rfl rfl ?_
  obtain ⟨hg56, h⟩ := gd_some h
  cases h
  exact r_zret dX11_isBy_121 rfl (bz_ok hg56) rfl rfl

def l_X11_worked_43 (i1 : Int32) : Nat → Int32 → Int32 → Int32 → Int32 → gMem → Option (Int32 × Int32 × Int32 × Int32 × gMem)
  | 0, _, _, _, _, _ => none
  | n + 1, i2, i3, i4, i5, μ =>
  if i5 < 0 then
  (some (i2, i3, i4, i5, μ))
else
  ((f_X11_isBy i5 μ).bind (fun p17 =>
  if p17.1 = 0 then
  (lt (i5 + Int32.ofInt (-1)) (fun x20 =>
  l_X11_worked_43 i1 n i2 i3 i4 x20 p17.2))
else
  (lt (i2 + Int32.ofInt 1) (fun x22 =>
  lt (i4 &&& i5) (fun x26 =>
  lt (i5 + Int32.ofInt (-1)) (fun x28 =>
  l_X11_worked_43 i1 n x22 i5 x26 x28 p17.2))))))
def f_X11_worked (i1 : Int32) (μ : gMem) : Option (Int32 × gMem) :=
  (f_X11_in i1.toInt64 (0 : Int64) (2 : Int64) μ).bind (fun p2 =>
  if p2.1 = 0 then
  (some ((-3 : Int32), p2.2))
else
  ((f_X11_putAside  p2.2).bind (fun m6 =>
  lt (((1 : Int32) <<< ((m6 140 1) &&& 31)) - (1 : Int32)) (fun x11 =>
  lt (((1 : Int32) <<< ((m6 140 1) &&& 31)) - (1 : Int32)) (fun x13 =>
  (l_X11_worked_43 i1 gF (0 : Int32) (-1 : Int32) x11 x13 m6).bind (fun p30 =>
  if i1 = 0 then
  (some (p30.1, p30.2.2.2.2))
else
  (if i1 = (1 : Int32) then
  (some (p30.2.1, p30.2.2.2.2))
else
  (lt (if p30.1 = 0 then (0 : Int32) else p30.2.2.1) (fun x34 =>
  some (x34, p30.2.2.2.2))))))))))
set_option maxRecDepth 100000 in
set_option maxHeartbeats 4000000 in
theorem cl_X11_worked_43 {κ : Nat → Nat} {N : Nat} {Q : rQ} (hN : 151 ≤ N) (i1 : Int32)  : ∀ (n : Nat) (i2 : Int32) (i3 : Int32) (i4 : Int32) (i5 : Int32) (μ : gMem) (p : Int32 × Int32 × Int32 × Int32 × gMem), l_X11_worked_43 i1 n i2 i3 i4 i5 μ = some p → RR κ N 7 iX11_worked 76 [(0, .ref (κ 0 + 140)), (1, .int i1), (2, .int p.1), (3, .int p.2.1), (4, .int p.2.2.1), (5, .int p.2.2.2.1)] [] p.2.2.2.2 Q → RR κ N 7 iX11_worked 43 [(0, .ref (κ 0 + 140)), (1, .int i1), (2, .int i2), (3, .int i3), (4, .int i4), (5, .int i5)] [] μ Q := by
  intro n
  induction n with
  | zero =>
    intro i2 i3 i4 i5 μ p h k
    unfold l_X11_worked_43 at h
    cases h
  | succ n ih =>
    intro i2 i3 i4 i5 μ p h k
    unfold l_X11_worked_43 at h
    refine g_iload (pc := 43) dX11_worked_43 rfl ?_
    refine g_if_lt (pc := 45) 76 dX11_worked_45 (by decide) (fun hc15 => ?_) (fun hc15 => ?_)
    · rw [if_pos hc15] at h
      cases h
      exact k
    · rw [if_neg hc15] at h
      refine g_aload_n (pc := 48) dX11_worked_48 rfl rfl ?_
      refine g_iload (pc := 49) dX11_worked_49 rfl ?_
      obtain ⟨p17, hp16, h⟩ := Option.bind_eq_some_iff.mp h
      refine r_callV (ci := 10) (pc := 51) (c_X11_isBy hN i5 μ hp16) yV_X11_isBy ⟨rfl, by decide⟩ pX11_isBy mL_X11_213 dX11_worked_51 (Nat.le_of_ble_eq_true rfl) (Nat.le_of_ble_eq_true rfl) (Nat.lt_of_lt_of_le (by decide) hN) kd_140 rfl (rK_z (fun hz18 => ?_))
      refine g_if_eq (pc := 54) 70 dX11_worked_54 (by decide) (fun hc19 => ?_) (fun hc19 => ?_)
      · rw [if_pos hc19] at h
        refine g_iinc (pc := 70) (lv' := fun y => [(0, .ref (κ 0 + 140)), (1, .int i1), (2, .int i2), (3, .int i3), (4, .int i4), (5, .int y)]) dX11_worked_70 rfl (Nat.le_of_ble_eq_true rfl) (fun _ => rfl) (fun x20 e21 => ?_)
        rw [lt_of e21] at h
        refine g_goto (pc := 73) 43 dX11_worked_73 (by decide) ?_
        refine g_lv (lv' := [(0, .ref (κ 0 + 140)), (1, .int i1), (2, .int i2), (3, .int i3), (4, .int i4), (5, .int x20)]) rfl ?_
        exact ih _ _ _ _ _ _ h k
      · rw [if_neg hc19] at h
        refine g_iinc (pc := 57) (lv' := fun y => [(0, .ref (κ 0 + 140)), (1, .int i1), (2, .int y), (3, .int i3), (4, .int i4), (5, .int i5)]) dX11_worked_57 rfl (Nat.le_of_ble_eq_true rfl) (fun _ => rfl) (fun x22 e23 => ?_)
        rw [lt_of e23] at h
        refine g_iload (pc := 60) dX11_worked_60 rfl ?_
        refine g_istore_n (pc := 62) (lv' := fun y => [(0, .ref (κ 0 + 140)), (1, .int i1), (2, .int x22), (3, .int y), (4, .int i4), (5, .int i5)]) dX11_worked_62 rfl (Nat.le_of_ble_eq_true rfl) (fun _ => rfl) (fun y24 e25 => ?_)
        rw [e25]
        refine g_iload (pc := 63) dX11_worked_63 rfl ?_
        refine g_iload (pc := 65) dX11_worked_65 rfl ?_
        refine g_iand (pc := 67) dX11_worked_67 ?_
        refine g_istore (pc := 68) (lv' := fun y => [(0, .ref (κ 0 + 140)), (1, .int i1), (2, .int x22), (3, .int i5), (4, .int y), (5, .int i5)]) dX11_worked_68 (Nat.le_of_ble_eq_true rfl) (fun _ => rfl) (fun x26 e27 => ?_)
        rw [lt_of e27] at h
        refine g_iinc (pc := 70) (lv' := fun y => [(0, .ref (κ 0 + 140)), (1, .int i1), (2, .int x22), (3, .int i5), (4, .int x26), (5, .int y)]) dX11_worked_70 rfl (Nat.le_of_ble_eq_true rfl) (fun _ => rfl) (fun x28 e29 => ?_)
        rw [lt_of e29] at h
        refine g_goto (pc := 73) 43 dX11_worked_73 (by decide) ?_
        refine g_lv (lv' := [(0, .ref (κ 0 + 140)), (1, .int i1), (2, .int x22), (3, .int i5), (4, .int x26), (5, .int x28)]) rfl ?_
        exact ih _ _ _ _ _ _ h k
set_option maxRecDepth 100000 in
set_option maxHeartbeats 4000000 in
theorem c_X11_worked {κ : Nat → Nat} {N : Nat} (hN : 151 ≤ N) (i1 : Int32)  (μ : gMem) {r : Int32} {μ' : gMem} (h : f_X11_worked i1 μ = some (r, μ')) : CT2 κ N 7 yX11_worked iX11_worked [.ref (κ 0 + 140), .int i1] μ (qI r μ') := by
  refine CT2.of (by decide) rfl rfl (Nat.le_of_ble_eq_true rfl) ?_
  unfold f_X11_worked at h
  show RR κ N 7 iX11_worked 0 [(0, .ref (κ 0 + 140)), (1, .int i1)] [] μ _
  refine g_iload_n (pc := 0) dX11_worked_0 rfl rfl ?_
  refine g_i2l (pc := 1) dX11_worked_1 ?_
  refine g_lconst (pc := 2) (v := (0 : Int64)) dX11_worked_2 rfl ?_
  refine g_ldc2 (pc := 3) kL_X11_211 dX11_worked_3 ?_
  obtain ⟨p2, hp1, h⟩ := Option.bind_eq_some_iff.mp h
  refine r_callS (pc := 6) (c_X11_in hN i1.toInt64 (0 : Int64) (2 : Int64) μ hp1) yS_X11_in pX11_in mL_X11_49 dX11_worked_6 (Nat.le_of_ble_eq_true rfl) (Nat.le_of_ble_eq_true rfl) rfl (rK_z (fun hz3 => ?_))
  refine g_if_ne (pc := 9) 15 dX11_worked_9 (by decide) (fun hc4 => ?_) (fun hc4 => ?_)
  · rw [if_neg hc4] at h
    refine g_aload_n (pc := 15) dX11_worked_15 rfl rfl ?_
    obtain ⟨m6, hp5, h⟩ := Option.bind_eq_some_iff.mp h
    refine r_callV (ci := 10) (pc := 16) (c_X11_putAside hN  p2.2 hp5) yV_X11_putAside ⟨rfl, by decide⟩ pX11_putAside mL_X11_185 dX11_worked_16 (Nat.le_of_ble_eq_true rfl) (Nat.le_of_ble_eq_true rfl) (Nat.lt_of_lt_of_le (by decide) hN) kd_140 rfl (rK_v ?_)
    refine g_iconst (pc := 19) (v := (0 : Int32)) dX11_worked_19 rfl ?_
    refine g_istore_n (pc := 20) (lv' := fun y => [(0, .ref (κ 0 + 140)), (1, .int i1), (2, .int y)]) dX11_worked_20 rfl (Nat.le_of_ble_eq_true rfl) (fun _ => rfl) (fun y7 e8 => ?_)
    rw [e8]
    refine g_iconst (pc := 21) (v := (-1 : Int32)) dX11_worked_21 rfl ?_
    refine g_istore_n (pc := 22) (lv' := fun y => [(0, .ref (κ 0 + 140)), (1, .int i1), (2, .int (0 : Int32)), (3, .int y)]) dX11_worked_22 rfl (Nat.le_of_ble_eq_true rfl) (fun _ => rfl) (fun y9 e10 => ?_)
    rw [e10]
    refine g_iconst (pc := 23) (v := (1 : Int32)) dX11_worked_23 rfl ?_
    refine g_aload_n (pc := 24) dX11_worked_24 rfl rfl ?_
    refine gf_X11_45 (pc := 25) rfl dX11_worked_25 (Nat.lt_of_lt_of_le (by decide) hN) kd_140 ?_
    refine g_ishl (pc := 28) dX11_worked_28 ?_
    refine g_iconst (pc := 29) (v := (1 : Int32)) dX11_worked_29 rfl ?_
    refine g_isub (pc := 30) dX11_worked_30 ?_
    refine g_istore (pc := 31) (lv' := fun y => [(0, .ref (κ 0 + 140)), (1, .int i1), (2, .int (0 : Int32)), (3, .int (-1 : Int32)), (4, .int y)]) dX11_worked_31 (Nat.le_of_ble_eq_true rfl) (fun _ => rfl) (fun x11 e12 => ?_)
    rw [lt_of e12] at h
    refine g_iconst (pc := 33) (v := (1 : Int32)) dX11_worked_33 rfl ?_
    refine g_aload_n (pc := 34) dX11_worked_34 rfl rfl ?_
    refine gf_X11_45 (pc := 35) rfl dX11_worked_35 (Nat.lt_of_lt_of_le (by decide) hN) kd_140 ?_
    refine g_ishl (pc := 38) dX11_worked_38 ?_
    refine g_iconst (pc := 39) (v := (1 : Int32)) dX11_worked_39 rfl ?_
    refine g_isub (pc := 40) dX11_worked_40 ?_
    refine g_istore (pc := 41) (lv' := fun y => [(0, .ref (κ 0 + 140)), (1, .int i1), (2, .int (0 : Int32)), (3, .int (-1 : Int32)), (4, .int x11), (5, .int y)]) dX11_worked_41 (Nat.le_of_ble_eq_true rfl) (fun _ => rfl) (fun x13 e14 => ?_)
    rw [lt_of e14] at h
    obtain ⟨p30, hp31, h⟩ := Option.bind_eq_some_iff.mp h
    refine cl_X11_worked_43 hN i1  gF (0 : Int32) (-1 : Int32) x11 x13 _ _ hp31 ?_
    refine g_iload_n (pc := 76) dX11_worked_76 rfl rfl ?_
    refine g_if_ne (pc := 77) 84 dX11_worked_77 (by decide) (fun hc32 => ?_) (fun hc32 => ?_)
    · rw [if_neg hc32] at h
      refine g_iload_n (pc := 84) dX11_worked_84 rfl rfl ?_
      refine g_iconst (pc := 85) (v := (1 : Int32)) dX11_worked_85 rfl ?_
      refine g_icmp_ne (pc := 86) 93 dX11_worked_86 (by decide) (fun hc33 => ?_) (fun hc33 => ?_)
      · rw [if_neg hc33] at h
        refine g_iload_n (pc := 93) dX11_worked_93 rfl rfl ?_
        have key36 : ∀ x34 : Int32, x34 = (if p30.1 = 0 then (0 : Int32) else p30.2.2.1) → RR κ N 7 iX11_worked 103 [(0, .ref (κ 0 + 140)), (1, .int i1), (2, .int p30.1), (3, .int p30.2.1), (4, .int p30.2.2.1), (5, .int p30.2.2.2.1)] [.int x34] p30.2.2.2.2 (qI r μ') := by
          intro x34 e35
          rw [lt_of e35] at h
          cases h
          exact r_iret dX11_worked_103 rfl rfl rfl
        refine g_if_ne (pc := 94) 101 dX11_worked_94 (by decide) (fun hc37 => ?_) (fun hc37 => ?_)
        · refine g_iload (pc := 101) dX11_worked_101 rfl ?_
          exact key36 _ (by rw [if_neg hc37])
        · refine g_iconst (pc := 97) (v := (0 : Int32)) dX11_worked_97 rfl ?_
          refine g_goto (pc := 98) 103 dX11_worked_98 (by decide) ?_
          exact key36 _ (by rw [if_pos hc37])
      · rw [if_pos hc33] at h
        refine g_iload_n (pc := 89) dX11_worked_89 rfl rfl ?_
        refine g_goto (pc := 90) 103 dX11_worked_90 (by decide) ?_
        cases h
        exact r_iret dX11_worked_103 rfl rfl rfl
    · rw [if_pos hc32] at h
      refine g_iload_n (pc := 80) dX11_worked_80 rfl rfl ?_
      refine g_goto (pc := 81) 103 dX11_worked_81 (by decide) ?_
      cases h
      exact r_iret dX11_worked_103 rfl rfl rfl
  · rw [if_pos hc4] at h
    refine g_bipush (pc := 12) (v := (-3 : Int32)) dX11_worked_12 rfl ?_
    cases h
    exact r_iret dX11_worked_14 rfl rfl rfl

def l_X11_leaves_59 (i1 : Int32) (i2 : Int32) (i3 : Int32) (i4 : Int32) (i5 : Int32) : Nat → Int32 → Int32 → gMem → Option (Int32 × Int32 × gMem)
  | 0, _, _, _ => none
  | n + 1, i6, i7, μ =>
  if i1 ≤ i7 then
  (some (i6, i7, μ))
else
  (lt (i6 * (10 : Int32)) (fun x24 =>
  lt (i7 + Int32.ofInt 1) (fun x26 =>
  l_X11_leaves_59 i1 i2 i3 i4 i5 n x24 x26 μ)))
def l_X11_leaves_95 (i1 : Int32) (i2 : Int32) (i3 : Int32) (i4 : Int32) (i5 : Int32) (i6 : Int32) (i7 : Int32) : Nat → Int32 → Int32 → gMem → Option (Int32 × Int32 × gMem)
  | 0, _, _, _ => none
  | n + 1, i8, i9, μ =>
  if i1 ≤ i9 then
  (some (i8, i9, μ))
else
  ((f_X11_has i7 i9 μ).bind (fun p39 =>
  lt (if p39.1 = 0 then ((10 : Int32) - i3) else i3) (fun x41 =>
  lt (i8 * x41) (fun x44 =>
  lt (i9 + Int32.ofInt 1) (fun x46 =>
  l_X11_leaves_95 i1 i2 i3 i4 i5 i6 i7 n x44 x46 p39.2)))))
def l_X11_leaves_81 (i1 : Int32) (i2 : Int32) (i3 : Int32) (i4 : Int32) (i6 : Int32) : Nat → Int32 → Int32 → gMem → Option (Int32 × Int32 × gMem)
  | 0, _, _, _ => none
  | n + 1, i5, i7, μ =>
  if ((1 : Int32) <<< (i1 &&& 31)) ≤ i7 then
  (some (i5, i7, μ))
else
  ((l_X11_leaves_95 i1 i2 i3 i4 i5 i6 i7 gF (1 : Int32) (0 : Int32) μ).bind (fun p49 =>
  (f_X11_ones i7 p49.2.2).bind (fun p52 =>
  lt (if p52.1 < i2 then (0 : Int32) else p49.1) (fun x53 =>
  lt (i5 + x53) (fun x56 =>
  lt (i7 + Int32.ofInt 1) (fun x58 =>
  l_X11_leaves_81 i1 i2 i3 i4 i6 n x56 x58 p52.2))))))
def l_X11_leaves_164 (i1 : Int32) (i2 : Int32) (i3 : Int32) (i4 : Int32) (i5 : Int32) (i6 : Int32) : Nat → Int32 → Int32 → gMem → Option (Int32 × Int32 × gMem)
  | 0, _, _, _ => none
  | n + 1, i7, i8, μ =>
  if i8 = 0 then
  (some (i7, i8, μ))
else
  (if i8 = 0 then none else
  lt (i7 - i7 / i8 * i8) (fun x69 =>
  l_X11_leaves_164 i1 i2 i3 i4 i5 i6 n i8 x69 μ))
def f_X11_leaves (i1 : Int32) (i2 : Int32) (i3 : Int32) (i4 : Int32) (μ : gMem) : Option (Int32 × gMem) :=
  (f_X11_in i1.toInt64 (0 : Int64) (6 : Int64) μ).bind (fun p2 =>
  if p2.1 = 0 then
  (some ((-3 : Int32), p2.2))
else
  ((f_X11_in i2.toInt64 (0 : Int64) (6 : Int64) p2.2).bind (fun p6 =>
  if p6.1 = 0 then
  (some ((-3 : Int32), p6.2))
else
  ((f_X11_in i3.toInt64 (0 : Int64) (10 : Int64) p6.2).bind (fun p10 =>
  if p10.1 = 0 then
  (some ((-3 : Int32), p10.2))
else
  ((f_X11_in i4.toInt64 (0 : Int64) (1 : Int64) p10.2).bind (fun p14 =>
  if p14.1 = 0 then
  (some ((-3 : Int32), p14.2))
else
  ((l_X11_leaves_59 i1 i2 i3 i4 (0 : Int32) gF (1 : Int32) (0 : Int32) p14.2).bind (fun p28 =>
  (l_X11_leaves_81 i1 i2 i3 i4 p28.1 gF (0 : Int32) (0 : Int32) p28.2.2).bind (fun p61 =>
  lt p61.1 (fun x63 =>
  lt p28.1 (fun x65 =>
  (l_X11_leaves_164 i1 i2 i3 i4 p61.1 p28.1 gF x63 x65 p61.2.2).bind (fun p75 =>
  if i4 = 0 then
  (if p75.1 = 0 then none else
  some ((p61.1 / p75.1), p75.2.2))
else
  (if p75.1 = 0 then none else
  some ((p28.1 / p75.1), p75.2.2)))))))))))))))
set_option maxRecDepth 100000 in
set_option maxHeartbeats 4000000 in
theorem cl_X11_leaves_59 {κ : Nat → Nat} {N : Nat} {Q : rQ} (hN : 151 ≤ N) (i1 : Int32) (i2 : Int32) (i3 : Int32) (i4 : Int32) (i5 : Int32)  : ∀ (n : Nat) (i6 : Int32) (i7 : Int32) (μ : gMem) (p : Int32 × Int32 × gMem), l_X11_leaves_59 i1 i2 i3 i4 i5 n i6 i7 μ = some p → RR κ N 2 iX11_leaves 78 [(0, .ref (κ 0 + 140)), (1, .int i1), (2, .int i2), (3, .int i3), (4, .int i4), (5, .int i5), (6, .int p.1), (7, .int p.2.1)] [] p.2.2 Q → RR κ N 2 iX11_leaves 59 [(0, .ref (κ 0 + 140)), (1, .int i1), (2, .int i2), (3, .int i3), (4, .int i4), (5, .int i5), (6, .int i6), (7, .int i7)] [] μ Q := by
  intro n
  induction n with
  | zero =>
    intro i6 i7 μ p h k
    unfold l_X11_leaves_59 at h
    cases h
  | succ n ih =>
    intro i6 i7 μ p h k
    unfold l_X11_leaves_59 at h
    refine g_iload (pc := 59) dX11_leaves_59 rfl ?_
    refine g_iload_n (pc := 61) dX11_leaves_61 rfl rfl ?_
    refine g_icmp_ge (pc := 62) 78 dX11_leaves_62 (by decide) (fun hc23 => ?_) (fun hc23 => ?_)
    · rw [if_pos hc23] at h
      cases h
      exact k
    · rw [if_neg hc23] at h
      refine g_iload (pc := 65) dX11_leaves_65 rfl ?_
      refine g_bipush (pc := 67) (v := (10 : Int32)) dX11_leaves_67 rfl ?_
      refine g_imul (pc := 69) dX11_leaves_69 ?_
      refine g_istore (pc := 70) (lv' := fun y => [(0, .ref (κ 0 + 140)), (1, .int i1), (2, .int i2), (3, .int i3), (4, .int i4), (5, .int i5), (6, .int y), (7, .int i7)]) dX11_leaves_70 (Nat.le_of_ble_eq_true rfl) (fun _ => rfl) (fun x24 e25 => ?_)
      rw [lt_of e25] at h
      refine g_iinc (pc := 72) (lv' := fun y => [(0, .ref (κ 0 + 140)), (1, .int i1), (2, .int i2), (3, .int i3), (4, .int i4), (5, .int i5), (6, .int x24), (7, .int y)]) dX11_leaves_72 rfl (Nat.le_of_ble_eq_true rfl) (fun _ => rfl) (fun x26 e27 => ?_)
      rw [lt_of e27] at h
      refine g_goto (pc := 75) 59 dX11_leaves_75 (by decide) ?_
      refine g_lv (lv' := [(0, .ref (κ 0 + 140)), (1, .int i1), (2, .int i2), (3, .int i3), (4, .int i4), (5, .int i5), (6, .int x24), (7, .int x26)]) rfl ?_
      exact ih _ _ _ _ h k
set_option maxRecDepth 100000 in
set_option maxHeartbeats 4000000 in
theorem cl_X11_leaves_95 {κ : Nat → Nat} {N : Nat} {Q : rQ} (hN : 151 ≤ N) (i1 : Int32) (i2 : Int32) (i3 : Int32) (i4 : Int32) (i5 : Int32) (i6 : Int32) (i7 : Int32)  : ∀ (n : Nat) (i8 : Int32) (i9 : Int32) (μ : gMem) (p : Int32 × Int32 × gMem), l_X11_leaves_95 i1 i2 i3 i4 i5 i6 i7 n i8 i9 μ = some p → RR κ N 2 iX11_leaves 130 [(0, .ref (κ 0 + 140)), (1, .int i1), (2, .int i2), (3, .int i3), (4, .int i4), (5, .int i5), (6, .int i6), (7, .int i7), (8, .int p.1), (9, .int p.2.1)] [] p.2.2 Q → RR κ N 2 iX11_leaves 95 [(0, .ref (κ 0 + 140)), (1, .int i1), (2, .int i2), (3, .int i3), (4, .int i4), (5, .int i5), (6, .int i6), (7, .int i7), (8, .int i8), (9, .int i9)] [] μ Q := by
  intro n
  induction n with
  | zero =>
    intro i8 i9 μ p h k
    unfold l_X11_leaves_95 at h
    cases h
  | succ n ih =>
    intro i8 i9 μ p h k
    unfold l_X11_leaves_95 at h
    refine g_iload (pc := 95) dX11_leaves_95 rfl ?_
    refine g_iload_n (pc := 97) dX11_leaves_97 rfl rfl ?_
    refine g_icmp_ge (pc := 98) 130 dX11_leaves_98 (by decide) (fun hc37 => ?_) (fun hc37 => ?_)
    · rw [if_pos hc37] at h
      cases h
      exact k
    · rw [if_neg hc37] at h
      refine g_iload (pc := 101) dX11_leaves_101 rfl ?_
      refine g_iload (pc := 103) dX11_leaves_103 rfl ?_
      refine g_iload (pc := 105) dX11_leaves_105 rfl ?_
      obtain ⟨p39, hp38, h⟩ := Option.bind_eq_some_iff.mp h
      refine r_callS (pc := 107) (c_X11_has hN i7 i9 μ hp38) yS_X11_has pX11_has mL_X11_203 dX11_leaves_107 (Nat.le_of_ble_eq_true rfl) (Nat.le_of_ble_eq_true rfl) rfl (rK_z (fun hz40 => ?_))
      have key43 : ∀ x41 : Int32, x41 = (if p39.1 = 0 then ((10 : Int32) - i3) else i3) → RR κ N 2 iX11_leaves 121 [(0, .ref (κ 0 + 140)), (1, .int i1), (2, .int i2), (3, .int i3), (4, .int i4), (5, .int i5), (6, .int i6), (7, .int i7), (8, .int i8), (9, .int i9)] [.int x41, .int i8] p39.2 Q := by
        intro x41 e42
        rw [lt_of e42] at h
        refine g_imul (pc := 121) dX11_leaves_121 ?_
        refine g_istore (pc := 122) (lv' := fun y => [(0, .ref (κ 0 + 140)), (1, .int i1), (2, .int i2), (3, .int i3), (4, .int i4), (5, .int i5), (6, .int i6), (7, .int i7), (8, .int y), (9, .int i9)]) dX11_leaves_122 (Nat.le_of_ble_eq_true rfl) (fun _ => rfl) (fun x44 e45 => ?_)
        rw [lt_of e45] at h
        refine g_iinc (pc := 124) (lv' := fun y => [(0, .ref (κ 0 + 140)), (1, .int i1), (2, .int i2), (3, .int i3), (4, .int i4), (5, .int i5), (6, .int i6), (7, .int i7), (8, .int x44), (9, .int y)]) dX11_leaves_124 rfl (Nat.le_of_ble_eq_true rfl) (fun _ => rfl) (fun x46 e47 => ?_)
        rw [lt_of e47] at h
        refine g_goto (pc := 127) 95 dX11_leaves_127 (by decide) ?_
        refine g_lv (lv' := [(0, .ref (κ 0 + 140)), (1, .int i1), (2, .int i2), (3, .int i3), (4, .int i4), (5, .int i5), (6, .int i6), (7, .int i7), (8, .int x44), (9, .int x46)]) rfl ?_
        exact ih _ _ _ _ h k
      refine g_if_eq (pc := 110) 117 dX11_leaves_110 (by decide) (fun hc48 => ?_) (fun hc48 => ?_)
      · refine g_bipush (pc := 117) (v := (10 : Int32)) dX11_leaves_117 rfl ?_
        refine g_iload_n (pc := 119) dX11_leaves_119 rfl rfl ?_
        refine g_isub (pc := 120) dX11_leaves_120 ?_
        exact key43 _ (by rw [if_pos hc48])
      · refine g_iload_n (pc := 113) dX11_leaves_113 rfl rfl ?_
        refine g_goto (pc := 114) 121 dX11_leaves_114 (by decide) ?_
        exact key43 _ (by rw [if_neg hc48])
set_option maxRecDepth 100000 in
set_option maxHeartbeats 4000000 in
theorem cl_X11_leaves_81 {κ : Nat → Nat} {N : Nat} {Q : rQ} (hN : 151 ≤ N) (i1 : Int32) (i2 : Int32) (i3 : Int32) (i4 : Int32) (i6 : Int32)  : ∀ (n : Nat) (i5 : Int32) (i7 : Int32) (μ : gMem) (p : Int32 × Int32 × gMem), l_X11_leaves_81 i1 i2 i3 i4 i6 n i5 i7 μ = some p → RR κ N 2 iX11_leaves 156 [(0, .ref (κ 0 + 140)), (1, .int i1), (2, .int i2), (3, .int i3), (4, .int i4), (5, .int p.1), (6, .int i6), (7, .int p.2.1)] [] p.2.2 Q → RR κ N 2 iX11_leaves 81 [(0, .ref (κ 0 + 140)), (1, .int i1), (2, .int i2), (3, .int i3), (4, .int i4), (5, .int i5), (6, .int i6), (7, .int i7)] [] μ Q := by
  intro n
  induction n with
  | zero =>
    intro i5 i7 μ p h k
    unfold l_X11_leaves_81 at h
    cases h
  | succ n ih =>
    intro i5 i7 μ p h k
    unfold l_X11_leaves_81 at h
    refine g_iload (pc := 81) dX11_leaves_81 rfl ?_
    refine g_iconst (pc := 83) (v := (1 : Int32)) dX11_leaves_83 rfl ?_
    refine g_iload_n (pc := 84) dX11_leaves_84 rfl rfl ?_
    refine g_ishl (pc := 85) dX11_leaves_85 ?_
    refine g_icmp_ge (pc := 86) 156 dX11_leaves_86 (by decide) (fun hc32 => ?_) (fun hc32 => ?_)
    · rw [if_pos hc32] at h
      cases h
      exact k
    · rw [if_neg hc32] at h
      refine g_iconst (pc := 89) (v := (1 : Int32)) dX11_leaves_89 rfl ?_
      refine g_istore (pc := 90) (lv' := fun y => [(0, .ref (κ 0 + 140)), (1, .int i1), (2, .int i2), (3, .int i3), (4, .int i4), (5, .int i5), (6, .int i6), (7, .int i7), (8, .int y)]) dX11_leaves_90 (Nat.le_of_ble_eq_true rfl) (fun _ => rfl) (fun y33 e34 => ?_)
      rw [e34]
      refine g_iconst (pc := 92) (v := (0 : Int32)) dX11_leaves_92 rfl ?_
      refine g_istore (pc := 93) (lv' := fun y => [(0, .ref (κ 0 + 140)), (1, .int i1), (2, .int i2), (3, .int i3), (4, .int i4), (5, .int i5), (6, .int i6), (7, .int i7), (8, .int (1 : Int32)), (9, .int y)]) dX11_leaves_93 (Nat.le_of_ble_eq_true rfl) (fun _ => rfl) (fun y35 e36 => ?_)
      rw [e36]
      obtain ⟨p49, hp50, h⟩ := Option.bind_eq_some_iff.mp h
      refine cl_X11_leaves_95 hN i1 i2 i3 i4 i5 i6 i7  gF (1 : Int32) (0 : Int32) _ _ hp50 ?_
      refine g_iload (pc := 130) dX11_leaves_130 rfl ?_
      refine g_iload (pc := 132) dX11_leaves_132 rfl ?_
      obtain ⟨p52, hp51, h⟩ := Option.bind_eq_some_iff.mp h
      refine r_callS (pc := 134) (c_X11_ones hN i7 p49.2.2 hp51) yS_X11_ones pX11_ones mL_X11_200 dX11_leaves_134 (Nat.le_of_ble_eq_true rfl) (Nat.le_of_ble_eq_true rfl) rfl (rK_i ?_)
      refine g_iload_n (pc := 137) dX11_leaves_137 rfl rfl ?_
      have key55 : ∀ x53 : Int32, x53 = (if p52.1 < i2 then (0 : Int32) else p49.1) → RR κ N 2 iX11_leaves 147 [(0, .ref (κ 0 + 140)), (1, .int i1), (2, .int i2), (3, .int i3), (4, .int i4), (5, .int i5), (6, .int i6), (7, .int i7), (8, .int p49.1), (9, .int p49.2.1)] [.int x53, .int i5] p52.2 Q := by
        intro x53 e54
        rw [lt_of e54] at h
        refine g_iadd (pc := 147) dX11_leaves_147 ?_
        refine g_istore (pc := 148) (lv' := fun y => [(0, .ref (κ 0 + 140)), (1, .int i1), (2, .int i2), (3, .int i3), (4, .int i4), (5, .int y), (6, .int i6), (7, .int i7), (8, .int p49.1), (9, .int p49.2.1)]) dX11_leaves_148 (Nat.le_of_ble_eq_true rfl) (fun _ => rfl) (fun x56 e57 => ?_)
        rw [lt_of e57] at h
        refine g_iinc (pc := 150) (lv' := fun y => [(0, .ref (κ 0 + 140)), (1, .int i1), (2, .int i2), (3, .int i3), (4, .int i4), (5, .int x56), (6, .int i6), (7, .int y), (8, .int p49.1), (9, .int p49.2.1)]) dX11_leaves_150 rfl (Nat.le_of_ble_eq_true rfl) (fun _ => rfl) (fun x58 e59 => ?_)
        rw [lt_of e59] at h
        refine g_goto (pc := 153) 81 dX11_leaves_153 (by decide) ?_
        refine g_lv (lv' := [(0, .ref (κ 0 + 140)), (1, .int i1), (2, .int i2), (3, .int i3), (4, .int i4), (5, .int x56), (6, .int i6), (7, .int x58)]) rfl ?_
        exact ih _ _ _ _ h k
      refine g_icmp_lt (pc := 138) 146 dX11_leaves_138 (by decide) (fun hc60 => ?_) (fun hc60 => ?_)
      · refine g_iconst (pc := 146) (v := (0 : Int32)) dX11_leaves_146 rfl ?_
        exact key55 _ (by rw [if_pos hc60])
      · refine g_iload (pc := 141) dX11_leaves_141 rfl ?_
        refine g_goto (pc := 143) 147 dX11_leaves_143 (by decide) ?_
        exact key55 _ (by rw [if_neg hc60])
set_option maxRecDepth 100000 in
set_option maxHeartbeats 4000000 in
theorem cl_X11_leaves_164 {κ : Nat → Nat} {N : Nat} {Q : rQ} (hN : 151 ≤ N) (i1 : Int32) (i2 : Int32) (i3 : Int32) (i4 : Int32) (i5 : Int32) (i6 : Int32)  : ∀ (n : Nat) (i7 : Int32) (i8 : Int32) (μ : gMem) (p : Int32 × Int32 × gMem), l_X11_leaves_164 i1 i2 i3 i4 i5 i6 n i7 i8 μ = some p → RR κ N 2 iX11_leaves 187 [(0, .ref (κ 0 + 140)), (1, .int i1), (2, .int i2), (3, .int i3), (4, .int i4), (5, .int i5), (6, .int i6), (7, .int p.1), (8, .int p.2.1)] [] p.2.2 Q → RR κ N 2 iX11_leaves 164 [(0, .ref (κ 0 + 140)), (1, .int i1), (2, .int i2), (3, .int i3), (4, .int i4), (5, .int i5), (6, .int i6), (7, .int i7), (8, .int i8)] [] μ Q := by
  intro n
  induction n with
  | zero =>
    intro i7 i8 μ p h k
    unfold l_X11_leaves_164 at h
    cases h
  | succ n ih =>
    intro i7 i8 μ p h k
    unfold l_X11_leaves_164 at h
    refine g_iload (pc := 164) dX11_leaves_164 rfl ?_
    refine g_if_eq (pc := 166) 187 dX11_leaves_166 (by decide) (fun hc67 => ?_) (fun hc67 => ?_)
    · rw [if_pos hc67] at h
      cases h
      exact k
    · rw [if_neg hc67] at h
      refine g_iload (pc := 169) dX11_leaves_169 rfl ?_
      refine g_iload (pc := 171) dX11_leaves_171 rfl ?_
      obtain ⟨hg68, h⟩ := gd_some' h
      refine g_irem (pc := 173) dX11_leaves_173 hg68 ?_
      refine g_istore (pc := 174) (lv' := fun y => [(0, .ref (κ 0 + 140)), (1, .int i1), (2, .int i2), (3, .int i3), (4, .int i4), (5, .int i5), (6, .int i6), (7, .int i7), (8, .int i8), (9, .int y)]) dX11_leaves_174 (Nat.le_of_ble_eq_true rfl) (fun _ => rfl) (fun x69 e70 => ?_)
      rw [lt_of e70] at h
      refine g_iload (pc := 176) dX11_leaves_176 rfl ?_
      refine g_istore (pc := 178) (lv' := fun y => [(0, .ref (κ 0 + 140)), (1, .int i1), (2, .int i2), (3, .int i3), (4, .int i4), (5, .int i5), (6, .int i6), (7, .int y), (8, .int i8), (9, .int x69)]) dX11_leaves_178 (Nat.le_of_ble_eq_true rfl) (fun _ => rfl) (fun y71 e72 => ?_)
      rw [e72]
      refine g_iload (pc := 180) dX11_leaves_180 rfl ?_
      refine g_istore (pc := 182) (lv' := fun y => [(0, .ref (κ 0 + 140)), (1, .int i1), (2, .int i2), (3, .int i3), (4, .int i4), (5, .int i5), (6, .int i6), (7, .int i8), (8, .int y), (9, .int x69)]) dX11_leaves_182 (Nat.le_of_ble_eq_true rfl) (fun _ => rfl) (fun y73 e74 => ?_)
      rw [e74]
      refine g_goto (pc := 184) 164 dX11_leaves_184 (by decide) ?_
      refine g_lv (lv' := [(0, .ref (κ 0 + 140)), (1, .int i1), (2, .int i2), (3, .int i3), (4, .int i4), (5, .int i5), (6, .int i6), (7, .int i8), (8, .int x69)]) rfl ?_
      exact ih _ _ _ _ h k
set_option maxRecDepth 100000 in
set_option maxHeartbeats 4000000 in
theorem c_X11_leaves {κ : Nat → Nat} {N : Nat} (hN : 151 ≤ N) (i1 : Int32) (i2 : Int32) (i3 : Int32) (i4 : Int32)  (μ : gMem) {r : Int32} {μ' : gMem} (h : f_X11_leaves i1 i2 i3 i4 μ = some (r, μ')) : CT2 κ N 2 yX11_leaves iX11_leaves [.ref (κ 0 + 140), .int i1, .int i2, .int i3, .int i4] μ (qI r μ') := by
  refine CT2.of (by decide) rfl rfl (Nat.le_of_ble_eq_true rfl) ?_
  unfold f_X11_leaves at h
  show RR κ N 2 iX11_leaves 0 [(0, .ref (κ 0 + 140)), (1, .int i1), (2, .int i2), (3, .int i3), (4, .int i4)] [] μ _
  refine g_iload_n (pc := 0) dX11_leaves_0 rfl rfl ?_
  refine g_i2l (pc := 1) dX11_leaves_1 ?_
  refine g_lconst (pc := 2) (v := (0 : Int64)) dX11_leaves_2 rfl ?_
  refine g_ldc2 (pc := 3) kL_X11_216 dX11_leaves_3 ?_
  obtain ⟨p2, hp1, h⟩ := Option.bind_eq_some_iff.mp h
  refine r_callS (pc := 6) (c_X11_in hN i1.toInt64 (0 : Int64) (6 : Int64) μ hp1) yS_X11_in pX11_in mL_X11_49 dX11_leaves_6 (Nat.le_of_ble_eq_true rfl) (Nat.le_of_ble_eq_true rfl) rfl (rK_z (fun hz3 => ?_))
  refine g_if_eq (pc := 9) 47 dX11_leaves_9 (by decide) (fun hc4 => ?_) (fun hc4 => ?_)
  · rw [if_pos hc4] at h
    refine g_bipush (pc := 47) (v := (-3 : Int32)) dX11_leaves_47 rfl ?_
    cases h
    exact r_iret dX11_leaves_49 rfl rfl rfl
  · rw [if_neg hc4] at h
    refine g_iload_n (pc := 12) dX11_leaves_12 rfl rfl ?_
    refine g_i2l (pc := 13) dX11_leaves_13 ?_
    refine g_lconst (pc := 14) (v := (0 : Int64)) dX11_leaves_14 rfl ?_
    refine g_ldc2 (pc := 15) kL_X11_216 dX11_leaves_15 ?_
    obtain ⟨p6, hp5, h⟩ := Option.bind_eq_some_iff.mp h
    refine r_callS (pc := 18) (c_X11_in hN i2.toInt64 (0 : Int64) (6 : Int64) p2.2 hp5) yS_X11_in pX11_in mL_X11_49 dX11_leaves_18 (Nat.le_of_ble_eq_true rfl) (Nat.le_of_ble_eq_true rfl) rfl (rK_z (fun hz7 => ?_))
    refine g_if_eq (pc := 21) 47 dX11_leaves_21 (by decide) (fun hc8 => ?_) (fun hc8 => ?_)
    · rw [if_pos hc8] at h
      refine g_bipush (pc := 47) (v := (-3 : Int32)) dX11_leaves_47 rfl ?_
      cases h
      exact r_iret dX11_leaves_49 rfl rfl rfl
    · rw [if_neg hc8] at h
      refine g_iload_n (pc := 24) dX11_leaves_24 rfl rfl ?_
      refine g_i2l (pc := 25) dX11_leaves_25 ?_
      refine g_lconst (pc := 26) (v := (0 : Int64)) dX11_leaves_26 rfl ?_
      refine g_ldc2 (pc := 27) kL_X11_218 dX11_leaves_27 ?_
      obtain ⟨p10, hp9, h⟩ := Option.bind_eq_some_iff.mp h
      refine r_callS (pc := 30) (c_X11_in hN i3.toInt64 (0 : Int64) (10 : Int64) p6.2 hp9) yS_X11_in pX11_in mL_X11_49 dX11_leaves_30 (Nat.le_of_ble_eq_true rfl) (Nat.le_of_ble_eq_true rfl) rfl (rK_z (fun hz11 => ?_))
      refine g_if_eq (pc := 33) 47 dX11_leaves_33 (by decide) (fun hc12 => ?_) (fun hc12 => ?_)
      · rw [if_pos hc12] at h
        refine g_bipush (pc := 47) (v := (-3 : Int32)) dX11_leaves_47 rfl ?_
        cases h
        exact r_iret dX11_leaves_49 rfl rfl rfl
      · rw [if_neg hc12] at h
        refine g_iload (pc := 36) dX11_leaves_36 rfl ?_
        refine g_i2l (pc := 38) dX11_leaves_38 ?_
        refine g_lconst (pc := 39) (v := (0 : Int64)) dX11_leaves_39 rfl ?_
        refine g_lconst (pc := 40) (v := (1 : Int64)) dX11_leaves_40 rfl ?_
        obtain ⟨p14, hp13, h⟩ := Option.bind_eq_some_iff.mp h
        refine r_callS (pc := 41) (c_X11_in hN i4.toInt64 (0 : Int64) (1 : Int64) p10.2 hp13) yS_X11_in pX11_in mL_X11_49 dX11_leaves_41 (Nat.le_of_ble_eq_true rfl) (Nat.le_of_ble_eq_true rfl) rfl (rK_z (fun hz15 => ?_))
        refine g_if_ne (pc := 44) 50 dX11_leaves_44 (by decide) (fun hc16 => ?_) (fun hc16 => ?_)
        · rw [if_neg hc16] at h
          refine g_iconst (pc := 50) (v := (0 : Int32)) dX11_leaves_50 rfl ?_
          refine g_istore (pc := 51) (lv' := fun y => [(0, .ref (κ 0 + 140)), (1, .int i1), (2, .int i2), (3, .int i3), (4, .int i4), (5, .int y)]) dX11_leaves_51 (Nat.le_of_ble_eq_true rfl) (fun _ => rfl) (fun y17 e18 => ?_)
          rw [e18]
          refine g_iconst (pc := 53) (v := (1 : Int32)) dX11_leaves_53 rfl ?_
          refine g_istore (pc := 54) (lv' := fun y => [(0, .ref (κ 0 + 140)), (1, .int i1), (2, .int i2), (3, .int i3), (4, .int i4), (5, .int (0 : Int32)), (6, .int y)]) dX11_leaves_54 (Nat.le_of_ble_eq_true rfl) (fun _ => rfl) (fun y19 e20 => ?_)
          rw [e20]
          refine g_iconst (pc := 56) (v := (0 : Int32)) dX11_leaves_56 rfl ?_
          refine g_istore (pc := 57) (lv' := fun y => [(0, .ref (κ 0 + 140)), (1, .int i1), (2, .int i2), (3, .int i3), (4, .int i4), (5, .int (0 : Int32)), (6, .int (1 : Int32)), (7, .int y)]) dX11_leaves_57 (Nat.le_of_ble_eq_true rfl) (fun _ => rfl) (fun y21 e22 => ?_)
          rw [e22]
          obtain ⟨p28, hp29, h⟩ := Option.bind_eq_some_iff.mp h
          refine cl_X11_leaves_59 hN i1 i2 i3 i4 (0 : Int32)  gF (1 : Int32) (0 : Int32) _ _ hp29 ?_
          refine g_iconst (pc := 78) (v := (0 : Int32)) dX11_leaves_78 rfl ?_
          refine g_istore (pc := 79) (lv' := fun y => [(0, .ref (κ 0 + 140)), (1, .int i1), (2, .int i2), (3, .int i3), (4, .int i4), (5, .int (0 : Int32)), (6, .int p28.1), (7, .int y)]) dX11_leaves_79 (Nat.le_of_ble_eq_true rfl) (fun _ => rfl) (fun y30 e31 => ?_)
          rw [e31]
          obtain ⟨p61, hp62, h⟩ := Option.bind_eq_some_iff.mp h
          refine cl_X11_leaves_81 hN i1 i2 i3 i4 p28.1  gF (0 : Int32) (0 : Int32) _ _ hp62 ?_
          refine g_iload (pc := 156) dX11_leaves_156 rfl ?_
          refine g_istore (pc := 158) (lv' := fun y => [(0, .ref (κ 0 + 140)), (1, .int i1), (2, .int i2), (3, .int i3), (4, .int i4), (5, .int p61.1), (6, .int p28.1), (7, .int y)]) dX11_leaves_158 (Nat.le_of_ble_eq_true rfl) (fun _ => rfl) (fun x63 e64 => ?_)
          rw [lt_of e64] at h
          refine g_iload (pc := 160) dX11_leaves_160 rfl ?_
          refine g_istore (pc := 162) (lv' := fun y => [(0, .ref (κ 0 + 140)), (1, .int i1), (2, .int i2), (3, .int i3), (4, .int i4), (5, .int p61.1), (6, .int p28.1), (7, .int x63), (8, .int y)]) dX11_leaves_162 (Nat.le_of_ble_eq_true rfl) (fun _ => rfl) (fun x65 e66 => ?_)
          rw [lt_of e66] at h
          obtain ⟨p75, hp76, h⟩ := Option.bind_eq_some_iff.mp h
          refine cl_X11_leaves_164 hN i1 i2 i3 i4 p61.1 p28.1  gF x63 x65 _ _ hp76 ?_
          refine g_iload (pc := 187) dX11_leaves_187 rfl ?_
          refine g_if_ne (pc := 189) 200 dX11_leaves_189 (by decide) (fun hc77 => ?_) (fun hc77 => ?_)
          · rw [if_neg hc77] at h
            refine g_iload (pc := 200) dX11_leaves_200 rfl ?_
            refine g_iload (pc := 202) dX11_leaves_202 rfl ?_
            obtain ⟨hg78, h⟩ := gd_some' h
            refine g_idiv (pc := 204) dX11_leaves_204 hg78 ?_
            cases h
            exact r_iret dX11_leaves_205 rfl rfl rfl
          · rw [if_pos hc77] at h
            refine g_iload (pc := 192) dX11_leaves_192 rfl ?_
            refine g_iload (pc := 194) dX11_leaves_194 rfl ?_
            obtain ⟨hg79, h⟩ := gd_some' h
            refine g_idiv (pc := 196) dX11_leaves_196 hg79 ?_
            refine g_goto (pc := 197) 205 dX11_leaves_197 (by decide) ?_
            cases h
            exact r_iret dX11_leaves_205 rfl rfl rfl
        · rw [if_pos hc16] at h
          refine g_bipush (pc := 47) (v := (-3 : Int32)) dX11_leaves_47 rfl ?_
          cases h
          exact r_iret dX11_leaves_49 rfl rfl rfl

def f_X11_count (i1 : Int32) (μ : gMem) : Option (Int32 × gMem) :=
  if i1 = (0 : Int32) then
  (some ((μ 140 1), μ))
else
  (if i1 = (1 : Int32) then
  (some ((μ 142 (30 : Int32).toNatClampNeg), μ))
else
  (if i1 = (2 : Int32) then
  (some ((μ 142 (31 : Int32).toNatClampNeg), μ))
else
  (if i1 = (3 : Int32) then
  (some ((μ 141 (0 : Int32).toNatClampNeg), μ))
else
  (if i1 = (4 : Int32) then
  (some ((μ 142 (32 : Int32).toNatClampNeg), μ))
else
  (if i1 = (5 : Int32) then
  (some ((μ 142 (33 : Int32).toNatClampNeg), μ))
else
  (if i1 = (6 : Int32) then
  ((f_X11_working  μ).bind (fun p13 =>
  some (p13.1, p13.2)))
else
  (if i1 = (7 : Int32) then
  (some ((μ 142 (34 : Int32).toNatClampNeg), μ))
else
  (if i1 = (8 : Int32) then
  (some ((μ 140 19), μ))
else
  (if i1 = (9 : Int32) then
  (some ((μ 140 13), μ))
else
  (if i1 = (10 : Int32) then
  (some ((μ 140 4), μ))
else
  (some ((-3 : Int32), μ))))))))))))
set_option maxRecDepth 100000 in
set_option maxHeartbeats 4000000 in
theorem c_X11_count {κ : Nat → Nat} {N : Nat} (hN : 151 ≤ N) (i1 : Int32)  (μ : gMem) {r : Int32} {μ' : gMem} (h : f_X11_count i1 μ = some (r, μ')) : CT2 κ N 2 yX11_count iX11_count [.ref (κ 0 + 140), .int i1] μ (qI r μ') := by
  refine CT2.of (by decide) rfl rfl (Nat.le_of_ble_eq_true rfl) ?_
  unfold f_X11_count at h
  show RR κ N 2 iX11_count 0 [(0, .ref (κ 0 + 140)), (1, .int i1)] [] μ _
  refine g_iload_n (pc := 0) dX11_count_0 rfl rfl ?_
  by_cases hc1 : i1 = (0 : Int32)
  · rw [if_pos hc1] at h
    refine g_tableIn (pc := 1) 60 dX11_count_1 (by rw [hc1]; decide) (by rw [hc1]; decide) (by rw [hc1]; rfl) (by decide) ?_
    refine g_aload_n (pc := 60) dX11_count_60 rfl rfl ?_
    refine gf_X11_45 (pc := 61) rfl dX11_count_61 (Nat.lt_of_lt_of_le (by decide) hN) kd_140 ?_
    cases h
    exact r_iret dX11_count_64 rfl rfl rfl
  · rw [if_neg hc1] at h
    by_cases hc2 : i1 = (1 : Int32)
    · rw [if_pos hc2] at h
      refine g_tableIn (pc := 1) 65 dX11_count_1 (by rw [hc2]; decide) (by rw [hc2]; decide) (by rw [hc2]; rfl) (by decide) ?_
      refine g_aload_n (pc := 65) dX11_count_65 rfl rfl ?_
      refine gf_X11_13 (pc := 66) rfl dX11_count_66 (Nat.lt_of_lt_of_le (by decide) hN) kd_140 ?_
      refine g_bipush (pc := 69) (v := (30 : Int32)) dX11_count_69 rfl ?_
      refine r_iald (pc := 71) 35 dX11_count_71 (Nat.lt_of_lt_of_le (by decide) hN) kd_142 ln_142 (by decide) ?_
      cases h
      exact r_iret dX11_count_72 rfl rfl rfl
    · rw [if_neg hc2] at h
      by_cases hc3 : i1 = (2 : Int32)
      · rw [if_pos hc3] at h
        refine g_tableIn (pc := 1) 73 dX11_count_1 (by rw [hc3]; decide) (by rw [hc3]; decide) (by rw [hc3]; rfl) (by decide) ?_
        refine g_aload_n (pc := 73) dX11_count_73 rfl rfl ?_
        refine gf_X11_13 (pc := 74) rfl dX11_count_74 (Nat.lt_of_lt_of_le (by decide) hN) kd_140 ?_
        refine g_bipush (pc := 77) (v := (31 : Int32)) dX11_count_77 rfl ?_
        refine r_iald (pc := 79) 35 dX11_count_79 (Nat.lt_of_lt_of_le (by decide) hN) kd_142 ln_142 (by decide) ?_
        cases h
        exact r_iret dX11_count_80 rfl rfl rfl
      · rw [if_neg hc3] at h
        by_cases hc4 : i1 = (3 : Int32)
        · rw [if_pos hc4] at h
          refine g_tableIn (pc := 1) 81 dX11_count_1 (by rw [hc4]; decide) (by rw [hc4]; decide) (by rw [hc4]; rfl) (by decide) ?_
          refine g_aload_n (pc := 81) dX11_count_81 rfl rfl ?_
          refine gf_X11_7 (pc := 82) rfl dX11_count_82 (Nat.lt_of_lt_of_le (by decide) hN) kd_140 ?_
          refine g_iconst (pc := 85) (v := (0 : Int32)) dX11_count_85 rfl ?_
          refine r_iald (pc := 86) 31 dX11_count_86 (Nat.lt_of_lt_of_le (by decide) hN) kd_141 ln_141 (by decide) ?_
          cases h
          exact r_iret dX11_count_87 rfl rfl rfl
        · rw [if_neg hc4] at h
          by_cases hc5 : i1 = (4 : Int32)
          · rw [if_pos hc5] at h
            refine g_tableIn (pc := 1) 88 dX11_count_1 (by rw [hc5]; decide) (by rw [hc5]; decide) (by rw [hc5]; rfl) (by decide) ?_
            refine g_aload_n (pc := 88) dX11_count_88 rfl rfl ?_
            refine gf_X11_13 (pc := 89) rfl dX11_count_89 (Nat.lt_of_lt_of_le (by decide) hN) kd_140 ?_
            refine g_bipush (pc := 92) (v := (32 : Int32)) dX11_count_92 rfl ?_
            refine r_iald (pc := 94) 35 dX11_count_94 (Nat.lt_of_lt_of_le (by decide) hN) kd_142 ln_142 (by decide) ?_
            cases h
            exact r_iret dX11_count_95 rfl rfl rfl
          · rw [if_neg hc5] at h
            by_cases hc6 : i1 = (5 : Int32)
            · rw [if_pos hc6] at h
              refine g_tableIn (pc := 1) 96 dX11_count_1 (by rw [hc6]; decide) (by rw [hc6]; decide) (by rw [hc6]; rfl) (by decide) ?_
              refine g_aload_n (pc := 96) dX11_count_96 rfl rfl ?_
              refine gf_X11_13 (pc := 97) rfl dX11_count_97 (Nat.lt_of_lt_of_le (by decide) hN) kd_140 ?_
              refine g_bipush (pc := 100) (v := (33 : Int32)) dX11_count_100 rfl ?_
              refine r_iald (pc := 102) 35 dX11_count_102 (Nat.lt_of_lt_of_le (by decide) hN) kd_142 ln_142 (by decide) ?_
              cases h
              exact r_iret dX11_count_103 rfl rfl rfl
            · rw [if_neg hc6] at h
              by_cases hc7 : i1 = (6 : Int32)
              · rw [if_pos hc7] at h
                refine g_tableIn (pc := 1) 104 dX11_count_1 (by rw [hc7]; decide) (by rw [hc7]; decide) (by rw [hc7]; rfl) (by decide) ?_
                refine g_aload_n (pc := 104) dX11_count_104 rfl rfl ?_
                obtain ⟨p13, hp12, h⟩ := Option.bind_eq_some_iff.mp h
                refine r_callV (ci := 10) (pc := 105) (c_X11_working hN  μ hp12) yV_X11_working ⟨rfl, by decide⟩ pX11_working mL_X11_197 dX11_count_105 (Nat.le_of_ble_eq_true rfl) (Nat.le_of_ble_eq_true rfl) (Nat.lt_of_lt_of_le (by decide) hN) kd_140 rfl (rK_i ?_)
                cases h
                exact r_iret dX11_count_108 rfl rfl rfl
              · rw [if_neg hc7] at h
                by_cases hc8 : i1 = (7 : Int32)
                · rw [if_pos hc8] at h
                  refine g_tableIn (pc := 1) 109 dX11_count_1 (by rw [hc8]; decide) (by rw [hc8]; decide) (by rw [hc8]; rfl) (by decide) ?_
                  refine g_aload_n (pc := 109) dX11_count_109 rfl rfl ?_
                  refine gf_X11_13 (pc := 110) rfl dX11_count_110 (Nat.lt_of_lt_of_le (by decide) hN) kd_140 ?_
                  refine g_bipush (pc := 113) (v := (34 : Int32)) dX11_count_113 rfl ?_
                  refine r_iald (pc := 115) 35 dX11_count_115 (Nat.lt_of_lt_of_le (by decide) hN) kd_142 ln_142 (by decide) ?_
                  cases h
                  exact r_iret dX11_count_116 rfl rfl rfl
                · rw [if_neg hc8] at h
                  by_cases hc9 : i1 = (8 : Int32)
                  · rw [if_pos hc9] at h
                    refine g_tableIn (pc := 1) 117 dX11_count_1 (by rw [hc9]; decide) (by rw [hc9]; decide) (by rw [hc9]; rfl) (by decide) ?_
                    refine g_aload_n (pc := 117) dX11_count_117 rfl rfl ?_
                    refine gf_X11_127 (pc := 118) rfl dX11_count_118 (Nat.lt_of_lt_of_le (by decide) hN) kd_140 ?_
                    cases h
                    exact r_iret dX11_count_121 rfl rfl rfl
                  · rw [if_neg hc9] at h
                    by_cases hc10 : i1 = (9 : Int32)
                    · rw [if_pos hc10] at h
                      refine g_tableIn (pc := 1) 122 dX11_count_1 (by rw [hc10]; decide) (by rw [hc10]; decide) (by rw [hc10]; rfl) (by decide) ?_
                      refine g_aload_n (pc := 122) dX11_count_122 rfl rfl ?_
                      refine gf_X11_130 (pc := 123) rfl dX11_count_123 (Nat.lt_of_lt_of_le (by decide) hN) kd_140 ?_
                      cases h
                      exact r_iret dX11_count_126 rfl rfl rfl
                    · rw [if_neg hc10] at h
                      by_cases hc11 : i1 = (10 : Int32)
                      · rw [if_pos hc11] at h
                        refine g_tableIn (pc := 1) 127 dX11_count_1 (by rw [hc11]; decide) (by rw [hc11]; decide) (by rw [hc11]; rfl) (by decide) ?_
                        refine g_aload_n (pc := 127) dX11_count_127 rfl rfl ?_
                        refine gf_X11_55 (pc := 128) rfl dX11_count_128 (Nat.lt_of_lt_of_le (by decide) hN) kd_140 ?_
                        cases h
                        exact r_iret dX11_count_131 rfl rfl rfl
                      · rw [if_neg hc11] at h
                        refine g_tableOut (pc := 1) 132 dX11_count_1 (by have q0 := lv_neT hc1 (a := 0) (by decide); have q1 := lv_neT hc2 (a := 1) (by decide); have q2 := lv_neT hc3 (a := 2) (by decide); have q3 := lv_neT hc4 (a := 3) (by decide); have q4 := lv_neT hc5 (a := 4) (by decide); have q5 := lv_neT hc6 (a := 5) (by decide); have q6 := lv_neT hc7 (a := 6) (by decide); have q7 := lv_neT hc8 (a := 7) (by decide); have q8 := lv_neT hc9 (a := 8) (by decide); have q9 := lv_neT hc10 (a := 9) (by decide); have q10 := lv_neT hc11 (a := 10) (by decide); omega) (by decide) ?_
                        refine g_bipush (pc := 132) (v := (-3 : Int32)) dX11_count_132 rfl ?_
                        cases h
                        exact r_iret dX11_count_134 rfl rfl rfl

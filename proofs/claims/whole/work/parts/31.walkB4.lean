def l_X11_note_51  : Nat → Int32 → gMem → Option (Int32 × gMem)
  | 0, _, _ => none
  | n + 1, i1, μ =>
  if (35 : Int32) ≤ i1 then
  (some (i1, μ))
else
  (if inb i1 35 = true then
  if inb (((35 : Int32) * (μ 140 13)) + i1) 280 = true then
  lt (st μ 145 (((35 : Int32) * (μ 140 13)) + i1).toNatClampNeg (μ 142 i1.toNatClampNeg)) (fun m6 =>
  lt (i1 + Int32.ofInt 1) (fun x9 =>
  l_X11_note_51 n x9 m6)) else none else none)
def l_X11_note_11  : Nat → Int32 → gMem → Option (Int32 × gMem)
  | 0, _, _ => none
  | n + 1, i1, μ =>
  if (245 : Int32) ≤ i1 then
  (some (i1, μ))
else
  (if inb (i1 + (35 : Int32)) 280 = true then
  if inb i1 280 = true then
  lt (st μ 145 i1.toNatClampNeg (μ 145 (i1 + (35 : Int32)).toNatClampNeg)) (fun m19 =>
  lt (i1 + Int32.ofInt 1) (fun x22 =>
  l_X11_note_11 n x22 m19)) else none else none)
def f_X11_note  (μ : gMem) : Option (gMem) :=
  if (μ 140 13) = (8 : Int32) then
  ((l_X11_note_11 gF (0 : Int32) μ).bind (fun p24 =>
  lt (st p24.2 140 13 ((p24.2 140 13) - (1 : Int32))) (fun m26 =>
  (l_X11_note_51 gF (0 : Int32) m26).bind (fun p30 =>
  lt (st p30.2 140 13 ((p30.2 140 13) + (1 : Int32))) (fun m32 =>
  some m32)))))
else
  ((l_X11_note_51 gF (0 : Int32) μ).bind (fun p11 =>
  lt (st p11.2 140 13 ((p11.2 140 13) + (1 : Int32))) (fun m13 =>
  some m13)))
set_option maxRecDepth 100000 in
set_option maxHeartbeats 4000000 in
theorem cl_X11_note_51 {κ : Nat → Nat} {N : Nat} {Q : rQ} (hN : 151 ≤ N)   : ∀ (n : Nat) (i1 : Int32) (μ : gMem) (p : Int32 × gMem), l_X11_note_51 n i1 μ = some p → RR κ N 1 iX11_note 83 [(0, .ref (κ 0 + 140)), (1, .int p.1)] [] p.2 Q → RR κ N 1 iX11_note 51 [(0, .ref (κ 0 + 140)), (1, .int i1)] [] μ Q := by
  intro n
  induction n with
  | zero =>
    intro i1 μ p h k
    unfold l_X11_note_51 at h
    cases h
  | succ n ih =>
    intro i1 μ p h k
    unfold l_X11_note_51 at h
    refine g_iload_n (pc := 51) dX11_note_51 rfl rfl ?_
    refine g_bipush (pc := 52) (v := (35 : Int32)) dX11_note_52 rfl ?_
    refine g_icmp_ge (pc := 54) 83 dX11_note_54 (by decide) (fun hc4 => ?_) (fun hc4 => ?_)
    · rw [if_pos hc4] at h
      cases h
      exact k
    · rw [if_neg hc4] at h
      refine g_aload_n (pc := 57) dX11_note_57 rfl rfl ?_
      refine gf_X11_22 (pc := 58) rfl dX11_note_58 (Nat.lt_of_lt_of_le (by decide) hN) kd_140 ?_
      refine g_bipush (pc := 61) (v := (35 : Int32)) dX11_note_61 rfl ?_
      refine g_aload_n (pc := 63) dX11_note_63 rfl rfl ?_
      refine gf_X11_130 (pc := 64) rfl dX11_note_64 (Nat.lt_of_lt_of_le (by decide) hN) kd_140 ?_
      refine g_imul (pc := 67) dX11_note_67 ?_
      refine g_iload_n (pc := 68) dX11_note_68 rfl rfl ?_
      refine g_iadd (pc := 69) dX11_note_69 ?_
      refine g_aload_n (pc := 70) dX11_note_70 rfl rfl ?_
      refine gf_X11_13 (pc := 71) rfl dX11_note_71 (Nat.lt_of_lt_of_le (by decide) hN) kd_140 ?_
      refine g_iload_n (pc := 74) dX11_note_74 rfl rfl ?_
      obtain ⟨hg5, h⟩ := gd_some h
      refine r_iald (pc := 75) 35 dX11_note_75 (Nat.lt_of_lt_of_le (by decide) hN) kd_142 ln_142 hg5 ?_
      obtain ⟨hg8, h⟩ := gd_some h
      refine r_iast (pc := 76) 280 dX11_note_76 (Nat.lt_of_lt_of_le (by decide) hN) kd_145 ln_145 hg8 (fun m6 e7 => ?_)
      rw [lt_of e7] at h
      refine g_iinc (pc := 77) (lv' := fun y => [(0, .ref (κ 0 + 140)), (1, .int y)]) dX11_note_77 rfl (Nat.le_of_ble_eq_true rfl) (fun _ => rfl) (fun x9 e10 => ?_)
      rw [lt_of e10] at h
      refine g_goto (pc := 80) 51 dX11_note_80 (by decide) ?_
      refine g_lv (lv' := [(0, .ref (κ 0 + 140)), (1, .int x9)]) rfl ?_
      exact ih _ _ _ h k
set_option maxRecDepth 100000 in
set_option maxHeartbeats 4000000 in
theorem cl_X11_note_11 {κ : Nat → Nat} {N : Nat} {Q : rQ} (hN : 151 ≤ N)   : ∀ (n : Nat) (i1 : Int32) (μ : gMem) (p : Int32 × gMem), l_X11_note_11 n i1 μ = some p → RR κ N 1 iX11_note 39 [(0, .ref (κ 0 + 140)), (1, .int p.1)] [] p.2 Q → RR κ N 1 iX11_note 11 [(0, .ref (κ 0 + 140)), (1, .int i1)] [] μ Q := by
  intro n
  induction n with
  | zero =>
    intro i1 μ p h k
    unfold l_X11_note_11 at h
    cases h
  | succ n ih =>
    intro i1 μ p h k
    unfold l_X11_note_11 at h
    refine g_iload_n (pc := 11) dX11_note_11 rfl rfl ?_
    refine g_sipush (pc := 12) (v := (245 : Int32)) dX11_note_12 rfl ?_
    refine g_icmp_ge (pc := 15) 39 dX11_note_15 (by decide) (fun hc17 => ?_) (fun hc17 => ?_)
    · rw [if_pos hc17] at h
      cases h
      exact k
    · rw [if_neg hc17] at h
      refine g_aload_n (pc := 18) dX11_note_18 rfl rfl ?_
      refine gf_X11_22 (pc := 19) rfl dX11_note_19 (Nat.lt_of_lt_of_le (by decide) hN) kd_140 ?_
      refine g_iload_n (pc := 22) dX11_note_22 rfl rfl ?_
      refine g_aload_n (pc := 23) dX11_note_23 rfl rfl ?_
      refine gf_X11_22 (pc := 24) rfl dX11_note_24 (Nat.lt_of_lt_of_le (by decide) hN) kd_140 ?_
      refine g_iload_n (pc := 27) dX11_note_27 rfl rfl ?_
      refine g_bipush (pc := 28) (v := (35 : Int32)) dX11_note_28 rfl ?_
      refine g_iadd (pc := 30) dX11_note_30 ?_
      obtain ⟨hg18, h⟩ := gd_some h
      refine r_iald (pc := 31) 280 dX11_note_31 (Nat.lt_of_lt_of_le (by decide) hN) kd_145 ln_145 hg18 ?_
      obtain ⟨hg21, h⟩ := gd_some h
      refine r_iast (pc := 32) 280 dX11_note_32 (Nat.lt_of_lt_of_le (by decide) hN) kd_145 ln_145 hg21 (fun m19 e20 => ?_)
      rw [lt_of e20] at h
      refine g_iinc (pc := 33) (lv' := fun y => [(0, .ref (κ 0 + 140)), (1, .int y)]) dX11_note_33 rfl (Nat.le_of_ble_eq_true rfl) (fun _ => rfl) (fun x22 e23 => ?_)
      rw [lt_of e23] at h
      refine g_goto (pc := 36) 11 dX11_note_36 (by decide) ?_
      refine g_lv (lv' := [(0, .ref (κ 0 + 140)), (1, .int x22)]) rfl ?_
      exact ih _ _ _ h k
set_option maxRecDepth 100000 in
set_option maxHeartbeats 4000000 in
theorem c_X11_note {κ : Nat → Nat} {N : Nat} (hN : 151 ≤ N)   (μ : gMem) {μ' : gMem} (h : f_X11_note  μ = some μ') : CT2 κ N 1 yX11_note iX11_note [.ref (κ 0 + 140)] μ (qV μ') := by
  refine CT2.of (by decide) rfl rfl (Nat.le_of_ble_eq_true rfl) ?_
  unfold f_X11_note at h
  show RR κ N 1 iX11_note 0 [(0, .ref (κ 0 + 140))] [] μ _
  refine g_aload_n (pc := 0) dX11_note_0 rfl rfl ?_
  refine gf_X11_130 (pc := 1) rfl dX11_note_1 (Nat.lt_of_lt_of_le (by decide) hN) kd_140 ?_
  refine g_bipush (pc := 4) (v := (8 : Int32)) dX11_note_4 rfl ?_
  refine g_icmp_ne (pc := 6) 49 dX11_note_6 (by decide) (fun hc1 => ?_) (fun hc1 => ?_)
  · rw [if_neg hc1] at h
    refine g_iconst (pc := 49) (v := (0 : Int32)) dX11_note_49 rfl ?_
    refine g_istore_n (pc := 50) (lv' := fun y => [(0, .ref (κ 0 + 140)), (1, .int y)]) dX11_note_50 rfl (Nat.le_of_ble_eq_true rfl) (fun _ => rfl) (fun y2 e3 => ?_)
    rw [e3]
    obtain ⟨p11, hp12, h⟩ := Option.bind_eq_some_iff.mp h
    refine cl_X11_note_51 hN   gF (0 : Int32) _ _ hp12 ?_
    refine g_aload_n (pc := 83) dX11_note_83 rfl rfl ?_
    refine g_dup (pc := 84) dX11_note_84 rfl ?_
    refine gf_X11_130 (pc := 85) rfl dX11_note_85 (Nat.lt_of_lt_of_le (by decide) hN) kd_140 ?_
    refine g_iconst (pc := 88) (v := (1 : Int32)) dX11_note_88 rfl ?_
    refine g_iadd (pc := 89) dX11_note_89 ?_
    refine pf_X11_130 (pc := 90) rfl dX11_note_90 (Nat.lt_of_lt_of_le (by decide) hN) kd_140 (fun m13 e14 => ?_)
    rw [lt_of e14] at h
    cases h
    exact r_vret dX11_note_93 rfl rfl
  · rw [if_pos hc1] at h
    refine g_iconst (pc := 9) (v := (0 : Int32)) dX11_note_9 rfl ?_
    refine g_istore_n (pc := 10) (lv' := fun y => [(0, .ref (κ 0 + 140)), (1, .int y)]) dX11_note_10 rfl (Nat.le_of_ble_eq_true rfl) (fun _ => rfl) (fun y15 e16 => ?_)
    rw [e16]
    obtain ⟨p24, hp25, h⟩ := Option.bind_eq_some_iff.mp h
    refine cl_X11_note_11 hN   gF (0 : Int32) _ _ hp25 ?_
    refine g_aload_n (pc := 39) dX11_note_39 rfl rfl ?_
    refine g_dup (pc := 40) dX11_note_40 rfl ?_
    refine gf_X11_130 (pc := 41) rfl dX11_note_41 (Nat.lt_of_lt_of_le (by decide) hN) kd_140 ?_
    refine g_iconst (pc := 44) (v := (1 : Int32)) dX11_note_44 rfl ?_
    refine g_isub (pc := 45) dX11_note_45 ?_
    refine pf_X11_130 (pc := 46) rfl dX11_note_46 (Nat.lt_of_lt_of_le (by decide) hN) kd_140 (fun m26 e27 => ?_)
    rw [lt_of e27] at h
    refine g_iconst (pc := 49) (v := (0 : Int32)) dX11_note_49 rfl ?_
    refine g_istore_n (pc := 50) (lv' := fun y => [(0, .ref (κ 0 + 140)), (1, .int y)]) dX11_note_50 rfl (Nat.le_of_ble_eq_true rfl) (fun _ => rfl) (fun y28 e29 => ?_)
    rw [e29]
    obtain ⟨p30, hp31, h⟩ := Option.bind_eq_some_iff.mp h
    refine cl_X11_note_51 hN   gF (0 : Int32) _ _ hp31 ?_
    refine g_aload_n (pc := 83) dX11_note_83 rfl rfl ?_
    refine g_dup (pc := 84) dX11_note_84 rfl ?_
    refine gf_X11_130 (pc := 85) rfl dX11_note_85 (Nat.lt_of_lt_of_le (by decide) hN) kd_140 ?_
    refine g_iconst (pc := 88) (v := (1 : Int32)) dX11_note_88 rfl ?_
    refine g_iadd (pc := 89) dX11_note_89 ?_
    refine pf_X11_130 (pc := 90) rfl dX11_note_90 (Nat.lt_of_lt_of_le (by decide) hN) kd_140 (fun m32 e33 => ?_)
    rw [lt_of e33] at h
    cases h
    exact r_vret dX11_note_93 rfl rfl

def f_X11_begin (i1 : Int32) (μ : gMem) : Option (Int32 × gMem) :=
  (f_X11_isSister i1 μ).bind (fun p2 =>
  if p2.1 = 0 then
  (some ((-2 : Int32), p2.2))
else
  (if inb ((0 : Int32) + i1) 35 = true then
  if (p2.2 142 ((0 : Int32) + i1).toNatClampNeg) = 0 then
  ((f_X11_note  p2.2).bind (fun m8 =>
  (f_X11_draws i1 m8).bind (fun m10 =>
  if inb ((5 : Int32) + i1) 35 = true then
  some ((m10 142 ((5 : Int32) + i1).toNatClampNeg), m10) else none)))
else
  (some ((-4 : Int32), p2.2)) else none))
set_option maxRecDepth 100000 in
set_option maxHeartbeats 4000000 in
theorem c_X11_begin {κ : Nat → Nat} {N : Nat} (hN : 151 ≤ N) (i1 : Int32)  (μ : gMem) {r : Int32} {μ' : gMem} (h : f_X11_begin i1 μ = some (r, μ')) : CT2 κ N 4 yX11_begin iX11_begin [.ref (κ 0 + 140), .int i1] μ (qI r μ') := by
  refine CT2.of (by decide) rfl rfl (Nat.le_of_ble_eq_true rfl) ?_
  unfold f_X11_begin at h
  show RR κ N 4 iX11_begin 0 [(0, .ref (κ 0 + 140)), (1, .int i1)] [] μ _
  refine g_aload_n (pc := 0) dX11_begin_0 rfl rfl ?_
  refine g_iload_n (pc := 1) dX11_begin_1 rfl rfl ?_
  obtain ⟨p2, hp1, h⟩ := Option.bind_eq_some_iff.mp h
  refine r_callV (ci := 10) (pc := 2) (c_X11_isSister hN i1 μ hp1) yV_X11_isSister ⟨rfl, by decide⟩ pX11_isSister mL_X11_139 dX11_begin_2 (Nat.le_of_ble_eq_true rfl) (Nat.le_of_ble_eq_true rfl) (Nat.lt_of_lt_of_le (by decide) hN) kd_140 rfl (rK_z (fun hz3 => ?_))
  refine g_if_ne (pc := 5) 11 dX11_begin_5 (by decide) (fun hc4 => ?_) (fun hc4 => ?_)
  · rw [if_neg hc4] at h
    refine g_aload_n (pc := 11) dX11_begin_11 rfl rfl ?_
    refine gf_X11_13 (pc := 12) rfl dX11_begin_12 (Nat.lt_of_lt_of_le (by decide) hN) kd_140 ?_
    refine g_iconst (pc := 15) (v := (0 : Int32)) dX11_begin_15 rfl ?_
    refine g_iload_n (pc := 16) dX11_begin_16 rfl rfl ?_
    refine g_iadd (pc := 17) dX11_begin_17 ?_
    obtain ⟨hg5, h⟩ := gd_some h
    refine r_iald (pc := 18) 35 dX11_begin_18 (Nat.lt_of_lt_of_le (by decide) hN) kd_142 ln_142 hg5 ?_
    refine g_if_eq (pc := 19) 25 dX11_begin_19 (by decide) (fun hc6 => ?_) (fun hc6 => ?_)
    · rw [if_pos hc6] at h
      refine g_aload_n (pc := 25) dX11_begin_25 rfl rfl ?_
      obtain ⟨m8, hp7, h⟩ := Option.bind_eq_some_iff.mp h
      refine r_callV (ci := 10) (pc := 26) (c_X11_note hN  p2.2 hp7) yV_X11_note ⟨rfl, by decide⟩ pX11_note mL_X11_162 dX11_begin_26 (Nat.le_of_ble_eq_true rfl) (Nat.le_of_ble_eq_true rfl) (Nat.lt_of_lt_of_le (by decide) hN) kd_140 rfl (rK_v ?_)
      refine g_aload_n (pc := 29) dX11_begin_29 rfl rfl ?_
      refine g_iload_n (pc := 30) dX11_begin_30 rfl rfl ?_
      obtain ⟨m10, hp9, h⟩ := Option.bind_eq_some_iff.mp h
      refine r_callV (ci := 10) (pc := 31) (c_X11_draws hN i1 m8 hp9) yV_X11_draws ⟨rfl, by decide⟩ pX11_draws mL_X11_155 dX11_begin_31 (Nat.le_of_ble_eq_true rfl) (Nat.le_of_ble_eq_true rfl) (Nat.lt_of_lt_of_le (by decide) hN) kd_140 rfl (rK_v ?_)
      refine g_aload_n (pc := 34) dX11_begin_34 rfl rfl ?_
      refine gf_X11_13 (pc := 35) rfl dX11_begin_35 (Nat.lt_of_lt_of_le (by decide) hN) kd_140 ?_
      refine g_iconst (pc := 38) (v := (5 : Int32)) dX11_begin_38 rfl ?_
      refine g_iload_n (pc := 39) dX11_begin_39 rfl rfl ?_
      refine g_iadd (pc := 40) dX11_begin_40 ?_
      obtain ⟨hg11, h⟩ := gd_some h
      refine r_iald (pc := 41) 35 dX11_begin_41 (Nat.lt_of_lt_of_le (by decide) hN) kd_142 ln_142 hg11 ?_
      cases h
      exact r_iret dX11_begin_42 rfl rfl rfl
    · rw [if_neg hc6] at h
      refine g_bipush (pc := 22) (v := (-4 : Int32)) dX11_begin_22 rfl ?_
      cases h
      exact r_iret dX11_begin_24 rfl rfl rfl
  · rw [if_pos hc4] at h
    refine g_bipush (pc := 8) (v := (-2 : Int32)) dX11_begin_8 rfl ?_
    cases h
    exact r_iret dX11_begin_10 rfl rfl rfl

def f_X11_rest (i1 : Int32) (μ : gMem) : Option (Int32 × gMem) :=
  (f_X11_isSister i1 μ).bind (fun p2 =>
  if p2.1 = 0 then
  (some ((-2 : Int32), p2.2))
else
  (if inb ((0 : Int32) + i1) 35 = true then
  if (p2.2 142 ((0 : Int32) + i1).toNatClampNeg) = 0 then
  (some ((-4 : Int32), p2.2))
else
  ((f_X11_note  p2.2).bind (fun m8 =>
  if inb ((15 : Int32) + i1) 35 = true then
  lt (m8 142 ((15 : Int32) + i1).toNatClampNeg) (fun x10 =>
  (f_X11_restNow i1 m8).bind (fun m13 =>
  some (x10, m13))) else none)) else none))
set_option maxRecDepth 100000 in
set_option maxHeartbeats 4000000 in
theorem c_X11_rest {κ : Nat → Nat} {N : Nat} (hN : 151 ≤ N) (i1 : Int32)  (μ : gMem) {r : Int32} {μ' : gMem} (h : f_X11_rest i1 μ = some (r, μ')) : CT2 κ N 3 yX11_rest iX11_rest [.ref (κ 0 + 140), .int i1] μ (qI r μ') := by
  refine CT2.of (by decide) rfl rfl (Nat.le_of_ble_eq_true rfl) ?_
  unfold f_X11_rest at h
  show RR κ N 3 iX11_rest 0 [(0, .ref (κ 0 + 140)), (1, .int i1)] [] μ _
  refine g_aload_n (pc := 0) dX11_rest_0 rfl rfl ?_
  refine g_iload_n (pc := 1) dX11_rest_1 rfl rfl ?_
  obtain ⟨p2, hp1, h⟩ := Option.bind_eq_some_iff.mp h
  refine r_callV (ci := 10) (pc := 2) (c_X11_isSister hN i1 μ hp1) yV_X11_isSister ⟨rfl, by decide⟩ pX11_isSister mL_X11_139 dX11_rest_2 (Nat.le_of_ble_eq_true rfl) (Nat.le_of_ble_eq_true rfl) (Nat.lt_of_lt_of_le (by decide) hN) kd_140 rfl (rK_z (fun hz3 => ?_))
  refine g_if_ne (pc := 5) 11 dX11_rest_5 (by decide) (fun hc4 => ?_) (fun hc4 => ?_)
  · rw [if_neg hc4] at h
    refine g_aload_n (pc := 11) dX11_rest_11 rfl rfl ?_
    refine gf_X11_13 (pc := 12) rfl dX11_rest_12 (Nat.lt_of_lt_of_le (by decide) hN) kd_140 ?_
    refine g_iconst (pc := 15) (v := (0 : Int32)) dX11_rest_15 rfl ?_
    refine g_iload_n (pc := 16) dX11_rest_16 rfl rfl ?_
    refine g_iadd (pc := 17) dX11_rest_17 ?_
    obtain ⟨hg5, h⟩ := gd_some h
    refine r_iald (pc := 18) 35 dX11_rest_18 (Nat.lt_of_lt_of_le (by decide) hN) kd_142 ln_142 hg5 ?_
    refine g_if_ne (pc := 19) 25 dX11_rest_19 (by decide) (fun hc6 => ?_) (fun hc6 => ?_)
    · rw [if_neg hc6] at h
      refine g_aload_n (pc := 25) dX11_rest_25 rfl rfl ?_
      obtain ⟨m8, hp7, h⟩ := Option.bind_eq_some_iff.mp h
      refine r_callV (ci := 10) (pc := 26) (c_X11_note hN  p2.2 hp7) yV_X11_note ⟨rfl, by decide⟩ pX11_note mL_X11_162 dX11_rest_26 (Nat.le_of_ble_eq_true rfl) (Nat.le_of_ble_eq_true rfl) (Nat.lt_of_lt_of_le (by decide) hN) kd_140 rfl (rK_v ?_)
      refine g_aload_n (pc := 29) dX11_rest_29 rfl rfl ?_
      refine gf_X11_13 (pc := 30) rfl dX11_rest_30 (Nat.lt_of_lt_of_le (by decide) hN) kd_140 ?_
      refine g_bipush (pc := 33) (v := (15 : Int32)) dX11_rest_33 rfl ?_
      refine g_iload_n (pc := 35) dX11_rest_35 rfl rfl ?_
      refine g_iadd (pc := 36) dX11_rest_36 ?_
      obtain ⟨hg9, h⟩ := gd_some h
      refine r_iald (pc := 37) 35 dX11_rest_37 (Nat.lt_of_lt_of_le (by decide) hN) kd_142 ln_142 hg9 ?_
      refine g_istore_n (pc := 38) (lv' := fun y => [(0, .ref (κ 0 + 140)), (1, .int i1), (2, .int y)]) dX11_rest_38 rfl (Nat.le_of_ble_eq_true rfl) (fun _ => rfl) (fun x10 e11 => ?_)
      rw [lt_of e11] at h
      refine g_aload_n (pc := 39) dX11_rest_39 rfl rfl ?_
      refine g_iload_n (pc := 40) dX11_rest_40 rfl rfl ?_
      obtain ⟨m13, hp12, h⟩ := Option.bind_eq_some_iff.mp h
      refine r_callV (ci := 10) (pc := 41) (c_X11_restNow hN i1 m8 hp12) yV_X11_restNow ⟨rfl, by decide⟩ pX11_restNow mL_X11_165 dX11_rest_41 (Nat.le_of_ble_eq_true rfl) (Nat.le_of_ble_eq_true rfl) (Nat.lt_of_lt_of_le (by decide) hN) kd_140 rfl (rK_v ?_)
      refine g_iload_n (pc := 44) dX11_rest_44 rfl rfl ?_
      cases h
      exact r_iret dX11_rest_45 rfl rfl rfl
    · rw [if_pos hc6] at h
      refine g_bipush (pc := 22) (v := (-4 : Int32)) dX11_rest_22 rfl ?_
      cases h
      exact r_iret dX11_rest_24 rfl rfl rfl
  · rw [if_pos hc4] at h
    refine g_bipush (pc := 8) (v := (-2 : Int32)) dX11_rest_8 rfl ?_
    cases h
    exact r_iret dX11_rest_10 rfl rfl rfl

def f_X11_moss (i1 : Int32) (μ : gMem) : Option (Int32 × gMem) :=
  (f_X11_isSister i1 μ).bind (fun p2 =>
  if p2.1 = 0 then
  (some ((-2 : Int32), p2.2))
else
  ((f_X11_mossOf i1 p2.2).bind (fun p6 =>
  if p6.1 ≤ 0 then
  ((f_X11_note  p6.2).bind (fun m9 =>
  if inb ((25 : Int32) + i1) 35 = true then
  lt (st m9 142 ((25 : Int32) + i1).toNatClampNeg ((m9 142 (30 : Int32).toNatClampNeg) + (30 : Int32))) (fun m10 =>
  some ((30 : Int32), m10)) else none))
else
  (some ((-4 : Int32), p6.2)))))
set_option maxRecDepth 100000 in
set_option maxHeartbeats 4000000 in
theorem c_X11_moss {κ : Nat → Nat} {N : Nat} (hN : 151 ≤ N) (i1 : Int32)  (μ : gMem) {r : Int32} {μ' : gMem} (h : f_X11_moss i1 μ = some (r, μ')) : CT2 κ N 3 yX11_moss iX11_moss [.ref (κ 0 + 140), .int i1] μ (qI r μ') := by
  refine CT2.of (by decide) rfl rfl (Nat.le_of_ble_eq_true rfl) ?_
  unfold f_X11_moss at h
  show RR κ N 3 iX11_moss 0 [(0, .ref (κ 0 + 140)), (1, .int i1)] [] μ _
  refine g_aload_n (pc := 0) dX11_moss_0 rfl rfl ?_
  refine g_iload_n (pc := 1) dX11_moss_1 rfl rfl ?_
  obtain ⟨p2, hp1, h⟩ := Option.bind_eq_some_iff.mp h
  refine r_callV (ci := 10) (pc := 2) (c_X11_isSister hN i1 μ hp1) yV_X11_isSister ⟨rfl, by decide⟩ pX11_isSister mL_X11_139 dX11_moss_2 (Nat.le_of_ble_eq_true rfl) (Nat.le_of_ble_eq_true rfl) (Nat.lt_of_lt_of_le (by decide) hN) kd_140 rfl (rK_z (fun hz3 => ?_))
  refine g_if_ne (pc := 5) 11 dX11_moss_5 (by decide) (fun hc4 => ?_) (fun hc4 => ?_)
  · rw [if_neg hc4] at h
    refine g_aload_n (pc := 11) dX11_moss_11 rfl rfl ?_
    refine g_iload_n (pc := 12) dX11_moss_12 rfl rfl ?_
    obtain ⟨p6, hp5, h⟩ := Option.bind_eq_some_iff.mp h
    refine r_callV (ci := 10) (pc := 13) (c_X11_mossOf hN i1 p2.2 hp5) yV_X11_mossOf ⟨rfl, by decide⟩ pX11_mossOf mL_X11_142 dX11_moss_13 (Nat.le_of_ble_eq_true rfl) (Nat.le_of_ble_eq_true rfl) (Nat.lt_of_lt_of_le (by decide) hN) kd_140 rfl (rK_i ?_)
    refine g_if_le (pc := 16) 22 dX11_moss_16 (by decide) (fun hc7 => ?_) (fun hc7 => ?_)
    · rw [if_pos hc7] at h
      refine g_aload_n (pc := 22) dX11_moss_22 rfl rfl ?_
      obtain ⟨m9, hp8, h⟩ := Option.bind_eq_some_iff.mp h
      refine r_callV (ci := 10) (pc := 23) (c_X11_note hN  p6.2 hp8) yV_X11_note ⟨rfl, by decide⟩ pX11_note mL_X11_162 dX11_moss_23 (Nat.le_of_ble_eq_true rfl) (Nat.le_of_ble_eq_true rfl) (Nat.lt_of_lt_of_le (by decide) hN) kd_140 rfl (rK_v ?_)
      refine g_aload_n (pc := 26) dX11_moss_26 rfl rfl ?_
      refine gf_X11_13 (pc := 27) rfl dX11_moss_27 (Nat.lt_of_lt_of_le (by decide) hN) kd_140 ?_
      refine g_bipush (pc := 30) (v := (25 : Int32)) dX11_moss_30 rfl ?_
      refine g_iload_n (pc := 32) dX11_moss_32 rfl rfl ?_
      refine g_iadd (pc := 33) dX11_moss_33 ?_
      refine g_aload_n (pc := 34) dX11_moss_34 rfl rfl ?_
      refine gf_X11_13 (pc := 35) rfl dX11_moss_35 (Nat.lt_of_lt_of_le (by decide) hN) kd_140 ?_
      refine g_bipush (pc := 38) (v := (30 : Int32)) dX11_moss_38 rfl ?_
      refine r_iald (pc := 40) 35 dX11_moss_40 (Nat.lt_of_lt_of_le (by decide) hN) kd_142 ln_142 (by decide) ?_
      refine g_bipush (pc := 41) (v := (30 : Int32)) dX11_moss_41 rfl ?_
      refine g_iadd (pc := 43) dX11_moss_43 ?_
      obtain ⟨hg12, h⟩ := gd_some h
      refine r_iast (pc := 44) 35 dX11_moss_44 (Nat.lt_of_lt_of_le (by decide) hN) kd_142 ln_142 hg12 (fun m10 e11 => ?_)
      rw [lt_of e11] at h
      refine g_bipush (pc := 45) (v := (30 : Int32)) dX11_moss_45 rfl ?_
      cases h
      exact r_iret dX11_moss_47 rfl rfl rfl
    · rw [if_neg hc7] at h
      refine g_bipush (pc := 19) (v := (-4 : Int32)) dX11_moss_19 rfl ?_
      cases h
      exact r_iret dX11_moss_21 rfl rfl rfl
  · rw [if_pos hc4] at h
    refine g_bipush (pc := 8) (v := (-2 : Int32)) dX11_moss_8 rfl ?_
    cases h
    exact r_iret dX11_moss_10 rfl rfl rfl

def f_X11_less (i0 : Int32) (i1 : Int32) (μ : gMem) : Option (Int32 × gMem) :=
  lt (if i1 ≤ i0 then (i0 - i1) else (0 : Int32)) (fun x1 =>
  some (x1, μ))
set_option maxRecDepth 100000 in
set_option maxHeartbeats 4000000 in
theorem c_X11_less {κ : Nat → Nat} {N : Nat} (hN : 151 ≤ N) (i0 : Int32) (i1 : Int32)  (μ : gMem) {r : Int32} {μ' : gMem} (h : f_X11_less i0 i1 μ = some (r, μ')) : CT2 κ N 1 yX11_less iX11_less [.int i0, .int i1] μ (qI r μ') := by
  refine CT2.of (by decide) rfl rfl (Nat.le_of_ble_eq_true rfl) ?_
  unfold f_X11_less at h
  show RR κ N 1 iX11_less 0 [(0, .int i0), (1, .int i1)] [] μ _
  refine g_iload_n (pc := 0) dX11_less_0 rfl rfl ?_
  refine g_iload_n (pc := 1) dX11_less_1 rfl rfl ?_
  have key3 : ∀ x1 : Int32, x1 = (if i1 ≤ i0 then (i0 - i1) else (0 : Int32)) → RR κ N 1 iX11_less 12 [(0, .int i0), (1, .int i1)] [.int x1] μ (qI r μ') := by
    intro x1 e2
    rw [lt_of e2] at h
    cases h
    exact r_iret dX11_less_12 rfl rfl rfl
  refine g_icmp_ge (pc := 2) 9 dX11_less_2 (by decide) (fun hc4 => ?_) (fun hc4 => ?_)
  · refine g_iload_n (pc := 9) dX11_less_9 rfl rfl ?_
    refine g_iload_n (pc := 10) dX11_less_10 rfl rfl ?_
    refine g_isub (pc := 11) dX11_less_11 ?_
    exact key3 _ (by rw [if_pos hc4])
  · refine g_iconst (pc := 5) (v := (0 : Int32)) dX11_less_5 rfl ?_
    refine g_goto (pc := 6) 12 dX11_less_6 (by decide) ?_
    exact key3 _ (by rw [if_neg hc4])

def f_X11_smear (i1 : Int32) (μ : gMem) : Option (Int32 × gMem) :=
  (f_X11_in i1.toInt64 (1 : Int64) (9 : Int64) μ).bind (fun p2 =>
  if p2.1 = 0 then
  (some ((-3 : Int32), p2.2))
else
  (if (p2.2 142 (32 : Int32).toNatClampNeg) = 0 then
  (some ((-4 : Int32), p2.2))
else
  ((f_X11_note  p2.2).bind (fun m7 =>
  (f_X11_less (m7 142 (32 : Int32).toNatClampNeg) i1 m7).bind (fun p9 =>
  lt (st p9.2 142 (32 : Int32).toNatClampNeg p9.1) (fun m10 =>
  some ((m10 142 (32 : Int32).toNatClampNeg), m10)))))))
set_option maxRecDepth 100000 in
set_option maxHeartbeats 4000000 in
theorem c_X11_smear {κ : Nat → Nat} {N : Nat} (hN : 151 ≤ N) (i1 : Int32)  (μ : gMem) {r : Int32} {μ' : gMem} (h : f_X11_smear i1 μ = some (r, μ')) : CT2 κ N 2 yX11_smear iX11_smear [.ref (κ 0 + 140), .int i1] μ (qI r μ') := by
  refine CT2.of (by decide) rfl rfl (Nat.le_of_ble_eq_true rfl) ?_
  unfold f_X11_smear at h
  show RR κ N 2 iX11_smear 0 [(0, .ref (κ 0 + 140)), (1, .int i1)] [] μ _
  refine g_iload_n (pc := 0) dX11_smear_0 rfl rfl ?_
  refine g_i2l (pc := 1) dX11_smear_1 ?_
  refine g_lconst (pc := 2) (v := (1 : Int64)) dX11_smear_2 rfl ?_
  refine g_ldc2 (pc := 3) kL_X11_168 dX11_smear_3 ?_
  obtain ⟨p2, hp1, h⟩ := Option.bind_eq_some_iff.mp h
  refine r_callS (pc := 6) (c_X11_in hN i1.toInt64 (1 : Int64) (9 : Int64) μ hp1) yS_X11_in pX11_in mL_X11_49 dX11_smear_6 (Nat.le_of_ble_eq_true rfl) (Nat.le_of_ble_eq_true rfl) rfl (rK_z (fun hz3 => ?_))
  refine g_if_ne (pc := 9) 15 dX11_smear_9 (by decide) (fun hc4 => ?_) (fun hc4 => ?_)
  · rw [if_neg hc4] at h
    refine g_aload_n (pc := 15) dX11_smear_15 rfl rfl ?_
    refine gf_X11_13 (pc := 16) rfl dX11_smear_16 (Nat.lt_of_lt_of_le (by decide) hN) kd_140 ?_
    refine g_bipush (pc := 19) (v := (32 : Int32)) dX11_smear_19 rfl ?_
    refine r_iald (pc := 21) 35 dX11_smear_21 (Nat.lt_of_lt_of_le (by decide) hN) kd_142 ln_142 (by decide) ?_
    refine g_if_ne (pc := 22) 28 dX11_smear_22 (by decide) (fun hc5 => ?_) (fun hc5 => ?_)
    · rw [if_neg hc5] at h
      refine g_aload_n (pc := 28) dX11_smear_28 rfl rfl ?_
      obtain ⟨m7, hp6, h⟩ := Option.bind_eq_some_iff.mp h
      refine r_callV (ci := 10) (pc := 29) (c_X11_note hN  p2.2 hp6) yV_X11_note ⟨rfl, by decide⟩ pX11_note mL_X11_162 dX11_smear_29 (Nat.le_of_ble_eq_true rfl) (Nat.le_of_ble_eq_true rfl) (Nat.lt_of_lt_of_le (by decide) hN) kd_140 rfl (rK_v ?_)
      refine g_aload_n (pc := 32) dX11_smear_32 rfl rfl ?_
      refine gf_X11_13 (pc := 33) rfl dX11_smear_33 (Nat.lt_of_lt_of_le (by decide) hN) kd_140 ?_
      refine g_bipush (pc := 36) (v := (32 : Int32)) dX11_smear_36 rfl ?_
      refine g_aload_n (pc := 38) dX11_smear_38 rfl rfl ?_
      refine gf_X11_13 (pc := 39) rfl dX11_smear_39 (Nat.lt_of_lt_of_le (by decide) hN) kd_140 ?_
      refine g_bipush (pc := 42) (v := (32 : Int32)) dX11_smear_42 rfl ?_
      refine r_iald (pc := 44) 35 dX11_smear_44 (Nat.lt_of_lt_of_le (by decide) hN) kd_142 ln_142 (by decide) ?_
      refine g_iload_n (pc := 45) dX11_smear_45 rfl rfl ?_
      obtain ⟨p9, hp8, h⟩ := Option.bind_eq_some_iff.mp h
      refine r_callS (pc := 46) (c_X11_less hN (m7 142 (32 : Int32).toNatClampNeg) i1 m7 hp8) yS_X11_less pX11_less mL_X11_170 dX11_smear_46 (Nat.le_of_ble_eq_true rfl) (Nat.le_of_ble_eq_true rfl) rfl (rK_i ?_)
      refine r_iast (pc := 49) 35 dX11_smear_49 (Nat.lt_of_lt_of_le (by decide) hN) kd_142 ln_142 (by decide) (fun m10 e11 => ?_)
      rw [lt_of e11] at h
      refine g_aload_n (pc := 50) dX11_smear_50 rfl rfl ?_
      refine gf_X11_13 (pc := 51) rfl dX11_smear_51 (Nat.lt_of_lt_of_le (by decide) hN) kd_140 ?_
      refine g_bipush (pc := 54) (v := (32 : Int32)) dX11_smear_54 rfl ?_
      refine r_iald (pc := 56) 35 dX11_smear_56 (Nat.lt_of_lt_of_le (by decide) hN) kd_142 ln_142 (by decide) ?_
      cases h
      exact r_iret dX11_smear_57 rfl rfl rfl
    · rw [if_pos hc5] at h
      refine g_bipush (pc := 25) (v := (-4 : Int32)) dX11_smear_25 rfl ?_
      cases h
      exact r_iret dX11_smear_27 rfl rfl rfl
  · rw [if_pos hc4] at h
    refine g_bipush (pc := 12) (v := (-3 : Int32)) dX11_smear_12 rfl ?_
    cases h
    exact r_iret dX11_smear_14 rfl rfl rfl

def l_X11_go_39 (i1 : Int32) : Nat → Int32 → gMem → Option (Int32 × gMem)
  | 0, _, _ => none
  | n + 1, i2, μ =>
  if i1 ≤ i2 then
  (some (i2, μ))
else
  ((f_X11_oneMinute  μ).bind (fun p12 =>
  lt (i2 + Int32.ofInt 1) (fun x13 =>
  l_X11_go_39 i1 n x13 p12.2)))
def f_X11_go (i1 : Int32) (μ : gMem) : Option (Int32 × gMem) :=
  (f_X11_in i1.toInt64 (1 : Int64) (99 : Int64) μ).bind (fun p2 =>
  if p2.1 = 0 then
  (some ((-3 : Int32), p2.2))
else
  (if ((p2.2 142 (30 : Int32).toNatClampNeg) + i1) ≤ (999 : Int32) then
  ((f_X11_note  p2.2).bind (fun m7 =>
  (l_X11_go_39 i1 gF (0 : Int32) m7).bind (fun p15 =>
  some ((p15.2 142 (31 : Int32).toNatClampNeg), p15.2))))
else
  (some ((-5 : Int32), p2.2))))
set_option maxRecDepth 100000 in
set_option maxHeartbeats 4000000 in
theorem cl_X11_go_39 {κ : Nat → Nat} {N : Nat} {Q : rQ} (hN : 151 ≤ N) (i1 : Int32)  : ∀ (n : Nat) (i2 : Int32) (μ : gMem) (p : Int32 × gMem), l_X11_go_39 i1 n i2 μ = some p → RR κ N 6 iX11_go 55 [(0, .ref (κ 0 + 140)), (1, .int i1), (2, .int p.1)] [] p.2 Q → RR κ N 6 iX11_go 39 [(0, .ref (κ 0 + 140)), (1, .int i1), (2, .int i2)] [] μ Q := by
  intro n
  induction n with
  | zero =>
    intro i2 μ p h k
    unfold l_X11_go_39 at h
    cases h
  | succ n ih =>
    intro i2 μ p h k
    unfold l_X11_go_39 at h
    refine g_iload_n (pc := 39) dX11_go_39 rfl rfl ?_
    refine g_iload_n (pc := 40) dX11_go_40 rfl rfl ?_
    refine g_icmp_ge (pc := 41) 55 dX11_go_41 (by decide) (fun hc10 => ?_) (fun hc10 => ?_)
    · rw [if_pos hc10] at h
      cases h
      exact k
    · rw [if_neg hc10] at h
      refine g_aload_n (pc := 44) dX11_go_44 rfl rfl ?_
      obtain ⟨p12, hp11, h⟩ := Option.bind_eq_some_iff.mp h
      refine r_callV (ci := 10) (pc := 45) (c_X11_oneMinute hN  μ hp11) yV_X11_oneMinute ⟨rfl, by decide⟩ pX11_oneMinute mL_X11_175 dX11_go_45 (Nat.le_of_ble_eq_true rfl) (Nat.le_of_ble_eq_true rfl) (Nat.lt_of_lt_of_le (by decide) hN) kd_140 rfl (rK_i ?_)
      refine g_pop (pc := 48) dX11_go_48 rfl ?_
      refine g_iinc (pc := 49) (lv' := fun y => [(0, .ref (κ 0 + 140)), (1, .int i1), (2, .int y)]) dX11_go_49 rfl (Nat.le_of_ble_eq_true rfl) (fun _ => rfl) (fun x13 e14 => ?_)
      rw [lt_of e14] at h
      refine g_goto (pc := 52) 39 dX11_go_52 (by decide) ?_
      refine g_lv (lv' := [(0, .ref (κ 0 + 140)), (1, .int i1), (2, .int x13)]) rfl ?_
      exact ih _ _ _ h k
set_option maxRecDepth 100000 in
set_option maxHeartbeats 4000000 in
theorem c_X11_go {κ : Nat → Nat} {N : Nat} (hN : 151 ≤ N) (i1 : Int32)  (μ : gMem) {r : Int32} {μ' : gMem} (h : f_X11_go i1 μ = some (r, μ')) : CT2 κ N 6 yX11_go iX11_go [.ref (κ 0 + 140), .int i1] μ (qI r μ') := by
  refine CT2.of (by decide) rfl rfl (Nat.le_of_ble_eq_true rfl) ?_
  unfold f_X11_go at h
  show RR κ N 6 iX11_go 0 [(0, .ref (κ 0 + 140)), (1, .int i1)] [] μ _
  refine g_iload_n (pc := 0) dX11_go_0 rfl rfl ?_
  refine g_i2l (pc := 1) dX11_go_1 ?_
  refine g_lconst (pc := 2) (v := (1 : Int64)) dX11_go_2 rfl ?_
  refine g_ldc2 (pc := 3) kL_X11_173 dX11_go_3 ?_
  obtain ⟨p2, hp1, h⟩ := Option.bind_eq_some_iff.mp h
  refine r_callS (pc := 6) (c_X11_in hN i1.toInt64 (1 : Int64) (99 : Int64) μ hp1) yS_X11_in pX11_in mL_X11_49 dX11_go_6 (Nat.le_of_ble_eq_true rfl) (Nat.le_of_ble_eq_true rfl) rfl (rK_z (fun hz3 => ?_))
  refine g_if_ne (pc := 9) 15 dX11_go_9 (by decide) (fun hc4 => ?_) (fun hc4 => ?_)
  · rw [if_neg hc4] at h
    refine g_aload_n (pc := 15) dX11_go_15 rfl rfl ?_
    refine gf_X11_13 (pc := 16) rfl dX11_go_16 (Nat.lt_of_lt_of_le (by decide) hN) kd_140 ?_
    refine g_bipush (pc := 19) (v := (30 : Int32)) dX11_go_19 rfl ?_
    refine r_iald (pc := 21) 35 dX11_go_21 (Nat.lt_of_lt_of_le (by decide) hN) kd_142 ln_142 (by decide) ?_
    refine g_iload_n (pc := 22) dX11_go_22 rfl rfl ?_
    refine g_iadd (pc := 23) dX11_go_23 ?_
    refine g_sipush (pc := 24) (v := (999 : Int32)) dX11_go_24 rfl ?_
    refine g_icmp_le (pc := 27) 33 dX11_go_27 (by decide) (fun hc5 => ?_) (fun hc5 => ?_)
    · rw [if_pos hc5] at h
      refine g_aload_n (pc := 33) dX11_go_33 rfl rfl ?_
      obtain ⟨m7, hp6, h⟩ := Option.bind_eq_some_iff.mp h
      refine r_callV (ci := 10) (pc := 34) (c_X11_note hN  p2.2 hp6) yV_X11_note ⟨rfl, by decide⟩ pX11_note mL_X11_162 dX11_go_34 (Nat.le_of_ble_eq_true rfl) (Nat.le_of_ble_eq_true rfl) (Nat.lt_of_lt_of_le (by decide) hN) kd_140 rfl (rK_v ?_)
      refine g_iconst (pc := 37) (v := (0 : Int32)) dX11_go_37 rfl ?_
      refine g_istore_n (pc := 38) (lv' := fun y => [(0, .ref (κ 0 + 140)), (1, .int i1), (2, .int y)]) dX11_go_38 rfl (Nat.le_of_ble_eq_true rfl) (fun _ => rfl) (fun y8 e9 => ?_)
      rw [e9]
      obtain ⟨p15, hp16, h⟩ := Option.bind_eq_some_iff.mp h
      refine cl_X11_go_39 hN i1  gF (0 : Int32) _ _ hp16 ?_
      refine g_aload_n (pc := 55) dX11_go_55 rfl rfl ?_
      refine gf_X11_13 (pc := 56) rfl dX11_go_56 (Nat.lt_of_lt_of_le (by decide) hN) kd_140 ?_
      refine g_bipush (pc := 59) (v := (31 : Int32)) dX11_go_59 rfl ?_
      refine r_iald (pc := 61) 35 dX11_go_61 (Nat.lt_of_lt_of_le (by decide) hN) kd_142 ln_142 (by decide) ?_
      cases h
      exact r_iret dX11_go_62 rfl rfl rfl
    · rw [if_neg hc5] at h
      refine g_bipush (pc := 30) (v := (-5 : Int32)) dX11_go_30 rfl ?_
      cases h
      exact r_iret dX11_go_32 rfl rfl rfl
  · rw [if_pos hc4] at h
    refine g_bipush (pc := 12) (v := (-3 : Int32)) dX11_go_12 rfl ?_
    cases h
    exact r_iret dX11_go_14 rfl rfl rfl

def l_X11_undo_22  : Nat → Int32 → gMem → Option (Int32 × gMem)
  | 0, _, _ => none
  | n + 1, i1, μ =>
  if (35 : Int32) ≤ i1 then
  (some (i1, μ))
else
  (if inb (((35 : Int32) * (μ 140 13)) + i1) 280 = true then
  if inb i1 35 = true then
  lt (st μ 142 i1.toNatClampNeg (μ 145 (((35 : Int32) * (μ 140 13)) + i1).toNatClampNeg)) (fun m8 =>
  lt (i1 + Int32.ofInt 1) (fun x11 =>
  l_X11_undo_22 n x11 m8)) else none else none)
def f_X11_undo  (μ : gMem) : Option (Int32 × gMem) :=
  if (μ 140 13) = 0 then
  (some ((-4 : Int32), μ))
else
  (lt (st μ 140 13 ((μ 140 13) - (1 : Int32))) (fun m2 =>
  (l_X11_undo_22 gF (0 : Int32) m2).bind (fun p13 =>
  some ((p13.2 140 13), p13.2))))
set_option maxRecDepth 100000 in
set_option maxHeartbeats 4000000 in
theorem cl_X11_undo_22 {κ : Nat → Nat} {N : Nat} {Q : rQ} (hN : 151 ≤ N)   : ∀ (n : Nat) (i1 : Int32) (μ : gMem) (p : Int32 × gMem), l_X11_undo_22 n i1 μ = some p → RR κ N 1 iX11_undo 54 [(0, .ref (κ 0 + 140)), (1, .int p.1)] [] p.2 Q → RR κ N 1 iX11_undo 22 [(0, .ref (κ 0 + 140)), (1, .int i1)] [] μ Q := by
  intro n
  induction n with
  | zero =>
    intro i1 μ p h k
    unfold l_X11_undo_22 at h
    cases h
  | succ n ih =>
    intro i1 μ p h k
    unfold l_X11_undo_22 at h
    refine g_iload_n (pc := 22) dX11_undo_22 rfl rfl ?_
    refine g_bipush (pc := 23) (v := (35 : Int32)) dX11_undo_23 rfl ?_
    refine g_icmp_ge (pc := 25) 54 dX11_undo_25 (by decide) (fun hc6 => ?_) (fun hc6 => ?_)
    · rw [if_pos hc6] at h
      cases h
      exact k
    · rw [if_neg hc6] at h
      refine g_aload_n (pc := 28) dX11_undo_28 rfl rfl ?_
      refine gf_X11_13 (pc := 29) rfl dX11_undo_29 (Nat.lt_of_lt_of_le (by decide) hN) kd_140 ?_
      refine g_iload_n (pc := 32) dX11_undo_32 rfl rfl ?_
      refine g_aload_n (pc := 33) dX11_undo_33 rfl rfl ?_
      refine gf_X11_22 (pc := 34) rfl dX11_undo_34 (Nat.lt_of_lt_of_le (by decide) hN) kd_140 ?_
      refine g_bipush (pc := 37) (v := (35 : Int32)) dX11_undo_37 rfl ?_
      refine g_aload_n (pc := 39) dX11_undo_39 rfl rfl ?_
      refine gf_X11_130 (pc := 40) rfl dX11_undo_40 (Nat.lt_of_lt_of_le (by decide) hN) kd_140 ?_
      refine g_imul (pc := 43) dX11_undo_43 ?_
      refine g_iload_n (pc := 44) dX11_undo_44 rfl rfl ?_
      refine g_iadd (pc := 45) dX11_undo_45 ?_
      obtain ⟨hg7, h⟩ := gd_some h
      refine r_iald (pc := 46) 280 dX11_undo_46 (Nat.lt_of_lt_of_le (by decide) hN) kd_145 ln_145 hg7 ?_
      obtain ⟨hg10, h⟩ := gd_some h
      refine r_iast (pc := 47) 35 dX11_undo_47 (Nat.lt_of_lt_of_le (by decide) hN) kd_142 ln_142 hg10 (fun m8 e9 => ?_)
      rw [lt_of e9] at h
      refine g_iinc (pc := 48) (lv' := fun y => [(0, .ref (κ 0 + 140)), (1, .int y)]) dX11_undo_48 rfl (Nat.le_of_ble_eq_true rfl) (fun _ => rfl) (fun x11 e12 => ?_)
      rw [lt_of e12] at h
      refine g_goto (pc := 51) 22 dX11_undo_51 (by decide) ?_
      refine g_lv (lv' := [(0, .ref (κ 0 + 140)), (1, .int x11)]) rfl ?_
      exact ih _ _ _ h k
set_option maxRecDepth 100000 in
set_option maxHeartbeats 4000000 in
theorem c_X11_undo {κ : Nat → Nat} {N : Nat} (hN : 151 ≤ N)   (μ : gMem) {r : Int32} {μ' : gMem} (h : f_X11_undo  μ = some (r, μ')) : CT2 κ N 1 yX11_undo iX11_undo [.ref (κ 0 + 140)] μ (qI r μ') := by
  refine CT2.of (by decide) rfl rfl (Nat.le_of_ble_eq_true rfl) ?_
  unfold f_X11_undo at h
  show RR κ N 1 iX11_undo 0 [(0, .ref (κ 0 + 140))] [] μ _
  refine g_aload_n (pc := 0) dX11_undo_0 rfl rfl ?_
  refine gf_X11_130 (pc := 1) rfl dX11_undo_1 (Nat.lt_of_lt_of_le (by decide) hN) kd_140 ?_
  refine g_if_ne (pc := 4) 10 dX11_undo_4 (by decide) (fun hc1 => ?_) (fun hc1 => ?_)
  · rw [if_neg hc1] at h
    refine g_aload_n (pc := 10) dX11_undo_10 rfl rfl ?_
    refine g_dup (pc := 11) dX11_undo_11 rfl ?_
    refine gf_X11_130 (pc := 12) rfl dX11_undo_12 (Nat.lt_of_lt_of_le (by decide) hN) kd_140 ?_
    refine g_iconst (pc := 15) (v := (1 : Int32)) dX11_undo_15 rfl ?_
    refine g_isub (pc := 16) dX11_undo_16 ?_
    refine pf_X11_130 (pc := 17) rfl dX11_undo_17 (Nat.lt_of_lt_of_le (by decide) hN) kd_140 (fun m2 e3 => ?_)
    rw [lt_of e3] at h
    refine g_iconst (pc := 20) (v := (0 : Int32)) dX11_undo_20 rfl ?_
    refine g_istore_n (pc := 21) (lv' := fun y => [(0, .ref (κ 0 + 140)), (1, .int y)]) dX11_undo_21 rfl (Nat.le_of_ble_eq_true rfl) (fun _ => rfl) (fun y4 e5 => ?_)
    rw [e5]
    obtain ⟨p13, hp14, h⟩ := Option.bind_eq_some_iff.mp h
    refine cl_X11_undo_22 hN   gF (0 : Int32) _ _ hp14 ?_
    refine g_aload_n (pc := 54) dX11_undo_54 rfl rfl ?_
    refine gf_X11_130 (pc := 55) rfl dX11_undo_55 (Nat.lt_of_lt_of_le (by decide) hN) kd_140 ?_
    cases h
    exact r_iret dX11_undo_58 rfl rfl rfl
  · rw [if_pos hc1] at h
    refine g_bipush (pc := 7) (v := (-4 : Int32)) dX11_undo_7 rfl ?_
    cases h
    exact r_iret dX11_undo_9 rfl rfl rfl

def l_X11_keep_15 (i1 : Int32) : Nat → Int32 → gMem → Option (Int32 × gMem)
  | 0, _, _ => none
  | n + 1, i2, μ =>
  if (35 : Int32) ≤ i2 then
  (some (i2, μ))
else
  (if inb i2 35 = true then
  if inb (((35 : Int32) * i1) + i2) 70 = true then
  lt (st μ 147 (((35 : Int32) * i1) + i2).toNatClampNeg (μ 142 i2.toNatClampNeg)) (fun m9 =>
  lt (i2 + Int32.ofInt 1) (fun x12 =>
  l_X11_keep_15 i1 n x12 m9)) else none else none)
def f_X11_keep (i1 : Int32) (μ : gMem) : Option (Int32 × gMem) :=
  (f_X11_in i1.toInt64 (0 : Int64) (1 : Int64) μ).bind (fun p2 =>
  if p2.1 = 0 then
  (some ((-2 : Int32), p2.2))
else
  ((l_X11_keep_15 i1 gF (0 : Int32) p2.2).bind (fun p14 =>
  if inb i1 2 = true then
  lt (st p14.2 146 i1.toNatClampNeg (1 : Int32)) (fun m16 =>
  some ((m16 142 (30 : Int32).toNatClampNeg), m16)) else none)))
set_option maxRecDepth 100000 in
set_option maxHeartbeats 4000000 in
theorem cl_X11_keep_15 {κ : Nat → Nat} {N : Nat} {Q : rQ} (hN : 151 ≤ N) (i1 : Int32)  : ∀ (n : Nat) (i2 : Int32) (μ : gMem) (p : Int32 × gMem), l_X11_keep_15 i1 n i2 μ = some p → RR κ N 2 iX11_keep 44 [(0, .ref (κ 0 + 140)), (1, .int i1), (2, .int p.1)] [] p.2 Q → RR κ N 2 iX11_keep 15 [(0, .ref (κ 0 + 140)), (1, .int i1), (2, .int i2)] [] μ Q := by
  intro n
  induction n with
  | zero =>
    intro i2 μ p h k
    unfold l_X11_keep_15 at h
    cases h
  | succ n ih =>
    intro i2 μ p h k
    unfold l_X11_keep_15 at h
    refine g_iload_n (pc := 15) dX11_keep_15 rfl rfl ?_
    refine g_bipush (pc := 16) (v := (35 : Int32)) dX11_keep_16 rfl ?_
    refine g_icmp_ge (pc := 18) 44 dX11_keep_18 (by decide) (fun hc7 => ?_) (fun hc7 => ?_)
    · rw [if_pos hc7] at h
      cases h
      exact k
    · rw [if_neg hc7] at h
      refine g_aload_n (pc := 21) dX11_keep_21 rfl rfl ?_
      refine gf_X11_29 (pc := 22) rfl dX11_keep_22 (Nat.lt_of_lt_of_le (by decide) hN) kd_140 ?_
      refine g_bipush (pc := 25) (v := (35 : Int32)) dX11_keep_25 rfl ?_
      refine g_iload_n (pc := 27) dX11_keep_27 rfl rfl ?_
      refine g_imul (pc := 28) dX11_keep_28 ?_
      refine g_iload_n (pc := 29) dX11_keep_29 rfl rfl ?_
      refine g_iadd (pc := 30) dX11_keep_30 ?_
      refine g_aload_n (pc := 31) dX11_keep_31 rfl rfl ?_
      refine gf_X11_13 (pc := 32) rfl dX11_keep_32 (Nat.lt_of_lt_of_le (by decide) hN) kd_140 ?_
      refine g_iload_n (pc := 35) dX11_keep_35 rfl rfl ?_
      obtain ⟨hg8, h⟩ := gd_some h
      refine r_iald (pc := 36) 35 dX11_keep_36 (Nat.lt_of_lt_of_le (by decide) hN) kd_142 ln_142 hg8 ?_
      obtain ⟨hg11, h⟩ := gd_some h
      refine r_iast (pc := 37) 70 dX11_keep_37 (Nat.lt_of_lt_of_le (by decide) hN) kd_147 ln_147 hg11 (fun m9 e10 => ?_)
      rw [lt_of e10] at h
      refine g_iinc (pc := 38) (lv' := fun y => [(0, .ref (κ 0 + 140)), (1, .int i1), (2, .int y)]) dX11_keep_38 rfl (Nat.le_of_ble_eq_true rfl) (fun _ => rfl) (fun x12 e13 => ?_)
      rw [lt_of e13] at h
      refine g_goto (pc := 41) 15 dX11_keep_41 (by decide) ?_
      refine g_lv (lv' := [(0, .ref (κ 0 + 140)), (1, .int i1), (2, .int x12)]) rfl ?_
      exact ih _ _ _ h k
set_option maxRecDepth 100000 in
set_option maxHeartbeats 4000000 in
theorem c_X11_keep {κ : Nat → Nat} {N : Nat} (hN : 151 ≤ N) (i1 : Int32)  (μ : gMem) {r : Int32} {μ' : gMem} (h : f_X11_keep i1 μ = some (r, μ')) : CT2 κ N 2 yX11_keep iX11_keep [.ref (κ 0 + 140), .int i1] μ (qI r μ') := by
  refine CT2.of (by decide) rfl rfl (Nat.le_of_ble_eq_true rfl) ?_
  unfold f_X11_keep at h
  show RR κ N 2 iX11_keep 0 [(0, .ref (κ 0 + 140)), (1, .int i1)] [] μ _
  refine g_iload_n (pc := 0) dX11_keep_0 rfl rfl ?_
  refine g_i2l (pc := 1) dX11_keep_1 ?_
  refine g_lconst (pc := 2) (v := (0 : Int64)) dX11_keep_2 rfl ?_
  refine g_lconst (pc := 3) (v := (1 : Int64)) dX11_keep_3 rfl ?_
  obtain ⟨p2, hp1, h⟩ := Option.bind_eq_some_iff.mp h
  refine r_callS (pc := 4) (c_X11_in hN i1.toInt64 (0 : Int64) (1 : Int64) μ hp1) yS_X11_in pX11_in mL_X11_49 dX11_keep_4 (Nat.le_of_ble_eq_true rfl) (Nat.le_of_ble_eq_true rfl) rfl (rK_z (fun hz3 => ?_))
  refine g_if_ne (pc := 7) 13 dX11_keep_7 (by decide) (fun hc4 => ?_) (fun hc4 => ?_)
  · rw [if_neg hc4] at h
    refine g_iconst (pc := 13) (v := (0 : Int32)) dX11_keep_13 rfl ?_
    refine g_istore_n (pc := 14) (lv' := fun y => [(0, .ref (κ 0 + 140)), (1, .int i1), (2, .int y)]) dX11_keep_14 rfl (Nat.le_of_ble_eq_true rfl) (fun _ => rfl) (fun y5 e6 => ?_)
    rw [e6]
    obtain ⟨p14, hp15, h⟩ := Option.bind_eq_some_iff.mp h
    refine cl_X11_keep_15 hN i1  gF (0 : Int32) _ _ hp15 ?_
    refine g_aload_n (pc := 44) dX11_keep_44 rfl rfl ?_
    refine gf_X11_25 (pc := 45) rfl dX11_keep_45 (Nat.lt_of_lt_of_le (by decide) hN) kd_140 ?_
    refine g_iload_n (pc := 48) dX11_keep_48 rfl rfl ?_
    refine g_iconst (pc := 49) (v := (1 : Int32)) dX11_keep_49 rfl ?_
    obtain ⟨hg18, h⟩ := gd_some h
    refine r_zast (pc := 50) 2 dX11_keep_50 (Nat.lt_of_lt_of_le (by decide) hN) kd_146 ln_146 hg18 rfl (fun m16 e17 => ?_)
    rw [lt_of e17] at h
    refine g_aload_n (pc := 51) dX11_keep_51 rfl rfl ?_
    refine gf_X11_13 (pc := 52) rfl dX11_keep_52 (Nat.lt_of_lt_of_le (by decide) hN) kd_140 ?_
    refine g_bipush (pc := 55) (v := (30 : Int32)) dX11_keep_55 rfl ?_
    refine r_iald (pc := 57) 35 dX11_keep_57 (Nat.lt_of_lt_of_le (by decide) hN) kd_142 ln_142 (by decide) ?_
    cases h
    exact r_iret dX11_keep_58 rfl rfl rfl
  · rw [if_pos hc4] at h
    refine g_bipush (pc := 10) (v := (-2 : Int32)) dX11_keep_10 rfl ?_
    cases h
    exact r_iret dX11_keep_12 rfl rfl rfl

def l_X11_back_27 (i1 : Int32) : Nat → Int32 → gMem → Option (Int32 × gMem)
  | 0, _, _ => none
  | n + 1, i2, μ =>
  if (35 : Int32) ≤ i2 then
  (some (i2, μ))
else
  (if inb (((35 : Int32) * i1) + i2) 70 = true then
  if inb i2 35 = true then
  lt (st μ 142 i2.toNatClampNeg (μ 147 (((35 : Int32) * i1) + i2).toNatClampNeg)) (fun m11 =>
  lt (i2 + Int32.ofInt 1) (fun x14 =>
  l_X11_back_27 i1 n x14 m11)) else none else none)
def f_X11_back (i1 : Int32) (μ : gMem) : Option (Int32 × gMem) :=
  (f_X11_in i1.toInt64 (0 : Int64) (1 : Int64) μ).bind (fun p2 =>
  if p2.1 = 0 then
  (some ((-2 : Int32), p2.2))
else
  (if inb i1 2 = true then
  if (p2.2 146 i1.toNatClampNeg) = 0 then
  (some ((-4 : Int32), p2.2))
else
  ((l_X11_back_27 i1 gF (0 : Int32) p2.2).bind (fun p16 =>
  lt (st p16.2 140 13 (0 : Int32)) (fun m18 =>
  some ((m18 142 (30 : Int32).toNatClampNeg), m18)))) else none))
set_option maxRecDepth 100000 in
set_option maxHeartbeats 4000000 in
theorem cl_X11_back_27 {κ : Nat → Nat} {N : Nat} {Q : rQ} (hN : 151 ≤ N) (i1 : Int32)  : ∀ (n : Nat) (i2 : Int32) (μ : gMem) (p : Int32 × gMem), l_X11_back_27 i1 n i2 μ = some p → RR κ N 2 iX11_back 56 [(0, .ref (κ 0 + 140)), (1, .int i1), (2, .int p.1)] [] p.2 Q → RR κ N 2 iX11_back 27 [(0, .ref (κ 0 + 140)), (1, .int i1), (2, .int i2)] [] μ Q := by
  intro n
  induction n with
  | zero =>
    intro i2 μ p h k
    unfold l_X11_back_27 at h
    cases h
  | succ n ih =>
    intro i2 μ p h k
    unfold l_X11_back_27 at h
    refine g_iload_n (pc := 27) dX11_back_27 rfl rfl ?_
    refine g_bipush (pc := 28) (v := (35 : Int32)) dX11_back_28 rfl ?_
    refine g_icmp_ge (pc := 30) 56 dX11_back_30 (by decide) (fun hc9 => ?_) (fun hc9 => ?_)
    · rw [if_pos hc9] at h
      cases h
      exact k
    · rw [if_neg hc9] at h
      refine g_aload_n (pc := 33) dX11_back_33 rfl rfl ?_
      refine gf_X11_13 (pc := 34) rfl dX11_back_34 (Nat.lt_of_lt_of_le (by decide) hN) kd_140 ?_
      refine g_iload_n (pc := 37) dX11_back_37 rfl rfl ?_
      refine g_aload_n (pc := 38) dX11_back_38 rfl rfl ?_
      refine gf_X11_29 (pc := 39) rfl dX11_back_39 (Nat.lt_of_lt_of_le (by decide) hN) kd_140 ?_
      refine g_bipush (pc := 42) (v := (35 : Int32)) dX11_back_42 rfl ?_
      refine g_iload_n (pc := 44) dX11_back_44 rfl rfl ?_
      refine g_imul (pc := 45) dX11_back_45 ?_
      refine g_iload_n (pc := 46) dX11_back_46 rfl rfl ?_
      refine g_iadd (pc := 47) dX11_back_47 ?_
      obtain ⟨hg10, h⟩ := gd_some h
      refine r_iald (pc := 48) 70 dX11_back_48 (Nat.lt_of_lt_of_le (by decide) hN) kd_147 ln_147 hg10 ?_
      obtain ⟨hg13, h⟩ := gd_some h
      refine r_iast (pc := 49) 35 dX11_back_49 (Nat.lt_of_lt_of_le (by decide) hN) kd_142 ln_142 hg13 (fun m11 e12 => ?_)
      rw [lt_of e12] at h
      refine g_iinc (pc := 50) (lv' := fun y => [(0, .ref (κ 0 + 140)), (1, .int i1), (2, .int y)]) dX11_back_50 rfl (Nat.le_of_ble_eq_true rfl) (fun _ => rfl) (fun x14 e15 => ?_)
      rw [lt_of e15] at h
      refine g_goto (pc := 53) 27 dX11_back_53 (by decide) ?_
      refine g_lv (lv' := [(0, .ref (κ 0 + 140)), (1, .int i1), (2, .int x14)]) rfl ?_
      exact ih _ _ _ h k
set_option maxRecDepth 100000 in
set_option maxHeartbeats 4000000 in
theorem c_X11_back {κ : Nat → Nat} {N : Nat} (hN : 151 ≤ N) (i1 : Int32)  (μ : gMem) {r : Int32} {μ' : gMem} (h : f_X11_back i1 μ = some (r, μ')) : CT2 κ N 2 yX11_back iX11_back [.ref (κ 0 + 140), .int i1] μ (qI r μ') := by
  refine CT2.of (by decide) rfl rfl (Nat.le_of_ble_eq_true rfl) ?_
  unfold f_X11_back at h
  show RR κ N 2 iX11_back 0 [(0, .ref (κ 0 + 140)), (1, .int i1)] [] μ _
  refine g_iload_n (pc := 0) dX11_back_0 rfl rfl ?_
  refine g_i2l (pc := 1) dX11_back_1 ?_
  refine g_lconst (pc := 2) (v := (0 : Int64)) dX11_back_2 rfl ?_
  refine g_lconst (pc := 3) (v := (1 : Int64)) dX11_back_3 rfl ?_
  obtain ⟨p2, hp1, h⟩ := Option.bind_eq_some_iff.mp h
  refine r_callS (pc := 4) (c_X11_in hN i1.toInt64 (0 : Int64) (1 : Int64) μ hp1) yS_X11_in pX11_in mL_X11_49 dX11_back_4 (Nat.le_of_ble_eq_true rfl) (Nat.le_of_ble_eq_true rfl) rfl (rK_z (fun hz3 => ?_))
  refine g_if_ne (pc := 7) 13 dX11_back_7 (by decide) (fun hc4 => ?_) (fun hc4 => ?_)
  · rw [if_neg hc4] at h
    refine g_aload_n (pc := 13) dX11_back_13 rfl rfl ?_
    refine gf_X11_25 (pc := 14) rfl dX11_back_14 (Nat.lt_of_lt_of_le (by decide) hN) kd_140 ?_
    refine g_iload_n (pc := 17) dX11_back_17 rfl rfl ?_
    obtain ⟨hg5, h⟩ := gd_some h
    refine r_zald (pc := 18) 2 dX11_back_18 (Nat.lt_of_lt_of_le (by decide) hN) kd_146 ln_146 hg5 ?_
    refine g_if_ne (pc := 19) 25 dX11_back_19 (by decide) (fun hc6 => ?_) (fun hc6 => ?_)
    · rw [if_neg hc6] at h
      refine g_iconst (pc := 25) (v := (0 : Int32)) dX11_back_25 rfl ?_
      refine g_istore_n (pc := 26) (lv' := fun y => [(0, .ref (κ 0 + 140)), (1, .int i1), (2, .int y)]) dX11_back_26 rfl (Nat.le_of_ble_eq_true rfl) (fun _ => rfl) (fun y7 e8 => ?_)
      rw [e8]
      obtain ⟨p16, hp17, h⟩ := Option.bind_eq_some_iff.mp h
      refine cl_X11_back_27 hN i1  gF (0 : Int32) _ _ hp17 ?_
      refine g_aload_n (pc := 56) dX11_back_56 rfl rfl ?_
      refine g_iconst (pc := 57) (v := (0 : Int32)) dX11_back_57 rfl ?_
      refine pf_X11_130 (pc := 58) rfl dX11_back_58 (Nat.lt_of_lt_of_le (by decide) hN) kd_140 (fun m18 e19 => ?_)
      rw [lt_of e19] at h
      refine g_aload_n (pc := 61) dX11_back_61 rfl rfl ?_
      refine gf_X11_13 (pc := 62) rfl dX11_back_62 (Nat.lt_of_lt_of_le (by decide) hN) kd_140 ?_
      refine g_bipush (pc := 65) (v := (30 : Int32)) dX11_back_65 rfl ?_
      refine r_iald (pc := 67) 35 dX11_back_67 (Nat.lt_of_lt_of_le (by decide) hN) kd_142 ln_142 (by decide) ?_
      cases h
      exact r_iret dX11_back_68 rfl rfl rfl
    · rw [if_pos hc6] at h
      refine g_bipush (pc := 22) (v := (-4 : Int32)) dX11_back_22 rfl ?_
      cases h
      exact r_iret dX11_back_24 rfl rfl rfl
  · rw [if_pos hc4] at h
    refine g_bipush (pc := 10) (v := (-2 : Int32)) dX11_back_10 rfl ?_
    cases h
    exact r_iret dX11_back_12 rfl rfl rfl

def l_X11_putAside_2  : Nat → Int32 → gMem → Option (Int32 × gMem)
  | 0, _, _ => none
  | n + 1, i1, μ =>
  if (35 : Int32) ≤ i1 then
  (some (i1, μ))
else
  (if inb i1 35 = true then
  lt (st μ 148 i1.toNatClampNeg (μ 142 i1.toNatClampNeg)) (fun m5 =>
  lt (i1 + Int32.ofInt 1) (fun x7 =>
  l_X11_putAside_2 n x7 m5)) else none)
def f_X11_putAside  (μ : gMem) : Option (gMem) :=
  (l_X11_putAside_2 gF (0 : Int32) μ).bind (fun p9 =>
  some p9.2)
set_option maxRecDepth 100000 in
set_option maxHeartbeats 4000000 in
theorem cl_X11_putAside_2 {κ : Nat → Nat} {N : Nat} {Q : rQ} (hN : 151 ≤ N)   : ∀ (n : Nat) (i1 : Int32) (μ : gMem) (p : Int32 × gMem), l_X11_putAside_2 n i1 μ = some p → RR κ N 1 iX11_putAside 26 [(0, .ref (κ 0 + 140)), (1, .int p.1)] [] p.2 Q → RR κ N 1 iX11_putAside 2 [(0, .ref (κ 0 + 140)), (1, .int i1)] [] μ Q := by
  intro n
  induction n with
  | zero =>
    intro i1 μ p h k
    unfold l_X11_putAside_2 at h
    cases h
  | succ n ih =>
    intro i1 μ p h k
    unfold l_X11_putAside_2 at h
    refine g_iload_n (pc := 2) dX11_putAside_2 rfl rfl ?_
    refine g_bipush (pc := 3) (v := (35 : Int32)) dX11_putAside_3 rfl ?_
    refine g_icmp_ge (pc := 5) 26 dX11_putAside_5 (by decide) (fun hc3 => ?_) (fun hc3 => ?_)
    · rw [if_pos hc3] at h
      cases h
      exact k
    · rw [if_neg hc3] at h
      refine g_aload_n (pc := 8) dX11_putAside_8 rfl rfl ?_
      refine gf_X11_32 (pc := 9) rfl dX11_putAside_9 (Nat.lt_of_lt_of_le (by decide) hN) kd_140 ?_
      refine g_iload_n (pc := 12) dX11_putAside_12 rfl rfl ?_
      refine g_aload_n (pc := 13) dX11_putAside_13 rfl rfl ?_
      refine gf_X11_13 (pc := 14) rfl dX11_putAside_14 (Nat.lt_of_lt_of_le (by decide) hN) kd_140 ?_
      refine g_iload_n (pc := 17) dX11_putAside_17 rfl rfl ?_
      obtain ⟨hg4, h⟩ := gd_some h
      refine r_iald (pc := 18) 35 dX11_putAside_18 (Nat.lt_of_lt_of_le (by decide) hN) kd_142 ln_142 hg4 ?_
      refine r_iast (pc := 19) 35 dX11_putAside_19 (Nat.lt_of_lt_of_le (by decide) hN) kd_148 ln_148 hg4 (fun m5 e6 => ?_)
      rw [lt_of e6] at h
      refine g_iinc (pc := 20) (lv' := fun y => [(0, .ref (κ 0 + 140)), (1, .int y)]) dX11_putAside_20 rfl (Nat.le_of_ble_eq_true rfl) (fun _ => rfl) (fun x7 e8 => ?_)
      rw [lt_of e8] at h
      refine g_goto (pc := 23) 2 dX11_putAside_23 (by decide) ?_
      refine g_lv (lv' := [(0, .ref (κ 0 + 140)), (1, .int x7)]) rfl ?_
      exact ih _ _ _ h k
set_option maxRecDepth 100000 in
set_option maxHeartbeats 4000000 in
theorem c_X11_putAside {κ : Nat → Nat} {N : Nat} (hN : 151 ≤ N)   (μ : gMem) {μ' : gMem} (h : f_X11_putAside  μ = some μ') : CT2 κ N 1 yX11_putAside iX11_putAside [.ref (κ 0 + 140)] μ (qV μ') := by
  refine CT2.of (by decide) rfl rfl (Nat.le_of_ble_eq_true rfl) ?_
  unfold f_X11_putAside at h
  show RR κ N 1 iX11_putAside 0 [(0, .ref (κ 0 + 140))] [] μ _
  refine g_iconst (pc := 0) (v := (0 : Int32)) dX11_putAside_0 rfl ?_
  refine g_istore_n (pc := 1) (lv' := fun y => [(0, .ref (κ 0 + 140)), (1, .int y)]) dX11_putAside_1 rfl (Nat.le_of_ble_eq_true rfl) (fun _ => rfl) (fun y1 e2 => ?_)
  rw [e2]
  obtain ⟨p9, hp10, h⟩ := Option.bind_eq_some_iff.mp h
  refine cl_X11_putAside_2 hN   gF (0 : Int32) _ _ hp10 ?_
  cases h
  exact r_vret dX11_putAside_26 rfl rfl

def l_X11_takeBack_2  : Nat → Int32 → gMem → Option (Int32 × gMem)
  | 0, _, _ => none
  | n + 1, i1, μ =>
  if (35 : Int32) ≤ i1 then
  (some (i1, μ))
else
  (if inb i1 35 = true then
  lt (st μ 142 i1.toNatClampNeg (μ 148 i1.toNatClampNeg)) (fun m5 =>
  lt (i1 + Int32.ofInt 1) (fun x7 =>
  l_X11_takeBack_2 n x7 m5)) else none)
def f_X11_takeBack  (μ : gMem) : Option (gMem) :=
  (l_X11_takeBack_2 gF (0 : Int32) μ).bind (fun p9 =>
  some p9.2)
set_option maxRecDepth 100000 in
set_option maxHeartbeats 4000000 in
theorem cl_X11_takeBack_2 {κ : Nat → Nat} {N : Nat} {Q : rQ} (hN : 151 ≤ N)   : ∀ (n : Nat) (i1 : Int32) (μ : gMem) (p : Int32 × gMem), l_X11_takeBack_2 n i1 μ = some p → RR κ N 1 iX11_takeBack 26 [(0, .ref (κ 0 + 140)), (1, .int p.1)] [] p.2 Q → RR κ N 1 iX11_takeBack 2 [(0, .ref (κ 0 + 140)), (1, .int i1)] [] μ Q := by
  intro n
  induction n with
  | zero =>
    intro i1 μ p h k
    unfold l_X11_takeBack_2 at h
    cases h
  | succ n ih =>
    intro i1 μ p h k
    unfold l_X11_takeBack_2 at h
    refine g_iload_n (pc := 2) dX11_takeBack_2 rfl rfl ?_
    refine g_bipush (pc := 3) (v := (35 : Int32)) dX11_takeBack_3 rfl ?_
    refine g_icmp_ge (pc := 5) 26 dX11_takeBack_5 (by decide) (fun hc3 => ?_) (fun hc3 => ?_)
    · rw [if_pos hc3] at h
      cases h
      exact k
    · rw [if_neg hc3] at h
      refine g_aload_n (pc := 8) dX11_takeBack_8 rfl rfl ?_
      refine gf_X11_13 (pc := 9) rfl dX11_takeBack_9 (Nat.lt_of_lt_of_le (by decide) hN) kd_140 ?_
      refine g_iload_n (pc := 12) dX11_takeBack_12 rfl rfl ?_
      refine g_aload_n (pc := 13) dX11_takeBack_13 rfl rfl ?_
      refine gf_X11_32 (pc := 14) rfl dX11_takeBack_14 (Nat.lt_of_lt_of_le (by decide) hN) kd_140 ?_
      refine g_iload_n (pc := 17) dX11_takeBack_17 rfl rfl ?_
      obtain ⟨hg4, h⟩ := gd_some h
      refine r_iald (pc := 18) 35 dX11_takeBack_18 (Nat.lt_of_lt_of_le (by decide) hN) kd_148 ln_148 hg4 ?_
      refine r_iast (pc := 19) 35 dX11_takeBack_19 (Nat.lt_of_lt_of_le (by decide) hN) kd_142 ln_142 hg4 (fun m5 e6 => ?_)
      rw [lt_of e6] at h
      refine g_iinc (pc := 20) (lv' := fun y => [(0, .ref (κ 0 + 140)), (1, .int y)]) dX11_takeBack_20 rfl (Nat.le_of_ble_eq_true rfl) (fun _ => rfl) (fun x7 e8 => ?_)
      rw [lt_of e8] at h
      refine g_goto (pc := 23) 2 dX11_takeBack_23 (by decide) ?_
      refine g_lv (lv' := [(0, .ref (κ 0 + 140)), (1, .int x7)]) rfl ?_
      exact ih _ _ _ h k
set_option maxRecDepth 100000 in
set_option maxHeartbeats 4000000 in
theorem c_X11_takeBack {κ : Nat → Nat} {N : Nat} (hN : 151 ≤ N)   (μ : gMem) {μ' : gMem} (h : f_X11_takeBack  μ = some μ') : CT2 κ N 1 yX11_takeBack iX11_takeBack [.ref (κ 0 + 140)] μ (qV μ') := by
  refine CT2.of (by decide) rfl rfl (Nat.le_of_ble_eq_true rfl) ?_
  unfold f_X11_takeBack at h
  show RR κ N 1 iX11_takeBack 0 [(0, .ref (κ 0 + 140))] [] μ _
  refine g_iconst (pc := 0) (v := (0 : Int32)) dX11_takeBack_0 rfl ?_
  refine g_istore_n (pc := 1) (lv' := fun y => [(0, .ref (κ 0 + 140)), (1, .int y)]) dX11_takeBack_1 rfl (Nat.le_of_ble_eq_true rfl) (fun _ => rfl) (fun y1 e2 => ?_)
  rw [e2]
  obtain ⟨p9, hp10, h⟩ := Option.bind_eq_some_iff.mp h
  refine cl_X11_takeBack_2 hN   gF (0 : Int32) _ _ hp10 ?_
  cases h
  exact r_vret dX11_takeBack_26 rfl rfl

def l_X11_levelBehind_2 (i1 : Int32) : Nat → Int32 → gMem → Option (Int32 × gMem)
  | 0, _, _ => none
  | n + 1, i2, μ =>
  if i1 ≤ i2 then
  (some (i2, μ))
else
  ((f_X11_oneMinute  μ).bind (fun p5 =>
  lt (i2 + Int32.ofInt 1) (fun x6 =>
  l_X11_levelBehind_2 i1 n x6 p5.2)))
def f_X11_levelBehind (i1 : Int32) (μ : gMem) : Option (Int32 × gMem) :=
  (l_X11_levelBehind_2 i1 gF (0 : Int32) μ).bind (fun p8 =>
  lt (p8.2 142 (31 : Int32).toNatClampNeg) (fun x10 =>
  (f_X11_takeBack  p8.2).bind (fun m13 =>
  some (x10, m13))))
set_option maxRecDepth 100000 in
set_option maxHeartbeats 4000000 in
theorem cl_X11_levelBehind_2 {κ : Nat → Nat} {N : Nat} {Q : rQ} (hN : 151 ≤ N) (i1 : Int32)  : ∀ (n : Nat) (i2 : Int32) (μ : gMem) (p : Int32 × gMem), l_X11_levelBehind_2 i1 n i2 μ = some p → RR κ N 6 iX11_levelBehind 18 [(0, .ref (κ 0 + 140)), (1, .int i1), (2, .int p.1)] [] p.2 Q → RR κ N 6 iX11_levelBehind 2 [(0, .ref (κ 0 + 140)), (1, .int i1), (2, .int i2)] [] μ Q := by
  intro n
  induction n with
  | zero =>
    intro i2 μ p h k
    unfold l_X11_levelBehind_2 at h
    cases h
  | succ n ih =>
    intro i2 μ p h k
    unfold l_X11_levelBehind_2 at h
    refine g_iload_n (pc := 2) dX11_levelBehind_2 rfl rfl ?_
    refine g_iload_n (pc := 3) dX11_levelBehind_3 rfl rfl ?_
    refine g_icmp_ge (pc := 4) 18 dX11_levelBehind_4 (by decide) (fun hc3 => ?_) (fun hc3 => ?_)
    · rw [if_pos hc3] at h
      cases h
      exact k
    · rw [if_neg hc3] at h
      refine g_aload_n (pc := 7) dX11_levelBehind_7 rfl rfl ?_
      obtain ⟨p5, hp4, h⟩ := Option.bind_eq_some_iff.mp h
      refine r_callV (ci := 10) (pc := 8) (c_X11_oneMinute hN  μ hp4) yV_X11_oneMinute ⟨rfl, by decide⟩ pX11_oneMinute mL_X11_175 dX11_levelBehind_8 (Nat.le_of_ble_eq_true rfl) (Nat.le_of_ble_eq_true rfl) (Nat.lt_of_lt_of_le (by decide) hN) kd_140 rfl (rK_i ?_)
      refine g_pop (pc := 11) dX11_levelBehind_11 rfl ?_
      refine g_iinc (pc := 12) (lv' := fun y => [(0, .ref (κ 0 + 140)), (1, .int i1), (2, .int y)]) dX11_levelBehind_12 rfl (Nat.le_of_ble_eq_true rfl) (fun _ => rfl) (fun x6 e7 => ?_)
      rw [lt_of e7] at h
      refine g_goto (pc := 15) 2 dX11_levelBehind_15 (by decide) ?_
      refine g_lv (lv' := [(0, .ref (κ 0 + 140)), (1, .int i1), (2, .int x6)]) rfl ?_
      exact ih _ _ _ h k
set_option maxRecDepth 100000 in
set_option maxHeartbeats 4000000 in
theorem c_X11_levelBehind {κ : Nat → Nat} {N : Nat} (hN : 151 ≤ N) (i1 : Int32)  (μ : gMem) {r : Int32} {μ' : gMem} (h : f_X11_levelBehind i1 μ = some (r, μ')) : CT2 κ N 6 yX11_levelBehind iX11_levelBehind [.ref (κ 0 + 140), .int i1] μ (qI r μ') := by
  refine CT2.of (by decide) rfl rfl (Nat.le_of_ble_eq_true rfl) ?_
  unfold f_X11_levelBehind at h
  show RR κ N 6 iX11_levelBehind 0 [(0, .ref (κ 0 + 140)), (1, .int i1)] [] μ _
  refine g_iconst (pc := 0) (v := (0 : Int32)) dX11_levelBehind_0 rfl ?_
  refine g_istore_n (pc := 1) (lv' := fun y => [(0, .ref (κ 0 + 140)), (1, .int i1), (2, .int y)]) dX11_levelBehind_1 rfl (Nat.le_of_ble_eq_true rfl) (fun _ => rfl) (fun y1 e2 => ?_)
  rw [e2]
  obtain ⟨p8, hp9, h⟩ := Option.bind_eq_some_iff.mp h
  refine cl_X11_levelBehind_2 hN i1  gF (0 : Int32) _ _ hp9 ?_
  refine g_aload_n (pc := 18) dX11_levelBehind_18 rfl rfl ?_
  refine gf_X11_13 (pc := 19) rfl dX11_levelBehind_19 (Nat.lt_of_lt_of_le (by decide) hN) kd_140 ?_
  refine g_bipush (pc := 22) (v := (31 : Int32)) dX11_levelBehind_22 rfl ?_
  refine r_iald (pc := 24) 35 dX11_levelBehind_24 (Nat.lt_of_lt_of_le (by decide) hN) kd_142 ln_142 (by decide) ?_
  refine g_istore_n (pc := 25) (lv' := fun y => [(0, .ref (κ 0 + 140)), (1, .int i1), (2, .int y)]) dX11_levelBehind_25 rfl (Nat.le_of_ble_eq_true rfl) (fun _ => rfl) (fun x10 e11 => ?_)
  rw [lt_of e11] at h
  refine g_aload_n (pc := 26) dX11_levelBehind_26 rfl rfl ?_
  obtain ⟨m13, hp12, h⟩ := Option.bind_eq_some_iff.mp h
  refine r_callV (ci := 10) (pc := 27) (c_X11_takeBack hN  p8.2 hp12) yV_X11_takeBack ⟨rfl, by decide⟩ pX11_takeBack mL_X11_178 dX11_levelBehind_27 (Nat.le_of_ble_eq_true rfl) (Nat.le_of_ble_eq_true rfl) (Nat.lt_of_lt_of_le (by decide) hN) kd_140 rfl (rK_v ?_)
  refine g_iload_n (pc := 30) dX11_levelBehind_30 rfl rfl ?_
  cases h
  exact r_iret dX11_levelBehind_31 rfl rfl rfl

def l_X11_highestOf_10 (i1 : Int32) : Nat → Int32 → Int32 → gMem → Option (Int32 × Int32 × gMem)
  | 0, _, _, _ => none
  | n + 1, i2, i3, μ =>
  if i1 ≤ i3 then
  (some (i2, i3, μ))
else
  ((f_X11_oneMinute  μ).bind (fun p7 =>
  lt p7.1 (fun x8 =>
  lt (if x8 ≤ i2 then i2 else x8) (fun x10 =>
  lt (i3 + Int32.ofInt 1) (fun x15 =>
  l_X11_highestOf_10 i1 n x10 x15 p7.2)))))
def f_X11_highestOf (i1 : Int32) (μ : gMem) : Option (Int32 × gMem) :=
  lt (μ 142 (31 : Int32).toNatClampNeg) (fun x1 =>
  (l_X11_highestOf_10 i1 gF x1 (0 : Int32) μ).bind (fun p18 =>
  (f_X11_takeBack  p18.2.2).bind (fun m21 =>
  some (p18.1, m21))))
set_option maxRecDepth 100000 in
set_option maxHeartbeats 4000000 in
theorem cl_X11_highestOf_10 {κ : Nat → Nat} {N : Nat} {Q : rQ} (hN : 151 ≤ N) (i1 : Int32)  : ∀ (n : Nat) (i2 : Int32) (i3 : Int32) (μ : gMem) (p : Int32 × Int32 × gMem), l_X11_highestOf_10 i1 n i2 i3 μ = some p → RR κ N 6 iX11_highestOf 40 [(0, .ref (κ 0 + 140)), (1, .int i1), (2, .int p.1), (3, .int p.2.1)] [] p.2.2 Q → RR κ N 6 iX11_highestOf 10 [(0, .ref (κ 0 + 140)), (1, .int i1), (2, .int i2), (3, .int i3)] [] μ Q := by
  intro n
  induction n with
  | zero =>
    intro i2 i3 μ p h k
    unfold l_X11_highestOf_10 at h
    cases h
  | succ n ih =>
    intro i2 i3 μ p h k
    unfold l_X11_highestOf_10 at h
    refine g_iload_n (pc := 10) dX11_highestOf_10 rfl rfl ?_
    refine g_iload_n (pc := 11) dX11_highestOf_11 rfl rfl ?_
    refine g_icmp_ge (pc := 12) 40 dX11_highestOf_12 (by decide) (fun hc5 => ?_) (fun hc5 => ?_)
    · rw [if_pos hc5] at h
      cases h
      exact k
    · rw [if_neg hc5] at h
      refine g_aload_n (pc := 15) dX11_highestOf_15 rfl rfl ?_
      obtain ⟨p7, hp6, h⟩ := Option.bind_eq_some_iff.mp h
      refine r_callV (ci := 10) (pc := 16) (c_X11_oneMinute hN  μ hp6) yV_X11_oneMinute ⟨rfl, by decide⟩ pX11_oneMinute mL_X11_175 dX11_highestOf_16 (Nat.le_of_ble_eq_true rfl) (Nat.le_of_ble_eq_true rfl) (Nat.lt_of_lt_of_le (by decide) hN) kd_140 rfl (rK_i ?_)
      refine g_istore (pc := 19) (lv' := fun y => [(0, .ref (κ 0 + 140)), (1, .int i1), (2, .int i2), (3, .int i3), (4, .int y)]) dX11_highestOf_19 (Nat.le_of_ble_eq_true rfl) (fun _ => rfl) (fun x8 e9 => ?_)
      rw [lt_of e9] at h
      refine g_iload (pc := 21) dX11_highestOf_21 rfl ?_
      refine g_iload_n (pc := 23) dX11_highestOf_23 rfl rfl ?_
      have key12 : ∀ x10 : Int32, x10 = (if x8 ≤ i2 then i2 else x8) → RR κ N 6 iX11_highestOf 33 [(0, .ref (κ 0 + 140)), (1, .int i1), (2, .int i2), (3, .int i3), (4, .int x8)] [.int x10] p7.2 Q := by
        intro x10 e11
        rw [lt_of e11] at h
        refine g_istore_n (pc := 33) (lv' := fun y => [(0, .ref (κ 0 + 140)), (1, .int i1), (2, .int y), (3, .int i3), (4, .int x8)]) dX11_highestOf_33 rfl (Nat.le_of_ble_eq_true rfl) (fun _ => rfl) (fun y13 e14 => ?_)
        rw [e14]
        refine g_iinc (pc := 34) (lv' := fun y => [(0, .ref (κ 0 + 140)), (1, .int i1), (2, .int x10), (3, .int y), (4, .int x8)]) dX11_highestOf_34 rfl (Nat.le_of_ble_eq_true rfl) (fun _ => rfl) (fun x15 e16 => ?_)
        rw [lt_of e16] at h
        refine g_goto (pc := 37) 10 dX11_highestOf_37 (by decide) ?_
        refine g_lv (lv' := [(0, .ref (κ 0 + 140)), (1, .int i1), (2, .int x10), (3, .int x15)]) rfl ?_
        exact ih _ _ _ _ h k
      refine g_icmp_le (pc := 24) 32 dX11_highestOf_24 (by decide) (fun hc17 => ?_) (fun hc17 => ?_)
      · refine g_iload_n (pc := 32) dX11_highestOf_32 rfl rfl ?_
        exact key12 _ (by rw [if_pos hc17])
      · refine g_iload (pc := 27) dX11_highestOf_27 rfl ?_
        refine g_goto (pc := 29) 33 dX11_highestOf_29 (by decide) ?_
        exact key12 _ (by rw [if_neg hc17])
set_option maxRecDepth 100000 in
set_option maxHeartbeats 4000000 in
theorem c_X11_highestOf {κ : Nat → Nat} {N : Nat} (hN : 151 ≤ N) (i1 : Int32)  (μ : gMem) {r : Int32} {μ' : gMem} (h : f_X11_highestOf i1 μ = some (r, μ')) : CT2 κ N 6 yX11_highestOf iX11_highestOf [.ref (κ 0 + 140), .int i1] μ (qI r μ') := by
  refine CT2.of (by decide) rfl rfl (Nat.le_of_ble_eq_true rfl) ?_
  unfold f_X11_highestOf at h
  show RR κ N 6 iX11_highestOf 0 [(0, .ref (κ 0 + 140)), (1, .int i1)] [] μ _
  refine g_aload_n (pc := 0) dX11_highestOf_0 rfl rfl ?_
  refine gf_X11_13 (pc := 1) rfl dX11_highestOf_1 (Nat.lt_of_lt_of_le (by decide) hN) kd_140 ?_
  refine g_bipush (pc := 4) (v := (31 : Int32)) dX11_highestOf_4 rfl ?_
  refine r_iald (pc := 6) 35 dX11_highestOf_6 (Nat.lt_of_lt_of_le (by decide) hN) kd_142 ln_142 (by decide) ?_
  refine g_istore_n (pc := 7) (lv' := fun y => [(0, .ref (κ 0 + 140)), (1, .int i1), (2, .int y)]) dX11_highestOf_7 rfl (Nat.le_of_ble_eq_true rfl) (fun _ => rfl) (fun x1 e2 => ?_)
  rw [lt_of e2] at h
  refine g_iconst (pc := 8) (v := (0 : Int32)) dX11_highestOf_8 rfl ?_
  refine g_istore_n (pc := 9) (lv' := fun y => [(0, .ref (κ 0 + 140)), (1, .int i1), (2, .int x1), (3, .int y)]) dX11_highestOf_9 rfl (Nat.le_of_ble_eq_true rfl) (fun _ => rfl) (fun y3 e4 => ?_)
  rw [e4]
  obtain ⟨p18, hp19, h⟩ := Option.bind_eq_some_iff.mp h
  refine cl_X11_highestOf_10 hN i1  gF x1 (0 : Int32) _ _ hp19 ?_
  refine g_aload_n (pc := 40) dX11_highestOf_40 rfl rfl ?_
  obtain ⟨m21, hp20, h⟩ := Option.bind_eq_some_iff.mp h
  refine r_callV (ci := 10) (pc := 41) (c_X11_takeBack hN  p18.2.2 hp20) yV_X11_takeBack ⟨rfl, by decide⟩ pX11_takeBack mL_X11_178 dX11_highestOf_41 (Nat.le_of_ble_eq_true rfl) (Nat.le_of_ble_eq_true rfl) (Nat.lt_of_lt_of_le (by decide) hN) kd_140 rfl (rK_v ?_)
  refine g_iload_n (pc := 44) dX11_highestOf_44 rfl rfl ?_
  cases h
  exact r_iret dX11_highestOf_45 rfl rfl rfl

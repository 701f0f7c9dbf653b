def f_X11_asAtFirst (a0 : Nat) (μ : gMem) : Option (gMem) :=
  lt (st μ a0 (0 : Int32).toNatClampNeg (50 : Int32)) (fun m1 =>
  lt (st m1 a0 (1 : Int32).toNatClampNeg (2 : Int32)) (fun m3 =>
  lt (st m3 a0 (2 : Int32).toNatClampNeg (-1 : Int32)) (fun m5 =>
  lt (st m5 a0 (3 : Int32).toNatClampNeg (-1 : Int32)) (fun m7 =>
  lt (st m7 a0 (4 : Int32).toNatClampNeg (0 : Int32)) (fun m9 =>
  lt (st m9 a0 (5 : Int32).toNatClampNeg (3 : Int32)) (fun m11 =>
  some m11))))))
set_option maxRecDepth 100000 in
set_option maxHeartbeats 4000000 in
theorem c_X11_asAtFirst {κ : Nat → Nat} {N : Nat} (hN : 151 ≤ N) (a0 : Nat) (h0 : kd a0 = 20) (g0 : a0 < N) (n0 : ln a0 = 31) (μ : gMem) {μ' : gMem} (h : f_X11_asAtFirst a0 μ = some μ') : CT2 κ N 1 yX11_asAtFirst iX11_asAtFirst [.ref (κ 0 + a0)] μ (qV μ') := by
  refine CT2.of (by decide) rfl rfl (Nat.le_of_ble_eq_true rfl) ?_
  unfold f_X11_asAtFirst at h
  show RR κ N 1 iX11_asAtFirst 0 [(0, .ref (κ 0 + a0))] [] μ _
  refine g_aload_n (pc := 0) dX11_asAtFirst_0 rfl rfl ?_
  refine g_iconst (pc := 1) (v := (0 : Int32)) dX11_asAtFirst_1 rfl ?_
  refine g_bipush (pc := 2) (v := (50 : Int32)) dX11_asAtFirst_2 rfl ?_
  refine r_iast (pc := 4) 31 dX11_asAtFirst_4 g0 h0 n0 (by decide) (fun m1 e2 => ?_)
  rw [lt_of e2] at h
  refine g_aload_n (pc := 5) dX11_asAtFirst_5 rfl rfl ?_
  refine g_iconst (pc := 6) (v := (1 : Int32)) dX11_asAtFirst_6 rfl ?_
  refine g_iconst (pc := 7) (v := (2 : Int32)) dX11_asAtFirst_7 rfl ?_
  refine r_iast (pc := 8) 31 dX11_asAtFirst_8 g0 h0 n0 (by decide) (fun m3 e4 => ?_)
  rw [lt_of e4] at h
  refine g_aload_n (pc := 9) dX11_asAtFirst_9 rfl rfl ?_
  refine g_iconst (pc := 10) (v := (2 : Int32)) dX11_asAtFirst_10 rfl ?_
  refine g_iconst (pc := 11) (v := (-1 : Int32)) dX11_asAtFirst_11 rfl ?_
  refine r_iast (pc := 12) 31 dX11_asAtFirst_12 g0 h0 n0 (by decide) (fun m5 e6 => ?_)
  rw [lt_of e6] at h
  refine g_aload_n (pc := 13) dX11_asAtFirst_13 rfl rfl ?_
  refine g_iconst (pc := 14) (v := (3 : Int32)) dX11_asAtFirst_14 rfl ?_
  refine g_iconst (pc := 15) (v := (-1 : Int32)) dX11_asAtFirst_15 rfl ?_
  refine r_iast (pc := 16) 31 dX11_asAtFirst_16 g0 h0 n0 (by decide) (fun m7 e8 => ?_)
  rw [lt_of e8] at h
  refine g_aload_n (pc := 17) dX11_asAtFirst_17 rfl rfl ?_
  refine g_iconst (pc := 18) (v := (4 : Int32)) dX11_asAtFirst_18 rfl ?_
  refine g_iconst (pc := 19) (v := (0 : Int32)) dX11_asAtFirst_19 rfl ?_
  refine r_iast (pc := 20) 31 dX11_asAtFirst_20 g0 h0 n0 (by decide) (fun m9 e10 => ?_)
  rw [lt_of e10] at h
  refine g_aload_n (pc := 21) dX11_asAtFirst_21 rfl rfl ?_
  refine g_iconst (pc := 22) (v := (5 : Int32)) dX11_asAtFirst_22 rfl ?_
  refine g_iconst (pc := 23) (v := (3 : Int32)) dX11_asAtFirst_23 rfl ?_
  refine r_iast (pc := 24) 31 dX11_asAtFirst_24 g0 h0 n0 (by decide) (fun m11 e12 => ?_)
  rw [lt_of e12] at h
  cases h
  exact r_vret dX11_asAtFirst_25 rfl rfl

def f_X11_in (l0 : Int64) (l2 : Int64) (l4 : Int64) (μ : gMem) : Option (Int32 × gMem) :=
  if (lg_cmp l0 l2) < 0 then
  (some ((0 : Int32), μ))
else
  (lt (if 0 < (lg_cmp l0 l4) then (0 : Int32) else (1 : Int32)) (fun x2 =>
  some (x2, μ)))
set_option maxRecDepth 100000 in
set_option maxHeartbeats 4000000 in
theorem c_X11_in {κ : Nat → Nat} {N : Nat} (hN : 151 ≤ N) (l0 : Int64) (l2 : Int64) (l4 : Int64)  (μ : gMem) {r : Int32} {μ' : gMem} (h : f_X11_in l0 l2 l4 μ = some (r, μ')) : CT2 κ N 1 yX11_in iX11_in [.long l0, .long l2, .long l4] μ (qZ r μ') := by
  refine CT2.of (by decide) rfl rfl (Nat.le_of_ble_eq_true rfl) ?_
  unfold f_X11_in at h
  show RR κ N 1 iX11_in 0 [(0, .long l0), (2, .long l2), (4, .long l4)] [] μ _
  refine g_lload_n (pc := 0) dX11_in_0 rfl rfl ?_
  refine g_lload_n (pc := 1) dX11_in_1 rfl rfl ?_
  refine g_lcmp (pc := 2) dX11_in_2 ?_
  refine g_if_lt (pc := 3) 17 dX11_in_3 (by decide) (fun hc1 => ?_) (fun hc1 => ?_)
  · rw [if_pos hc1] at h
    refine g_iconst (pc := 17) (v := (0 : Int32)) dX11_in_17 rfl ?_
    cases h
    exact r_zret dX11_in_18 rfl rfl rfl rfl
  · rw [if_neg hc1] at h
    refine g_lload_n (pc := 6) dX11_in_6 rfl rfl ?_
    refine g_lload (pc := 7) dX11_in_7 rfl ?_
    refine g_lcmp (pc := 9) dX11_in_9 ?_
    have key4 : ∀ x2 : Int32, x2 = (if 0 < (lg_cmp l0 l4) then (0 : Int32) else (1 : Int32)) → RR κ N 1 iX11_in 18 [(0, .long l0), (2, .long l2), (4, .long l4)] [.int x2] μ (qZ r μ') := by
      intro x2 e3
      rw [lt_of e3] at h
      cases h
      exact r_zret dX11_in_18 rfl (nz_if' e3) rfl rfl
    refine g_if_gt (pc := 10) 17 dX11_in_10 (by decide) (fun hc5 => ?_) (fun hc5 => ?_)
    · refine g_iconst (pc := 17) (v := (0 : Int32)) dX11_in_17 rfl ?_
      exact key4 _ (by rw [if_pos hc5])
    · refine g_iconst (pc := 13) (v := (1 : Int32)) dX11_in_13 rfl ?_
      refine g_goto (pc := 14) 18 dX11_in_14 (by decide) ?_
      exact key4 _ (by rw [if_neg hc5])

def f_X11_has (i0 : Int32) (i1 : Int32) (μ : gMem) : Option (Int32 × gMem) :=
  lt (if ((i0 >>> (i1 &&& 31)) &&& (1 : Int32)) = (1 : Int32) then (1 : Int32) else (0 : Int32)) (fun x1 =>
  some (x1, μ))
set_option maxRecDepth 100000 in
set_option maxHeartbeats 4000000 in
theorem c_X11_has {κ : Nat → Nat} {N : Nat} (hN : 151 ≤ N) (i0 : Int32) (i1 : Int32)  (μ : gMem) {r : Int32} {μ' : gMem} (h : f_X11_has i0 i1 μ = some (r, μ')) : CT2 κ N 1 yX11_has iX11_has [.int i0, .int i1] μ (qZ r μ') := by
  refine CT2.of (by decide) rfl rfl (Nat.le_of_ble_eq_true rfl) ?_
  unfold f_X11_has at h
  show RR κ N 1 iX11_has 0 [(0, .int i0), (1, .int i1)] [] μ _
  refine g_iload_n (pc := 0) dX11_has_0 rfl rfl ?_
  refine g_iload_n (pc := 1) dX11_has_1 rfl rfl ?_
  refine g_ishr (pc := 2) dX11_has_2 ?_
  refine g_iconst (pc := 3) (v := (1 : Int32)) dX11_has_3 rfl ?_
  refine g_iand (pc := 4) dX11_has_4 ?_
  refine g_iconst (pc := 5) (v := (1 : Int32)) dX11_has_5 rfl ?_
  have key3 : ∀ x1 : Int32, x1 = (if ((i0 >>> (i1 &&& 31)) &&& (1 : Int32)) = (1 : Int32) then (1 : Int32) else (0 : Int32)) → RR κ N 1 iX11_has 14 [(0, .int i0), (1, .int i1)] [.int x1] μ (qZ r μ') := by
    intro x1 e2
    rw [lt_of e2] at h
    cases h
    exact r_zret dX11_has_14 rfl (nz_if e2) rfl rfl
  refine g_icmp_ne (pc := 6) 13 dX11_has_6 (by decide) (fun hc4 => ?_) (fun hc4 => ?_)
  · refine g_iconst (pc := 13) (v := (0 : Int32)) dX11_has_13 rfl ?_
    exact key3 _ (by rw [if_neg hc4])
  · refine g_iconst (pc := 9) (v := (1 : Int32)) dX11_has_9 rfl ?_
    refine g_goto (pc := 10) 14 dX11_has_10 (by decide) ?_
    exact key3 _ (by rw [if_pos hc4])

def l_X11_ones_4 (i0 : Int32) : Nat → Int32 → Int32 → gMem → Option (Int32 × Int32 × gMem)
  | 0, _, _, _ => none
  | n + 1, i1, i2, μ =>
  if i2 = 0 then
  (some (i1, i2, μ))
else
  (lt (i1 + Int32.ofInt 1) (fun x6 =>
  lt (i2 &&& (i2 - (1 : Int32))) (fun x8 =>
  l_X11_ones_4 i0 n x6 x8 μ)))
def f_X11_ones (i0 : Int32) (μ : gMem) : Option (Int32 × gMem) :=
  (l_X11_ones_4 i0 gF (0 : Int32) i0 μ).bind (fun p10 =>
  some (p10.1, p10.2.2))
set_option maxRecDepth 100000 in
set_option maxHeartbeats 4000000 in
theorem cl_X11_ones_4 {κ : Nat → Nat} {N : Nat} {Q : rQ} (hN : 151 ≤ N) (i0 : Int32)  : ∀ (n : Nat) (i1 : Int32) (i2 : Int32) (μ : gMem) (p : Int32 × Int32 × gMem), l_X11_ones_4 i0 n i1 i2 μ = some p → RR κ N 1 iX11_ones 20 [(0, .int i0), (1, .int p.1), (2, .int p.2.1)] [] p.2.2 Q → RR κ N 1 iX11_ones 4 [(0, .int i0), (1, .int i1), (2, .int i2)] [] μ Q := by
  intro n
  induction n with
  | zero =>
    intro i1 i2 μ p h k
    unfold l_X11_ones_4 at h
    cases h
  | succ n ih =>
    intro i1 i2 μ p h k
    unfold l_X11_ones_4 at h
    refine g_iload_n (pc := 4) dX11_ones_4 rfl rfl ?_
    refine g_if_eq (pc := 5) 20 dX11_ones_5 (by decide) (fun hc5 => ?_) (fun hc5 => ?_)
    · rw [if_pos hc5] at h
      cases h
      exact k
    · rw [if_neg hc5] at h
      refine g_iinc (pc := 8) (lv' := fun y => [(0, .int i0), (1, .int y), (2, .int i2)]) dX11_ones_8 rfl (Nat.le_of_ble_eq_true rfl) (fun _ => rfl) (fun x6 e7 => ?_)
      rw [lt_of e7] at h
      refine g_iload_n (pc := 11) dX11_ones_11 rfl rfl ?_
      refine g_iload_n (pc := 12) dX11_ones_12 rfl rfl ?_
      refine g_iconst (pc := 13) (v := (1 : Int32)) dX11_ones_13 rfl ?_
      refine g_isub (pc := 14) dX11_ones_14 ?_
      refine g_iand (pc := 15) dX11_ones_15 ?_
      refine g_istore_n (pc := 16) (lv' := fun y => [(0, .int i0), (1, .int x6), (2, .int y)]) dX11_ones_16 rfl (Nat.le_of_ble_eq_true rfl) (fun _ => rfl) (fun x8 e9 => ?_)
      rw [lt_of e9] at h
      refine g_goto (pc := 17) 4 dX11_ones_17 (by decide) ?_
      refine g_lv (lv' := [(0, .int i0), (1, .int x6), (2, .int x8)]) rfl ?_
      exact ih _ _ _ _ h k
set_option maxRecDepth 100000 in
set_option maxHeartbeats 4000000 in
theorem c_X11_ones {κ : Nat → Nat} {N : Nat} (hN : 151 ≤ N) (i0 : Int32)  (μ : gMem) {r : Int32} {μ' : gMem} (h : f_X11_ones i0 μ = some (r, μ')) : CT2 κ N 1 yX11_ones iX11_ones [.int i0] μ (qI r μ') := by
  refine CT2.of (by decide) rfl rfl (Nat.le_of_ble_eq_true rfl) ?_
  unfold f_X11_ones at h
  show RR κ N 1 iX11_ones 0 [(0, .int i0)] [] μ _
  refine g_iconst (pc := 0) (v := (0 : Int32)) dX11_ones_0 rfl ?_
  refine g_istore_n (pc := 1) (lv' := fun y => [(0, .int i0), (1, .int y)]) dX11_ones_1 rfl (Nat.le_of_ble_eq_true rfl) (fun _ => rfl) (fun y1 e2 => ?_)
  rw [e2]
  refine g_iload_n (pc := 2) dX11_ones_2 rfl rfl ?_
  refine g_istore_n (pc := 3) (lv' := fun y => [(0, .int i0), (1, .int (0 : Int32)), (2, .int y)]) dX11_ones_3 rfl (Nat.le_of_ble_eq_true rfl) (fun _ => rfl) (fun y3 e4 => ?_)
  rw [e4]
  obtain ⟨p10, hp11, h⟩ := Option.bind_eq_some_iff.mp h
  refine cl_X11_ones_4 hN i0  gF (0 : Int32) i0 _ _ hp11 ?_
  refine g_iload_n (pc := 20) dX11_ones_20 rfl rfl ?_
  cases h
  exact r_iret dX11_ones_21 rfl rfl rfl

def f_X11_isSister (i1 : Int32) (μ : gMem) : Option (Int32 × gMem) :=
  (f_X11_in i1.toInt64 (0 : Int64) (((μ 140 1) - (1 : Int32)).toInt64) μ).bind (fun p2 =>
  some (p2.1, p2.2))
set_option maxRecDepth 100000 in
set_option maxHeartbeats 4000000 in
theorem c_X11_isSister {κ : Nat → Nat} {N : Nat} (hN : 151 ≤ N) (i1 : Int32)  (μ : gMem) {r : Int32} {μ' : gMem} (h : f_X11_isSister i1 μ = some (r, μ')) : CT2 κ N 2 yX11_isSister iX11_isSister [.ref (κ 0 + 140), .int i1] μ (qZ r μ') := by
  refine CT2.of (by decide) rfl rfl (Nat.le_of_ble_eq_true rfl) ?_
  unfold f_X11_isSister at h
  show RR κ N 2 iX11_isSister 0 [(0, .ref (κ 0 + 140)), (1, .int i1)] [] μ _
  refine g_iload_n (pc := 0) dX11_isSister_0 rfl rfl ?_
  refine g_i2l (pc := 1) dX11_isSister_1 ?_
  refine g_lconst (pc := 2) (v := (0 : Int64)) dX11_isSister_2 rfl ?_
  refine g_aload_n (pc := 3) dX11_isSister_3 rfl rfl ?_
  refine gf_X11_45 (pc := 4) rfl dX11_isSister_4 (Nat.lt_of_lt_of_le (by decide) hN) kd_140 ?_
  refine g_iconst (pc := 7) (v := (1 : Int32)) dX11_isSister_7 rfl ?_
  refine g_isub (pc := 8) dX11_isSister_8 ?_
  refine g_i2l (pc := 9) dX11_isSister_9 ?_
  obtain ⟨p2, hp1, h⟩ := Option.bind_eq_some_iff.mp h
  refine r_callS (pc := 10) (c_X11_in hN i1.toInt64 (0 : Int64) (((μ 140 1) - (1 : Int32)).toInt64) μ hp1) yS_X11_in pX11_in mL_X11_49 dX11_isSister_10 (Nat.le_of_ble_eq_true rfl) (Nat.le_of_ble_eq_true rfl) rfl (rK_z (fun hz3 => ?_))
  cases h
  exact r_zret dX11_isSister_13 rfl hz3 rfl rfl

def f_X11_write (i1 : Int32) (μ : gMem) : Option (Int32 × gMem) :=
  (f_X11_in i1.toInt64 (0 : Int64) (255 : Int64) μ).bind (fun p2 =>
  if p2.1 = 0 then
  (some ((-3 : Int32), p2.2))
else
  (if (p2.2 140 4) = (160 : Int32) then
  (some ((-5 : Int32), p2.2))
else
  (if inb (p2.2 140 4) 160 = true then
  lt (st p2.2 143 (p2.2 140 4).toNatClampNeg i1) (fun m6 =>
  lt (st m6 140 4 ((m6 140 4) + (1 : Int32))) (fun m9 =>
  some ((m9 140 4), m9))) else none)))
set_option maxRecDepth 100000 in
set_option maxHeartbeats 4000000 in
theorem c_X11_write {κ : Nat → Nat} {N : Nat} (hN : 151 ≤ N) (i1 : Int32)  (μ : gMem) {r : Int32} {μ' : gMem} (h : f_X11_write i1 μ = some (r, μ')) : CT2 κ N 2 yX11_write iX11_write [.ref (κ 0 + 140), .int i1] μ (qI r μ') := by
  refine CT2.of (by decide) rfl rfl (Nat.le_of_ble_eq_true rfl) ?_
  unfold f_X11_write at h
  show RR κ N 2 iX11_write 0 [(0, .ref (κ 0 + 140)), (1, .int i1)] [] μ _
  refine g_iload_n (pc := 0) dX11_write_0 rfl rfl ?_
  refine g_i2l (pc := 1) dX11_write_1 ?_
  refine g_lconst (pc := 2) (v := (0 : Int64)) dX11_write_2 rfl ?_
  refine g_ldc2 (pc := 3) kL_X11_53 dX11_write_3 ?_
  obtain ⟨p2, hp1, h⟩ := Option.bind_eq_some_iff.mp h
  refine r_callS (pc := 6) (c_X11_in hN i1.toInt64 (0 : Int64) (255 : Int64) μ hp1) yS_X11_in pX11_in mL_X11_49 dX11_write_6 (Nat.le_of_ble_eq_true rfl) (Nat.le_of_ble_eq_true rfl) rfl (rK_z (fun hz3 => ?_))
  refine g_if_ne (pc := 9) 15 dX11_write_9 (by decide) (fun hc4 => ?_) (fun hc4 => ?_)
  · rw [if_neg hc4] at h
    refine g_aload_n (pc := 15) dX11_write_15 rfl rfl ?_
    refine gf_X11_55 (pc := 16) rfl dX11_write_16 (Nat.lt_of_lt_of_le (by decide) hN) kd_140 ?_
    refine g_sipush (pc := 19) (v := (160 : Int32)) dX11_write_19 rfl ?_
    refine g_icmp_ne (pc := 22) 28 dX11_write_22 (by decide) (fun hc5 => ?_) (fun hc5 => ?_)
    · rw [if_neg hc5] at h
      refine g_aload_n (pc := 28) dX11_write_28 rfl rfl ?_
      refine gf_X11_16 (pc := 29) rfl dX11_write_29 (Nat.lt_of_lt_of_le (by decide) hN) kd_140 ?_
      refine g_aload_n (pc := 32) dX11_write_32 rfl rfl ?_
      refine gf_X11_55 (pc := 33) rfl dX11_write_33 (Nat.lt_of_lt_of_le (by decide) hN) kd_140 ?_
      refine g_iload_n (pc := 36) dX11_write_36 rfl rfl ?_
      obtain ⟨hg8, h⟩ := gd_some h
      refine r_iast (pc := 37) 160 dX11_write_37 (Nat.lt_of_lt_of_le (by decide) hN) kd_143 ln_143 hg8 (fun m6 e7 => ?_)
      rw [lt_of e7] at h
      refine g_aload_n (pc := 38) dX11_write_38 rfl rfl ?_
      refine g_dup (pc := 39) dX11_write_39 rfl ?_
      refine gf_X11_55 (pc := 40) rfl dX11_write_40 (Nat.lt_of_lt_of_le (by decide) hN) kd_140 ?_
      refine g_iconst (pc := 43) (v := (1 : Int32)) dX11_write_43 rfl ?_
      refine g_iadd (pc := 44) dX11_write_44 ?_
      refine pf_X11_55 (pc := 45) rfl dX11_write_45 (Nat.lt_of_lt_of_le (by decide) hN) kd_140 (fun m9 e10 => ?_)
      rw [lt_of e10] at h
      refine g_aload_n (pc := 48) dX11_write_48 rfl rfl ?_
      refine gf_X11_55 (pc := 49) rfl dX11_write_49 (Nat.lt_of_lt_of_le (by decide) hN) kd_140 ?_
      cases h
      exact r_iret dX11_write_52 rfl rfl rfl
    · rw [if_pos hc5] at h
      refine g_bipush (pc := 25) (v := (-5 : Int32)) dX11_write_25 rfl ?_
      cases h
      exact r_iret dX11_write_27 rfl rfl rfl
  · rw [if_pos hc4] at h
    refine g_bipush (pc := 12) (v := (-3 : Int32)) dX11_write_12 rfl ?_
    cases h
    exact r_iret dX11_write_14 rfl rfl rfl

def f_X11_erase  (μ : gMem) : Option (Int32 × gMem) :=
  lt (μ 140 4) (fun x1 =>
  lt (st μ 140 4 (0 : Int32)) (fun m3 =>
  some (x1, m3)))
set_option maxRecDepth 100000 in
set_option maxHeartbeats 4000000 in
theorem c_X11_erase {κ : Nat → Nat} {N : Nat} (hN : 151 ≤ N)   (μ : gMem) {r : Int32} {μ' : gMem} (h : f_X11_erase  μ = some (r, μ')) : CT2 κ N 1 yX11_erase iX11_erase [.ref (κ 0 + 140)] μ (qI r μ') := by
  refine CT2.of (by decide) rfl rfl (Nat.le_of_ble_eq_true rfl) ?_
  unfold f_X11_erase at h
  show RR κ N 1 iX11_erase 0 [(0, .ref (κ 0 + 140))] [] μ _
  refine g_aload_n (pc := 0) dX11_erase_0 rfl rfl ?_
  refine gf_X11_55 (pc := 1) rfl dX11_erase_1 (Nat.lt_of_lt_of_le (by decide) hN) kd_140 ?_
  refine g_istore_n (pc := 4) (lv' := fun y => [(0, .ref (κ 0 + 140)), (1, .int y)]) dX11_erase_4 rfl (Nat.le_of_ble_eq_true rfl) (fun _ => rfl) (fun x1 e2 => ?_)
  rw [lt_of e2] at h
  refine g_aload_n (pc := 5) dX11_erase_5 rfl rfl ?_
  refine g_iconst (pc := 6) (v := (0 : Int32)) dX11_erase_6 rfl ?_
  refine pf_X11_55 (pc := 7) rfl dX11_erase_7 (Nat.lt_of_lt_of_le (by decide) hN) kd_140 (fun m3 e4 => ?_)
  rw [lt_of e4] at h
  refine g_iload_n (pc := 10) dX11_erase_10 rfl rfl ?_
  cases h
  exact r_iret dX11_erase_11 rfl rfl rfl

def f_X11_letterAt (i1 : Int32) (μ : gMem) : Option (Int32 × gMem) :=
  if (μ 140 4) ≤ i1 then
  (some ((0 : Int32), μ))
else
  (if inb i1 160 = true then
  some ((μ 143 i1.toNatClampNeg), μ) else none)
set_option maxRecDepth 100000 in
set_option maxHeartbeats 4000000 in
theorem c_X11_letterAt {κ : Nat → Nat} {N : Nat} (hN : 151 ≤ N) (i1 : Int32)  (μ : gMem) {r : Int32} {μ' : gMem} (h : f_X11_letterAt i1 μ = some (r, μ')) : CT2 κ N 1 yX11_letterAt iX11_letterAt [.ref (κ 0 + 140), .int i1] μ (qI r μ') := by
  refine CT2.of (by decide) rfl rfl (Nat.le_of_ble_eq_true rfl) ?_
  unfold f_X11_letterAt at h
  show RR κ N 1 iX11_letterAt 0 [(0, .ref (κ 0 + 140)), (1, .int i1)] [] μ _
  refine g_iload_n (pc := 0) dX11_letterAt_0 rfl rfl ?_
  refine g_aload_n (pc := 1) dX11_letterAt_1 rfl rfl ?_
  refine gf_X11_55 (pc := 2) rfl dX11_letterAt_2 (Nat.lt_of_lt_of_le (by decide) hN) kd_140 ?_
  refine g_icmp_ge (pc := 5) 17 dX11_letterAt_5 (by decide) (fun hc1 => ?_) (fun hc1 => ?_)
  · rw [if_pos hc1] at h
    refine g_iconst (pc := 17) (v := (0 : Int32)) dX11_letterAt_17 rfl ?_
    cases h
    exact r_iret dX11_letterAt_18 rfl rfl rfl
  · rw [if_neg hc1] at h
    refine g_aload_n (pc := 8) dX11_letterAt_8 rfl rfl ?_
    refine gf_X11_16 (pc := 9) rfl dX11_letterAt_9 (Nat.lt_of_lt_of_le (by decide) hN) kd_140 ?_
    refine g_iload_n (pc := 12) dX11_letterAt_12 rfl rfl ?_
    obtain ⟨hg2, h⟩ := gd_some h
    refine r_iald (pc := 13) 160 dX11_letterAt_13 (Nat.lt_of_lt_of_le (by decide) hN) kd_143 ln_143 hg2 ?_
    refine g_goto (pc := 14) 18 dX11_letterAt_14 (by decide) ?_
    cases h
    exact r_iret dX11_letterAt_18 rfl rfl rfl

def l_X11_nextToken_0  : Nat → gMem → Option (gMem)
  | 0, _ => none
  | n + 1, μ =>
  (f_X11_letterAt (μ 140 5) μ).bind (fun p2 =>
  if p2.1 = (32 : Int32) then
  (lt (st p2.2 140 5 ((p2.2 140 5) + (1 : Int32))) (fun m4 =>
  l_X11_nextToken_0 n  m4))
else
  (some (p2.2)))
def l_X11_nextToken_59  : Nat → gMem → Option (gMem)
  | 0, _ => none
  | n + 1, μ =>
  if (2 : Int32) ≤ (μ 140 6) then
  (some (μ))
else
  ((f_X11_letterAt (μ 140 5) μ).bind (fun p19 =>
  (f_X11_in p19.1.toInt64 (97 : Int64) (122 : Int64) p19.2).bind (fun p21 =>
  if p21.1 = 0 then
  (some (p21.2))
else
  (lt (st p21.2 140 6 (1 : Int32)) (fun m24 =>
  lt (st m24 140 5 ((m24 140 5) + (1 : Int32))) (fun m26 =>
  l_X11_nextToken_59 n  m26))))))
def l_X11_nextToken_106  : Nat → gMem → Option (gMem)
  | 0, _ => none
  | n + 1, μ =>
  if (μ 140 6) = (1 : Int32) then
  (some (μ))
else
  ((f_X11_letterAt (μ 140 5) μ).bind (fun p32 =>
  (f_X11_in p32.1.toInt64 (48 : Int64) (57 : Int64) p32.2).bind (fun p34 =>
  if p34.1 = 0 then
  (some (p34.2))
else
  (if (p34.2 140 7) ≤ (99 : Int32) then
  (if inb (p34.2 140 5) 160 = true then
  lt (st p34.2 140 7 ((((10 : Int32) * (p34.2 140 7)) + (p34.2 143 (p34.2 140 5).toNatClampNeg)) - (48 : Int32))) (fun m39 =>
  lt (st m39 140 6 (2 : Int32)) (fun m41 =>
  lt (st m41 140 5 ((m41 140 5) + (1 : Int32))) (fun m43 =>
  l_X11_nextToken_106 n  m43))) else none)
else
  (lt (st p34.2 140 7 (p34.2 140 7)) (fun m45 =>
  lt (st m45 140 6 (2 : Int32)) (fun m47 =>
  lt (st m47 140 5 ((m47 140 5) + (1 : Int32))) (fun m49 =>
  l_X11_nextToken_106 n  m49))))))))
def f_X11_nextToken  (μ : gMem) : Option (gMem) :=
  (l_X11_nextToken_0 gF  μ).bind (fun p6 =>
  lt (st p6 140 8 (p6 140 5)) (fun m8 =>
  lt (st m8 140 7 (0 : Int32)) (fun m10 =>
  lt (if (m10 140 5) = (m10 140 4) then (3 : Int32) else (0 : Int32)) (fun x12 =>
  lt (st m10 140 6 x12) (fun m15 =>
  (l_X11_nextToken_59 gF  m15).bind (fun p28 =>
  (l_X11_nextToken_106 gF  p28).bind (fun p51 =>
  if (p51 140 6) = (2 : Int32) then
  (if ((p51 140 5) - (p51 140 8)) ≤ (2 : Int32) then
  (if (p51 140 6) = 0 then
  (if inb (p51 140 5) 160 = true then
  lt (st p51 140 7 (p51 143 (p51 140 5).toNatClampNeg)) (fun m63 =>
  lt (st m63 140 5 ((m63 140 5) + (1 : Int32))) (fun m65 =>
  some m65)) else none)
else
  (some p51))
else
  (lt (st p51 140 7 (999 : Int32)) (fun m67 =>
  if (m67 140 6) = 0 then
  (if inb (m67 140 5) 160 = true then
  lt (st m67 140 7 (m67 143 (m67 140 5).toNatClampNeg)) (fun m71 =>
  lt (st m71 140 5 ((m71 140 5) + (1 : Int32))) (fun m73 =>
  some m73)) else none)
else
  (some m67))))
else
  (if (p51 140 6) = 0 then
  (if inb (p51 140 5) 160 = true then
  lt (st p51 140 7 (p51 143 (p51 140 5).toNatClampNeg)) (fun m56 =>
  lt (st m56 140 5 ((m56 140 5) + (1 : Int32))) (fun m58 =>
  some m58)) else none)
else
  (some p51)))))))))
set_option maxRecDepth 100000 in
set_option maxHeartbeats 4000000 in
theorem cl_X11_nextToken_0 {κ : Nat → Nat} {N : Nat} {Q : rQ} (hN : 151 ≤ N)   : ∀ (n : Nat)  (μ : gMem) (p : gMem), l_X11_nextToken_0 n  μ = some p → RR κ N 2 iX11_nextToken 26 [(0, .ref (κ 0 + 140))] [] p Q → RR κ N 2 iX11_nextToken 0 [(0, .ref (κ 0 + 140))] [] μ Q := by
  intro n
  induction n with
  | zero =>
    intro  μ p h k
    unfold l_X11_nextToken_0 at h
    cases h
  | succ n ih =>
    intro  μ p h k
    unfold l_X11_nextToken_0 at h
    refine g_aload_n (pc := 0) dX11_nextToken_0 rfl rfl ?_
    refine g_aload_n (pc := 1) dX11_nextToken_1 rfl rfl ?_
    refine gf_X11_58 (pc := 2) rfl dX11_nextToken_2 (Nat.lt_of_lt_of_le (by decide) hN) kd_140 ?_
    obtain ⟨p2, hp1, h⟩ := Option.bind_eq_some_iff.mp h
    refine r_callV (ci := 10) (pc := 5) (c_X11_letterAt hN (μ 140 5) μ hp1) yV_X11_letterAt ⟨rfl, by decide⟩ pX11_letterAt mL_X11_61 dX11_nextToken_5 (Nat.le_of_ble_eq_true rfl) (Nat.le_of_ble_eq_true rfl) (Nat.lt_of_lt_of_le (by decide) hN) kd_140 rfl (rK_i ?_)
    refine g_bipush (pc := 8) (v := (32 : Int32)) dX11_nextToken_8 rfl ?_
    refine g_icmp_ne (pc := 10) 26 dX11_nextToken_10 (by decide) (fun hc3 => ?_) (fun hc3 => ?_)
    · rw [if_neg hc3] at h
      cases h
      exact k
    · rw [if_pos hc3] at h
      refine g_aload_n (pc := 13) dX11_nextToken_13 rfl rfl ?_
      refine g_dup (pc := 14) dX11_nextToken_14 rfl ?_
      refine gf_X11_58 (pc := 15) rfl dX11_nextToken_15 (Nat.lt_of_lt_of_le (by decide) hN) kd_140 ?_
      refine g_iconst (pc := 18) (v := (1 : Int32)) dX11_nextToken_18 rfl ?_
      refine g_iadd (pc := 19) dX11_nextToken_19 ?_
      refine pf_X11_58 (pc := 20) rfl dX11_nextToken_20 (Nat.lt_of_lt_of_le (by decide) hN) kd_140 (fun m4 e5 => ?_)
      rw [lt_of e5] at h
      refine g_goto (pc := 23) 0 dX11_nextToken_23 (by decide) ?_
      refine g_lv (lv' := [(0, .ref (κ 0 + 140))]) rfl ?_
      exact ih  _ _ h k
set_option maxRecDepth 100000 in
set_option maxHeartbeats 4000000 in
theorem cl_X11_nextToken_59 {κ : Nat → Nat} {N : Nat} {Q : rQ} (hN : 151 ≤ N)   : ∀ (n : Nat)  (μ : gMem) (p : gMem), l_X11_nextToken_59 n  μ = some p → RR κ N 2 iX11_nextToken 106 [(0, .ref (κ 0 + 140))] [] p Q → RR κ N 2 iX11_nextToken 59 [(0, .ref (κ 0 + 140))] [] μ Q := by
  intro n
  induction n with
  | zero =>
    intro  μ p h k
    unfold l_X11_nextToken_59 at h
    cases h
  | succ n ih =>
    intro  μ p h k
    unfold l_X11_nextToken_59 at h
    refine g_aload_n (pc := 59) dX11_nextToken_59 rfl rfl ?_
    refine gf_X11_71 (pc := 60) rfl dX11_nextToken_60 (Nat.lt_of_lt_of_le (by decide) hN) kd_140 ?_
    refine g_iconst (pc := 63) (v := (2 : Int32)) dX11_nextToken_63 rfl ?_
    refine g_icmp_ge (pc := 64) 106 dX11_nextToken_64 (by decide) (fun hc17 => ?_) (fun hc17 => ?_)
    · rw [if_pos hc17] at h
      cases h
      exact k
    · rw [if_neg hc17] at h
      refine g_aload_n (pc := 67) dX11_nextToken_67 rfl rfl ?_
      refine g_aload_n (pc := 68) dX11_nextToken_68 rfl rfl ?_
      refine gf_X11_58 (pc := 69) rfl dX11_nextToken_69 (Nat.lt_of_lt_of_le (by decide) hN) kd_140 ?_
      obtain ⟨p19, hp18, h⟩ := Option.bind_eq_some_iff.mp h
      refine r_callV (ci := 10) (pc := 72) (c_X11_letterAt hN (μ 140 5) μ hp18) yV_X11_letterAt ⟨rfl, by decide⟩ pX11_letterAt mL_X11_61 dX11_nextToken_72 (Nat.le_of_ble_eq_true rfl) (Nat.le_of_ble_eq_true rfl) (Nat.lt_of_lt_of_le (by decide) hN) kd_140 rfl (rK_i ?_)
      refine g_i2l (pc := 75) dX11_nextToken_75 ?_
      refine g_ldc2 (pc := 76) kL_X11_74 dX11_nextToken_76 ?_
      refine g_ldc2 (pc := 79) kL_X11_76 dX11_nextToken_79 ?_
      obtain ⟨p21, hp20, h⟩ := Option.bind_eq_some_iff.mp h
      refine r_callS (pc := 82) (c_X11_in hN p19.1.toInt64 (97 : Int64) (122 : Int64) p19.2 hp20) yS_X11_in pX11_in mL_X11_49 dX11_nextToken_82 (Nat.le_of_ble_eq_true rfl) (Nat.le_of_ble_eq_true rfl) rfl (rK_z (fun hz22 => ?_))
      refine g_if_eq (pc := 85) 106 dX11_nextToken_85 (by decide) (fun hc23 => ?_) (fun hc23 => ?_)
      · rw [if_pos hc23] at h
        cases h
        exact k
      · rw [if_neg hc23] at h
        refine g_aload_n (pc := 88) dX11_nextToken_88 rfl rfl ?_
        refine g_iconst (pc := 89) (v := (1 : Int32)) dX11_nextToken_89 rfl ?_
        refine pf_X11_71 (pc := 90) rfl dX11_nextToken_90 (Nat.lt_of_lt_of_le (by decide) hN) kd_140 (fun m24 e25 => ?_)
        rw [lt_of e25] at h
        refine g_aload_n (pc := 93) dX11_nextToken_93 rfl rfl ?_
        refine g_dup (pc := 94) dX11_nextToken_94 rfl ?_
        refine gf_X11_58 (pc := 95) rfl dX11_nextToken_95 (Nat.lt_of_lt_of_le (by decide) hN) kd_140 ?_
        refine g_iconst (pc := 98) (v := (1 : Int32)) dX11_nextToken_98 rfl ?_
        refine g_iadd (pc := 99) dX11_nextToken_99 ?_
        refine pf_X11_58 (pc := 100) rfl dX11_nextToken_100 (Nat.lt_of_lt_of_le (by decide) hN) kd_140 (fun m26 e27 => ?_)
        rw [lt_of e27] at h
        refine g_goto (pc := 103) 59 dX11_nextToken_103 (by decide) ?_
        refine g_lv (lv' := [(0, .ref (κ 0 + 140))]) rfl ?_
        exact ih  _ _ h k
set_option maxRecDepth 100000 in
set_option maxHeartbeats 4000000 in
theorem cl_X11_nextToken_106 {κ : Nat → Nat} {N : Nat} {Q : rQ} (hN : 151 ≤ N)   : ∀ (n : Nat)  (μ : gMem) (p : gMem), l_X11_nextToken_106 n  μ = some p → RR κ N 2 iX11_nextToken 193 [(0, .ref (κ 0 + 140))] [] p Q → RR κ N 2 iX11_nextToken 106 [(0, .ref (κ 0 + 140))] [] μ Q := by
  intro n
  induction n with
  | zero =>
    intro  μ p h k
    unfold l_X11_nextToken_106 at h
    cases h
  | succ n ih =>
    intro  μ p h k
    unfold l_X11_nextToken_106 at h
    refine g_aload_n (pc := 106) dX11_nextToken_106 rfl rfl ?_
    refine gf_X11_71 (pc := 107) rfl dX11_nextToken_107 (Nat.lt_of_lt_of_le (by decide) hN) kd_140 ?_
    refine g_iconst (pc := 110) (v := (1 : Int32)) dX11_nextToken_110 rfl ?_
    refine g_icmp_eq (pc := 111) 193 dX11_nextToken_111 (by decide) (fun hc30 => ?_) (fun hc30 => ?_)
    · rw [if_pos hc30] at h
      cases h
      exact k
    · rw [if_neg hc30] at h
      refine g_aload_n (pc := 114) dX11_nextToken_114 rfl rfl ?_
      refine g_aload_n (pc := 115) dX11_nextToken_115 rfl rfl ?_
      refine gf_X11_58 (pc := 116) rfl dX11_nextToken_116 (Nat.lt_of_lt_of_le (by decide) hN) kd_140 ?_
      obtain ⟨p32, hp31, h⟩ := Option.bind_eq_some_iff.mp h
      refine r_callV (ci := 10) (pc := 119) (c_X11_letterAt hN (μ 140 5) μ hp31) yV_X11_letterAt ⟨rfl, by decide⟩ pX11_letterAt mL_X11_61 dX11_nextToken_119 (Nat.le_of_ble_eq_true rfl) (Nat.le_of_ble_eq_true rfl) (Nat.lt_of_lt_of_le (by decide) hN) kd_140 rfl (rK_i ?_)
      refine g_i2l (pc := 122) dX11_nextToken_122 ?_
      refine g_ldc2 (pc := 123) kL_X11_78 dX11_nextToken_123 ?_
      refine g_ldc2 (pc := 126) kL_X11_80 dX11_nextToken_126 ?_
      obtain ⟨p34, hp33, h⟩ := Option.bind_eq_some_iff.mp h
      refine r_callS (pc := 129) (c_X11_in hN p32.1.toInt64 (48 : Int64) (57 : Int64) p32.2 hp33) yS_X11_in pX11_in mL_X11_49 dX11_nextToken_129 (Nat.le_of_ble_eq_true rfl) (Nat.le_of_ble_eq_true rfl) rfl (rK_z (fun hz35 => ?_))
      refine g_if_eq (pc := 132) 193 dX11_nextToken_132 (by decide) (fun hc36 => ?_) (fun hc36 => ?_)
      · rw [if_pos hc36] at h
        cases h
        exact k
      · rw [if_neg hc36] at h
        refine g_aload_n (pc := 135) dX11_nextToken_135 rfl rfl ?_
        refine g_aload_n (pc := 136) dX11_nextToken_136 rfl rfl ?_
        refine gf_X11_68 (pc := 137) rfl dX11_nextToken_137 (Nat.lt_of_lt_of_le (by decide) hN) kd_140 ?_
        refine g_bipush (pc := 140) (v := (99 : Int32)) dX11_nextToken_140 rfl ?_
        refine g_icmp_le (pc := 142) 152 dX11_nextToken_142 (by decide) (fun hc37 => ?_) (fun hc37 => ?_)
        · rw [if_pos hc37] at h
          refine g_bipush (pc := 152) (v := (10 : Int32)) dX11_nextToken_152 rfl ?_
          refine g_aload_n (pc := 154) dX11_nextToken_154 rfl rfl ?_
          refine gf_X11_68 (pc := 155) rfl dX11_nextToken_155 (Nat.lt_of_lt_of_le (by decide) hN) kd_140 ?_
          refine g_imul (pc := 158) dX11_nextToken_158 ?_
          refine g_aload_n (pc := 159) dX11_nextToken_159 rfl rfl ?_
          refine gf_X11_16 (pc := 160) rfl dX11_nextToken_160 (Nat.lt_of_lt_of_le (by decide) hN) kd_140 ?_
          refine g_aload_n (pc := 163) dX11_nextToken_163 rfl rfl ?_
          refine gf_X11_58 (pc := 164) rfl dX11_nextToken_164 (Nat.lt_of_lt_of_le (by decide) hN) kd_140 ?_
          obtain ⟨hg38, h⟩ := gd_some h
          refine r_iald (pc := 167) 160 dX11_nextToken_167 (Nat.lt_of_lt_of_le (by decide) hN) kd_143 ln_143 hg38 ?_
          refine g_iadd (pc := 168) dX11_nextToken_168 ?_
          refine g_bipush (pc := 169) (v := (48 : Int32)) dX11_nextToken_169 rfl ?_
          refine g_isub (pc := 171) dX11_nextToken_171 ?_
          refine pf_X11_68 (pc := 172) rfl dX11_nextToken_172 (Nat.lt_of_lt_of_le (by decide) hN) kd_140 (fun m39 e40 => ?_)
          rw [lt_of e40] at h
          refine g_aload_n (pc := 175) dX11_nextToken_175 rfl rfl ?_
          refine g_iconst (pc := 176) (v := (2 : Int32)) dX11_nextToken_176 rfl ?_
          refine pf_X11_71 (pc := 177) rfl dX11_nextToken_177 (Nat.lt_of_lt_of_le (by decide) hN) kd_140 (fun m41 e42 => ?_)
          rw [lt_of e42] at h
          refine g_aload_n (pc := 180) dX11_nextToken_180 rfl rfl ?_
          refine g_dup (pc := 181) dX11_nextToken_181 rfl ?_
          refine gf_X11_58 (pc := 182) rfl dX11_nextToken_182 (Nat.lt_of_lt_of_le (by decide) hN) kd_140 ?_
          refine g_iconst (pc := 185) (v := (1 : Int32)) dX11_nextToken_185 rfl ?_
          refine g_iadd (pc := 186) dX11_nextToken_186 ?_
          refine pf_X11_58 (pc := 187) rfl dX11_nextToken_187 (Nat.lt_of_lt_of_le (by decide) hN) kd_140 (fun m43 e44 => ?_)
          rw [lt_of e44] at h
          refine g_goto (pc := 190) 106 dX11_nextToken_190 (by decide) ?_
          refine g_lv (lv' := [(0, .ref (κ 0 + 140))]) rfl ?_
          exact ih  _ _ h k
        · rw [if_neg hc37] at h
          refine g_aload_n (pc := 145) dX11_nextToken_145 rfl rfl ?_
          refine gf_X11_68 (pc := 146) rfl dX11_nextToken_146 (Nat.lt_of_lt_of_le (by decide) hN) kd_140 ?_
          refine g_goto (pc := 149) 172 dX11_nextToken_149 (by decide) ?_
          refine pf_X11_68 (pc := 172) rfl dX11_nextToken_172 (Nat.lt_of_lt_of_le (by decide) hN) kd_140 (fun m45 e46 => ?_)
          rw [lt_of e46] at h
          refine g_aload_n (pc := 175) dX11_nextToken_175 rfl rfl ?_
          refine g_iconst (pc := 176) (v := (2 : Int32)) dX11_nextToken_176 rfl ?_
          refine pf_X11_71 (pc := 177) rfl dX11_nextToken_177 (Nat.lt_of_lt_of_le (by decide) hN) kd_140 (fun m47 e48 => ?_)
          rw [lt_of e48] at h
          refine g_aload_n (pc := 180) dX11_nextToken_180 rfl rfl ?_
          refine g_dup (pc := 181) dX11_nextToken_181 rfl ?_
          refine gf_X11_58 (pc := 182) rfl dX11_nextToken_182 (Nat.lt_of_lt_of_le (by decide) hN) kd_140 ?_
          refine g_iconst (pc := 185) (v := (1 : Int32)) dX11_nextToken_185 rfl ?_
          refine g_iadd (pc := 186) dX11_nextToken_186 ?_
          refine pf_X11_58 (pc := 187) rfl dX11_nextToken_187 (Nat.lt_of_lt_of_le (by decide) hN) kd_140 (fun m49 e50 => ?_)
          rw [lt_of e50] at h
          refine g_goto (pc := 190) 106 dX11_nextToken_190 (by decide) ?_
          refine g_lv (lv' := [(0, .ref (κ 0 + 140))]) rfl ?_
          exact ih  _ _ h k
set_option maxRecDepth 100000 in
set_option maxHeartbeats 4000000 in
theorem c_X11_nextToken {κ : Nat → Nat} {N : Nat} (hN : 151 ≤ N)   (μ : gMem) {μ' : gMem} (h : f_X11_nextToken  μ = some μ') : CT2 κ N 2 yX11_nextToken iX11_nextToken [.ref (κ 0 + 140)] μ (qV μ') := by
  refine CT2.of (by decide) rfl rfl (Nat.le_of_ble_eq_true rfl) ?_
  unfold f_X11_nextToken at h
  show RR κ N 2 iX11_nextToken 0 [(0, .ref (κ 0 + 140))] [] μ _
  obtain ⟨p6, hp7, h⟩ := Option.bind_eq_some_iff.mp h
  refine cl_X11_nextToken_0 hN   gF  _ _ hp7 ?_
  refine g_aload_n (pc := 26) dX11_nextToken_26 rfl rfl ?_
  refine g_aload_n (pc := 27) dX11_nextToken_27 rfl rfl ?_
  refine gf_X11_58 (pc := 28) rfl dX11_nextToken_28 (Nat.lt_of_lt_of_le (by decide) hN) kd_140 ?_
  refine pf_X11_65 (pc := 31) rfl dX11_nextToken_31 (Nat.lt_of_lt_of_le (by decide) hN) kd_140 (fun m8 e9 => ?_)
  rw [lt_of e9] at h
  refine g_aload_n (pc := 34) dX11_nextToken_34 rfl rfl ?_
  refine g_iconst (pc := 35) (v := (0 : Int32)) dX11_nextToken_35 rfl ?_
  refine pf_X11_68 (pc := 36) rfl dX11_nextToken_36 (Nat.lt_of_lt_of_le (by decide) hN) kd_140 (fun m10 e11 => ?_)
  rw [lt_of e11] at h
  refine g_aload_n (pc := 39) dX11_nextToken_39 rfl rfl ?_
  refine g_aload_n (pc := 40) dX11_nextToken_40 rfl rfl ?_
  refine gf_X11_58 (pc := 41) rfl dX11_nextToken_41 (Nat.lt_of_lt_of_le (by decide) hN) kd_140 ?_
  refine g_aload_n (pc := 44) dX11_nextToken_44 rfl rfl ?_
  refine gf_X11_55 (pc := 45) rfl dX11_nextToken_45 (Nat.lt_of_lt_of_le (by decide) hN) kd_140 ?_
  have key14 : ∀ x12 : Int32, x12 = (if (m10 140 5) = (m10 140 4) then (3 : Int32) else (0 : Int32)) → RR κ N 2 iX11_nextToken 56 [(0, .ref (κ 0 + 140))] [.int x12, .ref (κ 0 + 140)] m10 (qV μ') := by
    intro x12 e13
    rw [lt_of e13] at h
    refine pf_X11_71 (pc := 56) rfl dX11_nextToken_56 (Nat.lt_of_lt_of_le (by decide) hN) kd_140 (fun m15 e16 => ?_)
    rw [lt_of e16] at h
    obtain ⟨p28, hp29, h⟩ := Option.bind_eq_some_iff.mp h
    refine cl_X11_nextToken_59 hN   gF  _ _ hp29 ?_
    obtain ⟨p51, hp52, h⟩ := Option.bind_eq_some_iff.mp h
    refine cl_X11_nextToken_106 hN   gF  _ _ hp52 ?_
    refine g_aload_n (pc := 193) dX11_nextToken_193 rfl rfl ?_
    refine gf_X11_71 (pc := 194) rfl dX11_nextToken_194 (Nat.lt_of_lt_of_le (by decide) hN) kd_140 ?_
    refine g_iconst (pc := 197) (v := (2 : Int32)) dX11_nextToken_197 rfl ?_
    refine g_icmp_ne (pc := 198) 221 dX11_nextToken_198 (by decide) (fun hc53 => ?_) (fun hc53 => ?_)
    · rw [if_neg hc53] at h
      refine g_aload_n (pc := 221) dX11_nextToken_221 rfl rfl ?_
      refine gf_X11_71 (pc := 222) rfl dX11_nextToken_222 (Nat.lt_of_lt_of_le (by decide) hN) kd_140 ?_
      refine g_if_ne (pc := 225) 251 dX11_nextToken_225 (by decide) (fun hc54 => ?_) (fun hc54 => ?_)
      · rw [if_neg hc54] at h
        cases h
        exact r_vret dX11_nextToken_251 rfl rfl
      · rw [if_pos hc54] at h
        refine g_aload_n (pc := 228) dX11_nextToken_228 rfl rfl ?_
        refine g_aload_n (pc := 229) dX11_nextToken_229 rfl rfl ?_
        refine gf_X11_16 (pc := 230) rfl dX11_nextToken_230 (Nat.lt_of_lt_of_le (by decide) hN) kd_140 ?_
        refine g_aload_n (pc := 233) dX11_nextToken_233 rfl rfl ?_
        refine gf_X11_58 (pc := 234) rfl dX11_nextToken_234 (Nat.lt_of_lt_of_le (by decide) hN) kd_140 ?_
        obtain ⟨hg55, h⟩ := gd_some h
        refine r_iald (pc := 237) 160 dX11_nextToken_237 (Nat.lt_of_lt_of_le (by decide) hN) kd_143 ln_143 hg55 ?_
        refine pf_X11_68 (pc := 238) rfl dX11_nextToken_238 (Nat.lt_of_lt_of_le (by decide) hN) kd_140 (fun m56 e57 => ?_)
        rw [lt_of e57] at h
        refine g_aload_n (pc := 241) dX11_nextToken_241 rfl rfl ?_
        refine g_dup (pc := 242) dX11_nextToken_242 rfl ?_
        refine gf_X11_58 (pc := 243) rfl dX11_nextToken_243 (Nat.lt_of_lt_of_le (by decide) hN) kd_140 ?_
        refine g_iconst (pc := 246) (v := (1 : Int32)) dX11_nextToken_246 rfl ?_
        refine g_iadd (pc := 247) dX11_nextToken_247 ?_
        refine pf_X11_58 (pc := 248) rfl dX11_nextToken_248 (Nat.lt_of_lt_of_le (by decide) hN) kd_140 (fun m58 e59 => ?_)
        rw [lt_of e59] at h
        cases h
        exact r_vret dX11_nextToken_251 rfl rfl
    · rw [if_pos hc53] at h
      refine g_aload_n (pc := 201) dX11_nextToken_201 rfl rfl ?_
      refine gf_X11_58 (pc := 202) rfl dX11_nextToken_202 (Nat.lt_of_lt_of_le (by decide) hN) kd_140 ?_
      refine g_aload_n (pc := 205) dX11_nextToken_205 rfl rfl ?_
      refine gf_X11_65 (pc := 206) rfl dX11_nextToken_206 (Nat.lt_of_lt_of_le (by decide) hN) kd_140 ?_
      refine g_isub (pc := 209) dX11_nextToken_209 ?_
      refine g_iconst (pc := 210) (v := (2 : Int32)) dX11_nextToken_210 rfl ?_
      refine g_icmp_le (pc := 211) 221 dX11_nextToken_211 (by decide) (fun hc60 => ?_) (fun hc60 => ?_)
      · rw [if_pos hc60] at h
        refine g_aload_n (pc := 221) dX11_nextToken_221 rfl rfl ?_
        refine gf_X11_71 (pc := 222) rfl dX11_nextToken_222 (Nat.lt_of_lt_of_le (by decide) hN) kd_140 ?_
        refine g_if_ne (pc := 225) 251 dX11_nextToken_225 (by decide) (fun hc61 => ?_) (fun hc61 => ?_)
        · rw [if_neg hc61] at h
          cases h
          exact r_vret dX11_nextToken_251 rfl rfl
        · rw [if_pos hc61] at h
          refine g_aload_n (pc := 228) dX11_nextToken_228 rfl rfl ?_
          refine g_aload_n (pc := 229) dX11_nextToken_229 rfl rfl ?_
          refine gf_X11_16 (pc := 230) rfl dX11_nextToken_230 (Nat.lt_of_lt_of_le (by decide) hN) kd_140 ?_
          refine g_aload_n (pc := 233) dX11_nextToken_233 rfl rfl ?_
          refine gf_X11_58 (pc := 234) rfl dX11_nextToken_234 (Nat.lt_of_lt_of_le (by decide) hN) kd_140 ?_
          obtain ⟨hg62, h⟩ := gd_some h
          refine r_iald (pc := 237) 160 dX11_nextToken_237 (Nat.lt_of_lt_of_le (by decide) hN) kd_143 ln_143 hg62 ?_
          refine pf_X11_68 (pc := 238) rfl dX11_nextToken_238 (Nat.lt_of_lt_of_le (by decide) hN) kd_140 (fun m63 e64 => ?_)
          rw [lt_of e64] at h
          refine g_aload_n (pc := 241) dX11_nextToken_241 rfl rfl ?_
          refine g_dup (pc := 242) dX11_nextToken_242 rfl ?_
          refine gf_X11_58 (pc := 243) rfl dX11_nextToken_243 (Nat.lt_of_lt_of_le (by decide) hN) kd_140 ?_
          refine g_iconst (pc := 246) (v := (1 : Int32)) dX11_nextToken_246 rfl ?_
          refine g_iadd (pc := 247) dX11_nextToken_247 ?_
          refine pf_X11_58 (pc := 248) rfl dX11_nextToken_248 (Nat.lt_of_lt_of_le (by decide) hN) kd_140 (fun m65 e66 => ?_)
          rw [lt_of e66] at h
          cases h
          exact r_vret dX11_nextToken_251 rfl rfl
      · rw [if_neg hc60] at h
        refine g_aload_n (pc := 214) dX11_nextToken_214 rfl rfl ?_
        refine g_sipush (pc := 215) (v := (999 : Int32)) dX11_nextToken_215 rfl ?_
        refine pf_X11_68 (pc := 218) rfl dX11_nextToken_218 (Nat.lt_of_lt_of_le (by decide) hN) kd_140 (fun m67 e68 => ?_)
        rw [lt_of e68] at h
        refine g_aload_n (pc := 221) dX11_nextToken_221 rfl rfl ?_
        refine gf_X11_71 (pc := 222) rfl dX11_nextToken_222 (Nat.lt_of_lt_of_le (by decide) hN) kd_140 ?_
        refine g_if_ne (pc := 225) 251 dX11_nextToken_225 (by decide) (fun hc69 => ?_) (fun hc69 => ?_)
        · rw [if_neg hc69] at h
          cases h
          exact r_vret dX11_nextToken_251 rfl rfl
        · rw [if_pos hc69] at h
          refine g_aload_n (pc := 228) dX11_nextToken_228 rfl rfl ?_
          refine g_aload_n (pc := 229) dX11_nextToken_229 rfl rfl ?_
          refine gf_X11_16 (pc := 230) rfl dX11_nextToken_230 (Nat.lt_of_lt_of_le (by decide) hN) kd_140 ?_
          refine g_aload_n (pc := 233) dX11_nextToken_233 rfl rfl ?_
          refine gf_X11_58 (pc := 234) rfl dX11_nextToken_234 (Nat.lt_of_lt_of_le (by decide) hN) kd_140 ?_
          obtain ⟨hg70, h⟩ := gd_some h
          refine r_iald (pc := 237) 160 dX11_nextToken_237 (Nat.lt_of_lt_of_le (by decide) hN) kd_143 ln_143 hg70 ?_
          refine pf_X11_68 (pc := 238) rfl dX11_nextToken_238 (Nat.lt_of_lt_of_le (by decide) hN) kd_140 (fun m71 e72 => ?_)
          rw [lt_of e72] at h
          refine g_aload_n (pc := 241) dX11_nextToken_241 rfl rfl ?_
          refine g_dup (pc := 242) dX11_nextToken_242 rfl ?_
          refine gf_X11_58 (pc := 243) rfl dX11_nextToken_243 (Nat.lt_of_lt_of_le (by decide) hN) kd_140 ?_
          refine g_iconst (pc := 246) (v := (1 : Int32)) dX11_nextToken_246 rfl ?_
          refine g_iadd (pc := 247) dX11_nextToken_247 ?_
          refine pf_X11_58 (pc := 248) rfl dX11_nextToken_248 (Nat.lt_of_lt_of_le (by decide) hN) kd_140 (fun m73 e74 => ?_)
          rw [lt_of e74] at h
          cases h
          exact r_vret dX11_nextToken_251 rfl rfl
  refine g_icmp_ne (pc := 48) 55 dX11_nextToken_48 (by decide) (fun hc75 => ?_) (fun hc75 => ?_)
  · refine g_iconst (pc := 55) (v := (0 : Int32)) dX11_nextToken_55 rfl ?_
    exact key14 _ (by rw [if_neg hc75])
  · refine g_iconst (pc := 51) (v := (3 : Int32)) dX11_nextToken_51 rfl ?_
    refine g_goto (pc := 52) 56 dX11_nextToken_52 (by decide) ?_
    exact key14 _ (by rw [if_pos hc75])

def l_X11_wordOf_7  : Nat → Int64 → Int32 → gMem → Option (Int64 × Int32 × gMem)
  | 0, _, _, _ => none
  | n + 1, l1, i3, μ =>
  if (μ 140 5) ≤ i3 then
  (some (l1, i3, μ))
else
  (if ((μ 140 8) + (9 : Int32)) ≤ i3 then
  (some (l1, i3, μ))
else
  (if inb i3 160 = true then
  lt (((((27 : Int64) * l1) + (μ 143 i3.toNatClampNeg).toInt64) - (97 : Int64)) + (1 : Int64)) (fun x8 =>
  lt (i3 + Int32.ofInt 1) (fun x10 =>
  l_X11_wordOf_7 n x8 x10 μ)) else none))
def f_X11_wordOf  (μ : gMem) : Option (Int64 × gMem) :=
  lt (μ 140 8) (fun x3 =>
  (l_X11_wordOf_7 gF (0 : Int64) x3 μ).bind (fun p12 =>
  lt (if (p12.2.2 140 6) = (1 : Int32) then p12.1 else (0 : Int64)) (fun x14 =>
  some (x14, p12.2.2))))
set_option maxRecDepth 100000 in
set_option maxHeartbeats 4000000 in
theorem cl_X11_wordOf_7 {κ : Nat → Nat} {N : Nat} {Q : rQ} (hN : 151 ≤ N)   : ∀ (n : Nat) (l1 : Int64) (i3 : Int32) (μ : gMem) (p : Int64 × Int32 × gMem), l_X11_wordOf_7 n l1 i3 μ = some p → RR κ N 1 iX11_wordOf 52 [(0, .ref (κ 0 + 140)), (1, .long p.1), (3, .int p.2.1)] [] p.2.2 Q → RR κ N 1 iX11_wordOf 7 [(0, .ref (κ 0 + 140)), (1, .long l1), (3, .int i3)] [] μ Q := by
  intro n
  induction n with
  | zero =>
    intro l1 i3 μ p h k
    unfold l_X11_wordOf_7 at h
    cases h
  | succ n ih =>
    intro l1 i3 μ p h k
    unfold l_X11_wordOf_7 at h
    refine g_iload_n (pc := 7) dX11_wordOf_7 rfl rfl ?_
    refine g_aload_n (pc := 8) dX11_wordOf_8 rfl rfl ?_
    refine gf_X11_58 (pc := 9) rfl dX11_wordOf_9 (Nat.lt_of_lt_of_le (by decide) hN) kd_140 ?_
    refine g_icmp_ge (pc := 12) 52 dX11_wordOf_12 (by decide) (fun hc5 => ?_) (fun hc5 => ?_)
    · rw [if_pos hc5] at h
      cases h
      exact k
    · rw [if_neg hc5] at h
      refine g_iload_n (pc := 15) dX11_wordOf_15 rfl rfl ?_
      refine g_aload_n (pc := 16) dX11_wordOf_16 rfl rfl ?_
      refine gf_X11_65 (pc := 17) rfl dX11_wordOf_17 (Nat.lt_of_lt_of_le (by decide) hN) kd_140 ?_
      refine g_bipush (pc := 20) (v := (9 : Int32)) dX11_wordOf_20 rfl ?_
      refine g_iadd (pc := 22) dX11_wordOf_22 ?_
      refine g_icmp_ge (pc := 23) 52 dX11_wordOf_23 (by decide) (fun hc6 => ?_) (fun hc6 => ?_)
      · rw [if_pos hc6] at h
        cases h
        exact k
      · rw [if_neg hc6] at h
        refine g_ldc2 (pc := 26) kL_X11_82 dX11_wordOf_26 ?_
        refine g_lload_n (pc := 29) dX11_wordOf_29 rfl rfl ?_
        refine g_lmul (pc := 30) dX11_wordOf_30 ?_
        refine g_aload_n (pc := 31) dX11_wordOf_31 rfl rfl ?_
        refine gf_X11_16 (pc := 32) rfl dX11_wordOf_32 (Nat.lt_of_lt_of_le (by decide) hN) kd_140 ?_
        refine g_iload_n (pc := 35) dX11_wordOf_35 rfl rfl ?_
        obtain ⟨hg7, h⟩ := gd_some h
        refine r_iald (pc := 36) 160 dX11_wordOf_36 (Nat.lt_of_lt_of_le (by decide) hN) kd_143 ln_143 hg7 ?_
        refine g_i2l (pc := 37) dX11_wordOf_37 ?_
        refine g_ladd (pc := 38) dX11_wordOf_38 ?_
        refine g_ldc2 (pc := 39) kL_X11_74 dX11_wordOf_39 ?_
        refine g_lsub (pc := 42) dX11_wordOf_42 ?_
        refine g_lconst (pc := 43) (v := (1 : Int64)) dX11_wordOf_43 rfl ?_
        refine g_ladd (pc := 44) dX11_wordOf_44 ?_
        refine g_lstore_n (pc := 45) (lv' := fun y => [(0, .ref (κ 0 + 140)), (1, .long y), (3, .int i3)]) dX11_wordOf_45 rfl (Nat.le_of_ble_eq_true rfl) (fun _ => rfl) (fun x8 e9 => ?_)
        rw [lt_of e9] at h
        refine g_iinc (pc := 46) (lv' := fun y => [(0, .ref (κ 0 + 140)), (1, .long x8), (3, .int y)]) dX11_wordOf_46 rfl (Nat.le_of_ble_eq_true rfl) (fun _ => rfl) (fun x10 e11 => ?_)
        rw [lt_of e11] at h
        refine g_goto (pc := 49) 7 dX11_wordOf_49 (by decide) ?_
        refine g_lv (lv' := [(0, .ref (κ 0 + 140)), (1, .long x8), (3, .int x10)]) rfl ?_
        exact ih _ _ _ _ h k
set_option maxRecDepth 100000 in
set_option maxHeartbeats 4000000 in
theorem c_X11_wordOf {κ : Nat → Nat} {N : Nat} (hN : 151 ≤ N)   (μ : gMem) {r : Int64} {μ' : gMem} (h : f_X11_wordOf  μ = some (r, μ')) : CT2 κ N 1 yX11_wordOf iX11_wordOf [.ref (κ 0 + 140)] μ (qL r μ') := by
  refine CT2.of (by decide) rfl rfl (Nat.le_of_ble_eq_true rfl) ?_
  unfold f_X11_wordOf at h
  show RR κ N 1 iX11_wordOf 0 [(0, .ref (κ 0 + 140))] [] μ _
  refine g_lconst (pc := 0) (v := (0 : Int64)) dX11_wordOf_0 rfl ?_
  refine g_lstore_n (pc := 1) (lv' := fun y => [(0, .ref (κ 0 + 140)), (1, .long y)]) dX11_wordOf_1 rfl (Nat.le_of_ble_eq_true rfl) (fun _ => rfl) (fun y1 e2 => ?_)
  rw [e2]
  refine g_aload_n (pc := 2) dX11_wordOf_2 rfl rfl ?_
  refine gf_X11_65 (pc := 3) rfl dX11_wordOf_3 (Nat.lt_of_lt_of_le (by decide) hN) kd_140 ?_
  refine g_istore_n (pc := 6) (lv' := fun y => [(0, .ref (κ 0 + 140)), (1, .long (0 : Int64)), (3, .int y)]) dX11_wordOf_6 rfl (Nat.le_of_ble_eq_true rfl) (fun _ => rfl) (fun x3 e4 => ?_)
  rw [lt_of e4] at h
  obtain ⟨p12, hp13, h⟩ := Option.bind_eq_some_iff.mp h
  refine cl_X11_wordOf_7 hN   gF (0 : Int64) x3 _ _ hp13 ?_
  refine g_aload_n (pc := 52) dX11_wordOf_52 rfl rfl ?_
  refine gf_X11_71 (pc := 53) rfl dX11_wordOf_53 (Nat.lt_of_lt_of_le (by decide) hN) kd_140 ?_
  refine g_iconst (pc := 56) (v := (1 : Int32)) dX11_wordOf_56 rfl ?_
  have key16 : ∀ x14 : Int64, x14 = (if (p12.2.2 140 6) = (1 : Int32) then p12.1 else (0 : Int64)) → RR κ N 1 iX11_wordOf 65 [(0, .ref (κ 0 + 140)), (1, .long p12.1), (3, .int p12.2.1)] [.long x14] p12.2.2 (qL r μ') := by
    intro x14 e15
    rw [lt_of e15] at h
    cases h
    exact r_lret dX11_wordOf_65 rfl rfl rfl
  refine g_icmp_ne (pc := 57) 64 dX11_wordOf_57 (by decide) (fun hc17 => ?_) (fun hc17 => ?_)
  · refine g_lconst (pc := 64) (v := (0 : Int64)) dX11_wordOf_64 rfl ?_
    exact key16 _ (by rw [if_neg hc17])
  · refine g_lload_n (pc := 60) dX11_wordOf_60 rfl rfl ?_
    refine g_goto (pc := 61) 65 dX11_wordOf_61 (by decide) ?_
    exact key16 _ (by rw [if_pos hc17])

def f_X11_spelt (i0 : Int32) (i1 : Int32) (i2 : Int32) (i3 : Int32) (i4 : Int32) (i5 : Int32) (i6 : Int32) (μ : gMem) : Option (Int64 × gMem) :=
  lt (if i0 = 0 then (0 : Int32) else ((i0 - (97 : Int32)) + (1 : Int32))) (fun x3 =>
  lt (((0 : Int64) * (27 : Int64)) + x3.toInt64) (fun x6 =>
  lt (if i1 = 0 then x6 else ((((x6 * (27 : Int64)) + i1.toInt64) - (97 : Int64)) + (1 : Int64))) (fun x8 =>
  lt (if i2 = 0 then x8 else ((((x8 * (27 : Int64)) + i2.toInt64) - (97 : Int64)) + (1 : Int64))) (fun x13 =>
  lt (if i3 = 0 then x13 else ((((x13 * (27 : Int64)) + i3.toInt64) - (97 : Int64)) + (1 : Int64))) (fun x18 =>
  lt (if i4 = 0 then x18 else ((((x18 * (27 : Int64)) + i4.toInt64) - (97 : Int64)) + (1 : Int64))) (fun x23 =>
  lt (if i5 = 0 then x23 else ((((x23 * (27 : Int64)) + i5.toInt64) - (97 : Int64)) + (1 : Int64))) (fun x28 =>
  lt (if i6 = 0 then x28 else ((((x28 * (27 : Int64)) + i6.toInt64) - (97 : Int64)) + (1 : Int64))) (fun x33 =>
  some (x33, μ)))))))))
set_option maxRecDepth 100000 in
set_option maxHeartbeats 4000000 in
theorem c_X11_spelt {κ : Nat → Nat} {N : Nat} (hN : 151 ≤ N) (i0 : Int32) (i1 : Int32) (i2 : Int32) (i3 : Int32) (i4 : Int32) (i5 : Int32) (i6 : Int32)  (μ : gMem) {r : Int64} {μ' : gMem} (h : f_X11_spelt i0 i1 i2 i3 i4 i5 i6 μ = some (r, μ')) : CT2 κ N 1 yX11_spelt iX11_spelt [.int i0, .int i1, .int i2, .int i3, .int i4, .int i5, .int i6] μ (qL r μ') := by
  refine CT2.of (by decide) rfl rfl (Nat.le_of_ble_eq_true rfl) ?_
  unfold f_X11_spelt at h
  show RR κ N 1 iX11_spelt 0 [(0, .int i0), (1, .int i1), (2, .int i2), (3, .int i3), (4, .int i4), (5, .int i5), (6, .int i6)] [] μ _
  refine g_lconst (pc := 0) (v := (0 : Int64)) dX11_spelt_0 rfl ?_
  refine g_lstore (pc := 1) (lv' := fun y => [(0, .int i0), (1, .int i1), (2, .int i2), (3, .int i3), (4, .int i4), (5, .int i5), (6, .int i6), (7, .long y)]) dX11_spelt_1 (Nat.le_of_ble_eq_true rfl) (fun _ => rfl) (fun y1 e2 => ?_)
  rw [e2]
  refine g_lload (pc := 3) dX11_spelt_3 rfl ?_
  refine g_ldc2 (pc := 5) kL_X11_82 dX11_spelt_5 ?_
  refine g_lmul (pc := 8) dX11_spelt_8 ?_
  refine g_iload_n (pc := 9) dX11_spelt_9 rfl rfl ?_
  have key5 : ∀ x3 : Int32, x3 = (if i0 = 0 then (0 : Int32) else ((i0 - (97 : Int32)) + (1 : Int32))) → RR κ N 1 iX11_spelt 23 [(0, .int i0), (1, .int i1), (2, .int i2), (3, .int i3), (4, .int i4), (5, .int i5), (6, .int i6), (7, .long (0 : Int64))] [.int x3, .long ((0 : Int64) * (27 : Int64))] μ (qL r μ') := by
    intro x3 e4
    rw [lt_of e4] at h
    refine g_i2l (pc := 23) dX11_spelt_23 ?_
    refine g_ladd (pc := 24) dX11_spelt_24 ?_
    refine g_lstore (pc := 25) (lv' := fun y => [(0, .int i0), (1, .int i1), (2, .int i2), (3, .int i3), (4, .int i4), (5, .int i5), (6, .int i6), (7, .long y)]) dX11_spelt_25 (Nat.le_of_ble_eq_true rfl) (fun _ => rfl) (fun x6 e7 => ?_)
    rw [lt_of e7] at h
    refine g_iload_n (pc := 27) dX11_spelt_27 rfl rfl ?_
    have key10 : ∀ x8 : Int64, x8 = (if i1 = 0 then x6 else ((((x6 * (27 : Int64)) + i1.toInt64) - (97 : Int64)) + (1 : Int64))) → RR κ N 1 iX11_spelt 51 [(0, .int i0), (1, .int i1), (2, .int i2), (3, .int i3), (4, .int i4), (5, .int i5), (6, .int i6), (7, .long x6)] [.long x8] μ (qL r μ') := by
      intro x8 e9
      rw [lt_of e9] at h
      refine g_lstore (pc := 51) (lv' := fun y => [(0, .int i0), (1, .int i1), (2, .int i2), (3, .int i3), (4, .int i4), (5, .int i5), (6, .int i6), (7, .long y)]) dX11_spelt_51 (Nat.le_of_ble_eq_true rfl) (fun _ => rfl) (fun y11 e12 => ?_)
      rw [e12]
      refine g_iload_n (pc := 53) dX11_spelt_53 rfl rfl ?_
      have key15 : ∀ x13 : Int64, x13 = (if i2 = 0 then x8 else ((((x8 * (27 : Int64)) + i2.toInt64) - (97 : Int64)) + (1 : Int64))) → RR κ N 1 iX11_spelt 77 [(0, .int i0), (1, .int i1), (2, .int i2), (3, .int i3), (4, .int i4), (5, .int i5), (6, .int i6), (7, .long x8)] [.long x13] μ (qL r μ') := by
        intro x13 e14
        rw [lt_of e14] at h
        refine g_lstore (pc := 77) (lv' := fun y => [(0, .int i0), (1, .int i1), (2, .int i2), (3, .int i3), (4, .int i4), (5, .int i5), (6, .int i6), (7, .long y)]) dX11_spelt_77 (Nat.le_of_ble_eq_true rfl) (fun _ => rfl) (fun y16 e17 => ?_)
        rw [e17]
        refine g_iload_n (pc := 79) dX11_spelt_79 rfl rfl ?_
        have key20 : ∀ x18 : Int64, x18 = (if i3 = 0 then x13 else ((((x13 * (27 : Int64)) + i3.toInt64) - (97 : Int64)) + (1 : Int64))) → RR κ N 1 iX11_spelt 103 [(0, .int i0), (1, .int i1), (2, .int i2), (3, .int i3), (4, .int i4), (5, .int i5), (6, .int i6), (7, .long x13)] [.long x18] μ (qL r μ') := by
          intro x18 e19
          rw [lt_of e19] at h
          refine g_lstore (pc := 103) (lv' := fun y => [(0, .int i0), (1, .int i1), (2, .int i2), (3, .int i3), (4, .int i4), (5, .int i5), (6, .int i6), (7, .long y)]) dX11_spelt_103 (Nat.le_of_ble_eq_true rfl) (fun _ => rfl) (fun y21 e22 => ?_)
          rw [e22]
          refine g_iload (pc := 105) dX11_spelt_105 rfl ?_
          have key25 : ∀ x23 : Int64, x23 = (if i4 = 0 then x18 else ((((x18 * (27 : Int64)) + i4.toInt64) - (97 : Int64)) + (1 : Int64))) → RR κ N 1 iX11_spelt 131 [(0, .int i0), (1, .int i1), (2, .int i2), (3, .int i3), (4, .int i4), (5, .int i5), (6, .int i6), (7, .long x18)] [.long x23] μ (qL r μ') := by
            intro x23 e24
            rw [lt_of e24] at h
            refine g_lstore (pc := 131) (lv' := fun y => [(0, .int i0), (1, .int i1), (2, .int i2), (3, .int i3), (4, .int i4), (5, .int i5), (6, .int i6), (7, .long y)]) dX11_spelt_131 (Nat.le_of_ble_eq_true rfl) (fun _ => rfl) (fun y26 e27 => ?_)
            rw [e27]
            refine g_iload (pc := 133) dX11_spelt_133 rfl ?_
            have key30 : ∀ x28 : Int64, x28 = (if i5 = 0 then x23 else ((((x23 * (27 : Int64)) + i5.toInt64) - (97 : Int64)) + (1 : Int64))) → RR κ N 1 iX11_spelt 159 [(0, .int i0), (1, .int i1), (2, .int i2), (3, .int i3), (4, .int i4), (5, .int i5), (6, .int i6), (7, .long x23)] [.long x28] μ (qL r μ') := by
              intro x28 e29
              rw [lt_of e29] at h
              refine g_lstore (pc := 159) (lv' := fun y => [(0, .int i0), (1, .int i1), (2, .int i2), (3, .int i3), (4, .int i4), (5, .int i5), (6, .int i6), (7, .long y)]) dX11_spelt_159 (Nat.le_of_ble_eq_true rfl) (fun _ => rfl) (fun y31 e32 => ?_)
              rw [e32]
              refine g_iload (pc := 161) dX11_spelt_161 rfl ?_
              have key35 : ∀ x33 : Int64, x33 = (if i6 = 0 then x28 else ((((x28 * (27 : Int64)) + i6.toInt64) - (97 : Int64)) + (1 : Int64))) → RR κ N 1 iX11_spelt 187 [(0, .int i0), (1, .int i1), (2, .int i2), (3, .int i3), (4, .int i4), (5, .int i5), (6, .int i6), (7, .long x28)] [.long x33] μ (qL r μ') := by
                intro x33 e34
                rw [lt_of e34] at h
                cases h
                exact r_lret dX11_spelt_187 rfl rfl rfl
              refine g_if_ne (pc := 163) 171 dX11_spelt_163 (by decide) (fun hc36 => ?_) (fun hc36 => ?_)
              · refine g_lload (pc := 171) dX11_spelt_171 rfl ?_
                refine g_ldc2 (pc := 173) kL_X11_82 dX11_spelt_173 ?_
                refine g_lmul (pc := 176) dX11_spelt_176 ?_
                refine g_iload (pc := 177) dX11_spelt_177 rfl ?_
                refine g_i2l (pc := 179) dX11_spelt_179 ?_
                refine g_ladd (pc := 180) dX11_spelt_180 ?_
                refine g_ldc2 (pc := 181) kL_X11_74 dX11_spelt_181 ?_
                refine g_lsub (pc := 184) dX11_spelt_184 ?_
                refine g_lconst (pc := 185) (v := (1 : Int64)) dX11_spelt_185 rfl ?_
                refine g_ladd (pc := 186) dX11_spelt_186 ?_
                exact key35 _ (by rw [if_neg hc36])
              · refine g_lload (pc := 166) dX11_spelt_166 rfl ?_
                refine g_goto (pc := 168) 187 dX11_spelt_168 (by decide) ?_
                exact key35 _ (by rw [if_pos hc36])
            refine g_if_ne (pc := 135) 143 dX11_spelt_135 (by decide) (fun hc37 => ?_) (fun hc37 => ?_)
            · refine g_lload (pc := 143) dX11_spelt_143 rfl ?_
              refine g_ldc2 (pc := 145) kL_X11_82 dX11_spelt_145 ?_
              refine g_lmul (pc := 148) dX11_spelt_148 ?_
              refine g_iload (pc := 149) dX11_spelt_149 rfl ?_
              refine g_i2l (pc := 151) dX11_spelt_151 ?_
              refine g_ladd (pc := 152) dX11_spelt_152 ?_
              refine g_ldc2 (pc := 153) kL_X11_74 dX11_spelt_153 ?_
              refine g_lsub (pc := 156) dX11_spelt_156 ?_
              refine g_lconst (pc := 157) (v := (1 : Int64)) dX11_spelt_157 rfl ?_
              refine g_ladd (pc := 158) dX11_spelt_158 ?_
              exact key30 _ (by rw [if_neg hc37])
            · refine g_lload (pc := 138) dX11_spelt_138 rfl ?_
              refine g_goto (pc := 140) 159 dX11_spelt_140 (by decide) ?_
              exact key30 _ (by rw [if_pos hc37])
          refine g_if_ne (pc := 107) 115 dX11_spelt_107 (by decide) (fun hc38 => ?_) (fun hc38 => ?_)
          · refine g_lload (pc := 115) dX11_spelt_115 rfl ?_
            refine g_ldc2 (pc := 117) kL_X11_82 dX11_spelt_117 ?_
            refine g_lmul (pc := 120) dX11_spelt_120 ?_
            refine g_iload (pc := 121) dX11_spelt_121 rfl ?_
            refine g_i2l (pc := 123) dX11_spelt_123 ?_
            refine g_ladd (pc := 124) dX11_spelt_124 ?_
            refine g_ldc2 (pc := 125) kL_X11_74 dX11_spelt_125 ?_
            refine g_lsub (pc := 128) dX11_spelt_128 ?_
            refine g_lconst (pc := 129) (v := (1 : Int64)) dX11_spelt_129 rfl ?_
            refine g_ladd (pc := 130) dX11_spelt_130 ?_
            exact key25 _ (by rw [if_neg hc38])
          · refine g_lload (pc := 110) dX11_spelt_110 rfl ?_
            refine g_goto (pc := 112) 131 dX11_spelt_112 (by decide) ?_
            exact key25 _ (by rw [if_pos hc38])
        refine g_if_ne (pc := 80) 88 dX11_spelt_80 (by decide) (fun hc39 => ?_) (fun hc39 => ?_)
        · refine g_lload (pc := 88) dX11_spelt_88 rfl ?_
          refine g_ldc2 (pc := 90) kL_X11_82 dX11_spelt_90 ?_
          refine g_lmul (pc := 93) dX11_spelt_93 ?_
          refine g_iload_n (pc := 94) dX11_spelt_94 rfl rfl ?_
          refine g_i2l (pc := 95) dX11_spelt_95 ?_
          refine g_ladd (pc := 96) dX11_spelt_96 ?_
          refine g_ldc2 (pc := 97) kL_X11_74 dX11_spelt_97 ?_
          refine g_lsub (pc := 100) dX11_spelt_100 ?_
          refine g_lconst (pc := 101) (v := (1 : Int64)) dX11_spelt_101 rfl ?_
          refine g_ladd (pc := 102) dX11_spelt_102 ?_
          exact key20 _ (by rw [if_neg hc39])
        · refine g_lload (pc := 83) dX11_spelt_83 rfl ?_
          refine g_goto (pc := 85) 103 dX11_spelt_85 (by decide) ?_
          exact key20 _ (by rw [if_pos hc39])
      refine g_if_ne (pc := 54) 62 dX11_spelt_54 (by decide) (fun hc40 => ?_) (fun hc40 => ?_)
      · refine g_lload (pc := 62) dX11_spelt_62 rfl ?_
        refine g_ldc2 (pc := 64) kL_X11_82 dX11_spelt_64 ?_
        refine g_lmul (pc := 67) dX11_spelt_67 ?_
        refine g_iload_n (pc := 68) dX11_spelt_68 rfl rfl ?_
        refine g_i2l (pc := 69) dX11_spelt_69 ?_
        refine g_ladd (pc := 70) dX11_spelt_70 ?_
        refine g_ldc2 (pc := 71) kL_X11_74 dX11_spelt_71 ?_
        refine g_lsub (pc := 74) dX11_spelt_74 ?_
        refine g_lconst (pc := 75) (v := (1 : Int64)) dX11_spelt_75 rfl ?_
        refine g_ladd (pc := 76) dX11_spelt_76 ?_
        exact key15 _ (by rw [if_neg hc40])
      · refine g_lload (pc := 57) dX11_spelt_57 rfl ?_
        refine g_goto (pc := 59) 77 dX11_spelt_59 (by decide) ?_
        exact key15 _ (by rw [if_pos hc40])
    refine g_if_ne (pc := 28) 36 dX11_spelt_28 (by decide) (fun hc41 => ?_) (fun hc41 => ?_)
    · refine g_lload (pc := 36) dX11_spelt_36 rfl ?_
      refine g_ldc2 (pc := 38) kL_X11_82 dX11_spelt_38 ?_
      refine g_lmul (pc := 41) dX11_spelt_41 ?_
      refine g_iload_n (pc := 42) dX11_spelt_42 rfl rfl ?_
      refine g_i2l (pc := 43) dX11_spelt_43 ?_
      refine g_ladd (pc := 44) dX11_spelt_44 ?_
      refine g_ldc2 (pc := 45) kL_X11_74 dX11_spelt_45 ?_
      refine g_lsub (pc := 48) dX11_spelt_48 ?_
      refine g_lconst (pc := 49) (v := (1 : Int64)) dX11_spelt_49 rfl ?_
      refine g_ladd (pc := 50) dX11_spelt_50 ?_
      exact key10 _ (by rw [if_neg hc41])
    · refine g_lload (pc := 31) dX11_spelt_31 rfl ?_
      refine g_goto (pc := 33) 51 dX11_spelt_33 (by decide) ?_
      exact key10 _ (by rw [if_pos hc41])
  refine g_if_ne (pc := 10) 17 dX11_spelt_10 (by decide) (fun hc42 => ?_) (fun hc42 => ?_)
  · refine g_iload_n (pc := 17) dX11_spelt_17 rfl rfl ?_
    refine g_bipush (pc := 18) (v := (97 : Int32)) dX11_spelt_18 rfl ?_
    refine g_isub (pc := 20) dX11_spelt_20 ?_
    refine g_iconst (pc := 21) (v := (1 : Int32)) dX11_spelt_21 rfl ?_
    refine g_iadd (pc := 22) dX11_spelt_22 ?_
    exact key5 _ (by rw [if_neg hc42])
  · refine g_iconst (pc := 13) (v := (0 : Int32)) dX11_spelt_13 rfl ?_
    refine g_goto (pc := 14) 23 dX11_spelt_14 (by decide) ?_
    exact key5 _ (by rw [if_pos hc42])

def f_X11_verb  (μ : gMem) : Option (Int32 × gMem) :=
  (f_X11_wordOf  μ).bind (fun p2 =>
  lt p2.1 (fun x3 =>
  (f_X11_spelt (112 : Int32) (108 : Int32) (97 : Int32) (105 : Int32) (110 : Int32) (0 : Int32) (0 : Int32) p2.2).bind (fun p6 =>
  if (lg_cmp x3 p6.1) = 0 then
  (some ((0 : Int32), p6.2))
else
  ((f_X11_spelt (114 : Int32) (117 : Int32) (110 : Int32) (110 : Int32) (101 : Int32) (114 : Int32) (0 : Int32) p6.2).bind (fun p9 =>
  if (lg_cmp x3 p9.1) = 0 then
  (some ((1 : Int32), p9.2))
else
  ((f_X11_spelt (108 : Int32) (97 : Int32) (122 : Int32) (121 : Int32) (0 : Int32) (0 : Int32) (0 : Int32) p9.2).bind (fun p12 =>
  if (lg_cmp x3 p12.1) = 0 then
  (some ((2 : Int32), p12.2))
else
  ((f_X11_spelt (111 : Int32) (112 : Int32) (101 : Int32) (110 : Int32) (0 : Int32) (0 : Int32) (0 : Int32) p12.2).bind (fun p15 =>
  if (lg_cmp x3 p15.1) = 0 then
  (some ((3 : Int32), p15.2))
else
  ((f_X11_spelt (108 : Int32) (105 : Int32) (110 : Int32) (101 : Int32) (100 : Int32) (0 : Int32) (0 : Int32) p15.2).bind (fun p18 =>
  if (lg_cmp x3 p18.1) = 0 then
  (some ((4 : Int32), p18.2))
else
  ((f_X11_spelt (100 : Int32) (111 : Int32) (117 : Int32) (98 : Int32) (108 : Int32) (101 : Int32) (100 : Int32) p18.2).bind (fun p21 =>
  if (lg_cmp x3 p21.1) = 0 then
  (some ((5 : Int32), p21.2))
else
  ((f_X11_spelt (116 : Int32) (111 : Int32) (114 : Int32) (110 : Int32) (0 : Int32) (0 : Int32) (0 : Int32) p21.2).bind (fun p24 =>
  if (lg_cmp x3 p24.1) = 0 then
  (some ((6 : Int32), p24.2))
else
  ((f_X11_spelt (119 : Int32) (101 : Int32) (108 : Int32) (108 : Int32) (0 : Int32) (0 : Int32) (0 : Int32) p24.2).bind (fun p27 =>
  if (lg_cmp x3 p27.1) = 0 then
  (some ((7 : Int32), p27.2))
else
  ((f_X11_spelt (116 : Int32) (117 : Int32) (98 : Int32) (0 : Int32) (0 : Int32) (0 : Int32) (0 : Int32) p27.2).bind (fun p30 =>
  if (lg_cmp x3 p30.1) = 0 then
  (some ((8 : Int32), p30.2))
else
  ((f_X11_spelt (104 : Int32) (111 : Int32) (108 : Int32) (101 : Int32) (0 : Int32) (0 : Int32) (0 : Int32) p30.2).bind (fun p33 =>
  if (lg_cmp x3 p33.1) = 0 then
  (some ((9 : Int32), p33.2))
else
  ((f_X11_spelt (102 : Int32) (114 : Int32) (111 : Int32) (115 : Int32) (116 : Int32) (0 : Int32) (0 : Int32) p33.2).bind (fun p36 =>
  if (lg_cmp x3 p36.1) = 0 then
  (some ((10 : Int32), p36.2))
else
  ((f_X11_spelt (116 : Int32) (104 : Int32) (97 : Int32) (119 : Int32) (0 : Int32) (0 : Int32) (0 : Int32) p36.2).bind (fun p39 =>
  lt (if (lg_cmp x3 p39.1) = 0 then (11 : Int32) else (-1 : Int32)) (fun x40 =>
  some (x40, p39.2)))))))))))))))))))))))))))
set_option maxRecDepth 100000 in
set_option maxHeartbeats 4000000 in
theorem c_X11_verb {κ : Nat → Nat} {N : Nat} (hN : 151 ≤ N)   (μ : gMem) {r : Int32} {μ' : gMem} (h : f_X11_verb  μ = some (r, μ')) : CT2 κ N 2 yX11_verb iX11_verb [.ref (κ 0 + 140)] μ (qI r μ') := by
  refine CT2.of (by decide) rfl rfl (Nat.le_of_ble_eq_true rfl) ?_
  unfold f_X11_verb at h
  show RR κ N 2 iX11_verb 0 [(0, .ref (κ 0 + 140))] [] μ _
  refine g_aload_n (pc := 0) dX11_verb_0 rfl rfl ?_
  obtain ⟨p2, hp1, h⟩ := Option.bind_eq_some_iff.mp h
  refine r_callV (ci := 10) (pc := 1) (c_X11_wordOf hN  μ hp1) yV_X11_wordOf ⟨rfl, by decide⟩ pX11_wordOf mL_X11_84 dX11_verb_1 (Nat.le_of_ble_eq_true rfl) (Nat.le_of_ble_eq_true rfl) (Nat.lt_of_lt_of_le (by decide) hN) kd_140 rfl (rK_l ?_)
  refine g_lstore_n (pc := 4) (lv' := fun y => [(0, .ref (κ 0 + 140)), (1, .long y)]) dX11_verb_4 rfl (Nat.le_of_ble_eq_true rfl) (fun _ => rfl) (fun x3 e4 => ?_)
  rw [lt_of e4] at h
  refine g_lload_n (pc := 5) dX11_verb_5 rfl rfl ?_
  refine g_bipush (pc := 6) (v := (112 : Int32)) dX11_verb_6 rfl ?_
  refine g_bipush (pc := 8) (v := (108 : Int32)) dX11_verb_8 rfl ?_
  refine g_bipush (pc := 10) (v := (97 : Int32)) dX11_verb_10 rfl ?_
  refine g_bipush (pc := 12) (v := (105 : Int32)) dX11_verb_12 rfl ?_
  refine g_bipush (pc := 14) (v := (110 : Int32)) dX11_verb_14 rfl ?_
  refine g_iconst (pc := 16) (v := (0 : Int32)) dX11_verb_16 rfl ?_
  refine g_iconst (pc := 17) (v := (0 : Int32)) dX11_verb_17 rfl ?_
  obtain ⟨p6, hp5, h⟩ := Option.bind_eq_some_iff.mp h
  refine r_callS (pc := 18) (c_X11_spelt hN (112 : Int32) (108 : Int32) (97 : Int32) (105 : Int32) (110 : Int32) (0 : Int32) (0 : Int32) p2.2 hp5) yS_X11_spelt pX11_spelt mL_X11_88 dX11_verb_18 (Nat.le_of_ble_eq_true rfl) (Nat.le_of_ble_eq_true rfl) rfl (rK_l ?_)
  refine g_lcmp (pc := 21) dX11_verb_21 ?_
  refine g_if_ne (pc := 22) 27 dX11_verb_22 (by decide) (fun hc7 => ?_) (fun hc7 => ?_)
  · rw [if_neg hc7] at h
    refine g_lload_n (pc := 27) dX11_verb_27 rfl rfl ?_
    refine g_bipush (pc := 28) (v := (114 : Int32)) dX11_verb_28 rfl ?_
    refine g_bipush (pc := 30) (v := (117 : Int32)) dX11_verb_30 rfl ?_
    refine g_bipush (pc := 32) (v := (110 : Int32)) dX11_verb_32 rfl ?_
    refine g_bipush (pc := 34) (v := (110 : Int32)) dX11_verb_34 rfl ?_
    refine g_bipush (pc := 36) (v := (101 : Int32)) dX11_verb_36 rfl ?_
    refine g_bipush (pc := 38) (v := (114 : Int32)) dX11_verb_38 rfl ?_
    refine g_iconst (pc := 40) (v := (0 : Int32)) dX11_verb_40 rfl ?_
    obtain ⟨p9, hp8, h⟩ := Option.bind_eq_some_iff.mp h
    refine r_callS (pc := 41) (c_X11_spelt hN (114 : Int32) (117 : Int32) (110 : Int32) (110 : Int32) (101 : Int32) (114 : Int32) (0 : Int32) p6.2 hp8) yS_X11_spelt pX11_spelt mL_X11_88 dX11_verb_41 (Nat.le_of_ble_eq_true rfl) (Nat.le_of_ble_eq_true rfl) rfl (rK_l ?_)
    refine g_lcmp (pc := 44) dX11_verb_44 ?_
    refine g_if_ne (pc := 45) 50 dX11_verb_45 (by decide) (fun hc10 => ?_) (fun hc10 => ?_)
    · rw [if_neg hc10] at h
      refine g_lload_n (pc := 50) dX11_verb_50 rfl rfl ?_
      refine g_bipush (pc := 51) (v := (108 : Int32)) dX11_verb_51 rfl ?_
      refine g_bipush (pc := 53) (v := (97 : Int32)) dX11_verb_53 rfl ?_
      refine g_bipush (pc := 55) (v := (122 : Int32)) dX11_verb_55 rfl ?_
      refine g_bipush (pc := 57) (v := (121 : Int32)) dX11_verb_57 rfl ?_
      refine g_iconst (pc := 59) (v := (0 : Int32)) dX11_verb_59 rfl ?_
      refine g_iconst (pc := 60) (v := (0 : Int32)) dX11_verb_60 rfl ?_
      refine g_iconst (pc := 61) (v := (0 : Int32)) dX11_verb_61 rfl ?_
      obtain ⟨p12, hp11, h⟩ := Option.bind_eq_some_iff.mp h
      refine r_callS (pc := 62) (c_X11_spelt hN (108 : Int32) (97 : Int32) (122 : Int32) (121 : Int32) (0 : Int32) (0 : Int32) (0 : Int32) p9.2 hp11) yS_X11_spelt pX11_spelt mL_X11_88 dX11_verb_62 (Nat.le_of_ble_eq_true rfl) (Nat.le_of_ble_eq_true rfl) rfl (rK_l ?_)
      refine g_lcmp (pc := 65) dX11_verb_65 ?_
      refine g_if_ne (pc := 66) 71 dX11_verb_66 (by decide) (fun hc13 => ?_) (fun hc13 => ?_)
      · rw [if_neg hc13] at h
        refine g_lload_n (pc := 71) dX11_verb_71 rfl rfl ?_
        refine g_bipush (pc := 72) (v := (111 : Int32)) dX11_verb_72 rfl ?_
        refine g_bipush (pc := 74) (v := (112 : Int32)) dX11_verb_74 rfl ?_
        refine g_bipush (pc := 76) (v := (101 : Int32)) dX11_verb_76 rfl ?_
        refine g_bipush (pc := 78) (v := (110 : Int32)) dX11_verb_78 rfl ?_
        refine g_iconst (pc := 80) (v := (0 : Int32)) dX11_verb_80 rfl ?_
        refine g_iconst (pc := 81) (v := (0 : Int32)) dX11_verb_81 rfl ?_
        refine g_iconst (pc := 82) (v := (0 : Int32)) dX11_verb_82 rfl ?_
        obtain ⟨p15, hp14, h⟩ := Option.bind_eq_some_iff.mp h
        refine r_callS (pc := 83) (c_X11_spelt hN (111 : Int32) (112 : Int32) (101 : Int32) (110 : Int32) (0 : Int32) (0 : Int32) (0 : Int32) p12.2 hp14) yS_X11_spelt pX11_spelt mL_X11_88 dX11_verb_83 (Nat.le_of_ble_eq_true rfl) (Nat.le_of_ble_eq_true rfl) rfl (rK_l ?_)
        refine g_lcmp (pc := 86) dX11_verb_86 ?_
        refine g_if_ne (pc := 87) 92 dX11_verb_87 (by decide) (fun hc16 => ?_) (fun hc16 => ?_)
        · rw [if_neg hc16] at h
          refine g_lload_n (pc := 92) dX11_verb_92 rfl rfl ?_
          refine g_bipush (pc := 93) (v := (108 : Int32)) dX11_verb_93 rfl ?_
          refine g_bipush (pc := 95) (v := (105 : Int32)) dX11_verb_95 rfl ?_
          refine g_bipush (pc := 97) (v := (110 : Int32)) dX11_verb_97 rfl ?_
          refine g_bipush (pc := 99) (v := (101 : Int32)) dX11_verb_99 rfl ?_
          refine g_bipush (pc := 101) (v := (100 : Int32)) dX11_verb_101 rfl ?_
          refine g_iconst (pc := 103) (v := (0 : Int32)) dX11_verb_103 rfl ?_
          refine g_iconst (pc := 104) (v := (0 : Int32)) dX11_verb_104 rfl ?_
          obtain ⟨p18, hp17, h⟩ := Option.bind_eq_some_iff.mp h
          refine r_callS (pc := 105) (c_X11_spelt hN (108 : Int32) (105 : Int32) (110 : Int32) (101 : Int32) (100 : Int32) (0 : Int32) (0 : Int32) p15.2 hp17) yS_X11_spelt pX11_spelt mL_X11_88 dX11_verb_105 (Nat.le_of_ble_eq_true rfl) (Nat.le_of_ble_eq_true rfl) rfl (rK_l ?_)
          refine g_lcmp (pc := 108) dX11_verb_108 ?_
          refine g_if_ne (pc := 109) 114 dX11_verb_109 (by decide) (fun hc19 => ?_) (fun hc19 => ?_)
          · rw [if_neg hc19] at h
            refine g_lload_n (pc := 114) dX11_verb_114 rfl rfl ?_
            refine g_bipush (pc := 115) (v := (100 : Int32)) dX11_verb_115 rfl ?_
            refine g_bipush (pc := 117) (v := (111 : Int32)) dX11_verb_117 rfl ?_
            refine g_bipush (pc := 119) (v := (117 : Int32)) dX11_verb_119 rfl ?_
            refine g_bipush (pc := 121) (v := (98 : Int32)) dX11_verb_121 rfl ?_
            refine g_bipush (pc := 123) (v := (108 : Int32)) dX11_verb_123 rfl ?_
            refine g_bipush (pc := 125) (v := (101 : Int32)) dX11_verb_125 rfl ?_
            refine g_bipush (pc := 127) (v := (100 : Int32)) dX11_verb_127 rfl ?_
            obtain ⟨p21, hp20, h⟩ := Option.bind_eq_some_iff.mp h
            refine r_callS (pc := 129) (c_X11_spelt hN (100 : Int32) (111 : Int32) (117 : Int32) (98 : Int32) (108 : Int32) (101 : Int32) (100 : Int32) p18.2 hp20) yS_X11_spelt pX11_spelt mL_X11_88 dX11_verb_129 (Nat.le_of_ble_eq_true rfl) (Nat.le_of_ble_eq_true rfl) rfl (rK_l ?_)
            refine g_lcmp (pc := 132) dX11_verb_132 ?_
            refine g_if_ne (pc := 133) 138 dX11_verb_133 (by decide) (fun hc22 => ?_) (fun hc22 => ?_)
            · rw [if_neg hc22] at h
              refine g_lload_n (pc := 138) dX11_verb_138 rfl rfl ?_
              refine g_bipush (pc := 139) (v := (116 : Int32)) dX11_verb_139 rfl ?_
              refine g_bipush (pc := 141) (v := (111 : Int32)) dX11_verb_141 rfl ?_
              refine g_bipush (pc := 143) (v := (114 : Int32)) dX11_verb_143 rfl ?_
              refine g_bipush (pc := 145) (v := (110 : Int32)) dX11_verb_145 rfl ?_
              refine g_iconst (pc := 147) (v := (0 : Int32)) dX11_verb_147 rfl ?_
              refine g_iconst (pc := 148) (v := (0 : Int32)) dX11_verb_148 rfl ?_
              refine g_iconst (pc := 149) (v := (0 : Int32)) dX11_verb_149 rfl ?_
              obtain ⟨p24, hp23, h⟩ := Option.bind_eq_some_iff.mp h
              refine r_callS (pc := 150) (c_X11_spelt hN (116 : Int32) (111 : Int32) (114 : Int32) (110 : Int32) (0 : Int32) (0 : Int32) (0 : Int32) p21.2 hp23) yS_X11_spelt pX11_spelt mL_X11_88 dX11_verb_150 (Nat.le_of_ble_eq_true rfl) (Nat.le_of_ble_eq_true rfl) rfl (rK_l ?_)
              refine g_lcmp (pc := 153) dX11_verb_153 ?_
              refine g_if_ne (pc := 154) 160 dX11_verb_154 (by decide) (fun hc25 => ?_) (fun hc25 => ?_)
              · rw [if_neg hc25] at h
                refine g_lload_n (pc := 160) dX11_verb_160 rfl rfl ?_
                refine g_bipush (pc := 161) (v := (119 : Int32)) dX11_verb_161 rfl ?_
                refine g_bipush (pc := 163) (v := (101 : Int32)) dX11_verb_163 rfl ?_
                refine g_bipush (pc := 165) (v := (108 : Int32)) dX11_verb_165 rfl ?_
                refine g_bipush (pc := 167) (v := (108 : Int32)) dX11_verb_167 rfl ?_
                refine g_iconst (pc := 169) (v := (0 : Int32)) dX11_verb_169 rfl ?_
                refine g_iconst (pc := 170) (v := (0 : Int32)) dX11_verb_170 rfl ?_
                refine g_iconst (pc := 171) (v := (0 : Int32)) dX11_verb_171 rfl ?_
                obtain ⟨p27, hp26, h⟩ := Option.bind_eq_some_iff.mp h
                refine r_callS (pc := 172) (c_X11_spelt hN (119 : Int32) (101 : Int32) (108 : Int32) (108 : Int32) (0 : Int32) (0 : Int32) (0 : Int32) p24.2 hp26) yS_X11_spelt pX11_spelt mL_X11_88 dX11_verb_172 (Nat.le_of_ble_eq_true rfl) (Nat.le_of_ble_eq_true rfl) rfl (rK_l ?_)
                refine g_lcmp (pc := 175) dX11_verb_175 ?_
                refine g_if_ne (pc := 176) 182 dX11_verb_176 (by decide) (fun hc28 => ?_) (fun hc28 => ?_)
                · rw [if_neg hc28] at h
                  refine g_lload_n (pc := 182) dX11_verb_182 rfl rfl ?_
                  refine g_bipush (pc := 183) (v := (116 : Int32)) dX11_verb_183 rfl ?_
                  refine g_bipush (pc := 185) (v := (117 : Int32)) dX11_verb_185 rfl ?_
                  refine g_bipush (pc := 187) (v := (98 : Int32)) dX11_verb_187 rfl ?_
                  refine g_iconst (pc := 189) (v := (0 : Int32)) dX11_verb_189 rfl ?_
                  refine g_iconst (pc := 190) (v := (0 : Int32)) dX11_verb_190 rfl ?_
                  refine g_iconst (pc := 191) (v := (0 : Int32)) dX11_verb_191 rfl ?_
                  refine g_iconst (pc := 192) (v := (0 : Int32)) dX11_verb_192 rfl ?_
                  obtain ⟨p30, hp29, h⟩ := Option.bind_eq_some_iff.mp h
                  refine r_callS (pc := 193) (c_X11_spelt hN (116 : Int32) (117 : Int32) (98 : Int32) (0 : Int32) (0 : Int32) (0 : Int32) (0 : Int32) p27.2 hp29) yS_X11_spelt pX11_spelt mL_X11_88 dX11_verb_193 (Nat.le_of_ble_eq_true rfl) (Nat.le_of_ble_eq_true rfl) rfl (rK_l ?_)
                  refine g_lcmp (pc := 196) dX11_verb_196 ?_
                  refine g_if_ne (pc := 197) 203 dX11_verb_197 (by decide) (fun hc31 => ?_) (fun hc31 => ?_)
                  · rw [if_neg hc31] at h
                    refine g_lload_n (pc := 203) dX11_verb_203 rfl rfl ?_
                    refine g_bipush (pc := 204) (v := (104 : Int32)) dX11_verb_204 rfl ?_
                    refine g_bipush (pc := 206) (v := (111 : Int32)) dX11_verb_206 rfl ?_
                    refine g_bipush (pc := 208) (v := (108 : Int32)) dX11_verb_208 rfl ?_
                    refine g_bipush (pc := 210) (v := (101 : Int32)) dX11_verb_210 rfl ?_
                    refine g_iconst (pc := 212) (v := (0 : Int32)) dX11_verb_212 rfl ?_
                    refine g_iconst (pc := 213) (v := (0 : Int32)) dX11_verb_213 rfl ?_
                    refine g_iconst (pc := 214) (v := (0 : Int32)) dX11_verb_214 rfl ?_
                    obtain ⟨p33, hp32, h⟩ := Option.bind_eq_some_iff.mp h
                    refine r_callS (pc := 215) (c_X11_spelt hN (104 : Int32) (111 : Int32) (108 : Int32) (101 : Int32) (0 : Int32) (0 : Int32) (0 : Int32) p30.2 hp32) yS_X11_spelt pX11_spelt mL_X11_88 dX11_verb_215 (Nat.le_of_ble_eq_true rfl) (Nat.le_of_ble_eq_true rfl) rfl (rK_l ?_)
                    refine g_lcmp (pc := 218) dX11_verb_218 ?_
                    refine g_if_ne (pc := 219) 225 dX11_verb_219 (by decide) (fun hc34 => ?_) (fun hc34 => ?_)
                    · rw [if_neg hc34] at h
                      refine g_lload_n (pc := 225) dX11_verb_225 rfl rfl ?_
                      refine g_bipush (pc := 226) (v := (102 : Int32)) dX11_verb_226 rfl ?_
                      refine g_bipush (pc := 228) (v := (114 : Int32)) dX11_verb_228 rfl ?_
                      refine g_bipush (pc := 230) (v := (111 : Int32)) dX11_verb_230 rfl ?_
                      refine g_bipush (pc := 232) (v := (115 : Int32)) dX11_verb_232 rfl ?_
                      refine g_bipush (pc := 234) (v := (116 : Int32)) dX11_verb_234 rfl ?_
                      refine g_iconst (pc := 236) (v := (0 : Int32)) dX11_verb_236 rfl ?_
                      refine g_iconst (pc := 237) (v := (0 : Int32)) dX11_verb_237 rfl ?_
                      obtain ⟨p36, hp35, h⟩ := Option.bind_eq_some_iff.mp h
                      refine r_callS (pc := 238) (c_X11_spelt hN (102 : Int32) (114 : Int32) (111 : Int32) (115 : Int32) (116 : Int32) (0 : Int32) (0 : Int32) p33.2 hp35) yS_X11_spelt pX11_spelt mL_X11_88 dX11_verb_238 (Nat.le_of_ble_eq_true rfl) (Nat.le_of_ble_eq_true rfl) rfl (rK_l ?_)
                      refine g_lcmp (pc := 241) dX11_verb_241 ?_
                      refine g_if_ne (pc := 242) 250 dX11_verb_242 (by decide) (fun hc37 => ?_) (fun hc37 => ?_)
                      · rw [if_neg hc37] at h
                        refine g_lload_n (pc := 250) dX11_verb_250 rfl rfl ?_
                        refine g_bipush (pc := 251) (v := (116 : Int32)) dX11_verb_251 rfl ?_
                        refine g_bipush (pc := 253) (v := (104 : Int32)) dX11_verb_253 rfl ?_
                        refine g_bipush (pc := 255) (v := (97 : Int32)) dX11_verb_255 rfl ?_
                        refine g_bipush (pc := 257) (v := (119 : Int32)) dX11_verb_257 rfl ?_
                        refine g_iconst (pc := 259) (v := (0 : Int32)) dX11_verb_259 rfl ?_
                        refine g_iconst (pc := 260) (v := (0 : Int32)) dX11_verb_260 rfl ?_
                        refine g_iconst (pc := 261) (v := (0 : Int32)) dX11_verb_261 rfl ?_
                        obtain ⟨p39, hp38, h⟩ := Option.bind_eq_some_iff.mp h
                        refine r_callS (pc := 262) (c_X11_spelt hN (116 : Int32) (104 : Int32) (97 : Int32) (119 : Int32) (0 : Int32) (0 : Int32) (0 : Int32) p36.2 hp38) yS_X11_spelt pX11_spelt mL_X11_88 dX11_verb_262 (Nat.le_of_ble_eq_true rfl) (Nat.le_of_ble_eq_true rfl) rfl (rK_l ?_)
                        refine g_lcmp (pc := 265) dX11_verb_265 ?_
                        have key42 : ∀ x40 : Int32, x40 = (if (lg_cmp x3 p39.1) = 0 then (11 : Int32) else (-1 : Int32)) → RR κ N 2 iX11_verb 275 [(0, .ref (κ 0 + 140)), (1, .long x3)] [.int x40] p39.2 (qI r μ') := by
                          intro x40 e41
                          rw [lt_of e41] at h
                          cases h
                          exact r_iret dX11_verb_275 rfl rfl rfl
                        refine g_if_ne (pc := 266) 274 dX11_verb_266 (by decide) (fun hc43 => ?_) (fun hc43 => ?_)
                        · refine g_iconst (pc := 274) (v := (-1 : Int32)) dX11_verb_274 rfl ?_
                          exact key42 _ (by rw [if_neg hc43])
                        · refine g_bipush (pc := 269) (v := (11 : Int32)) dX11_verb_269 rfl ?_
                          refine g_goto (pc := 271) 275 dX11_verb_271 (by decide) ?_
                          exact key42 _ (by rw [if_pos hc43])
                      · rw [if_pos hc37] at h
                        refine g_bipush (pc := 245) (v := (10 : Int32)) dX11_verb_245 rfl ?_
                        refine g_goto (pc := 247) 275 dX11_verb_247 (by decide) ?_
                        cases h
                        exact r_iret dX11_verb_275 rfl rfl rfl
                    · rw [if_pos hc34] at h
                      refine g_bipush (pc := 222) (v := (9 : Int32)) dX11_verb_222 rfl ?_
                      cases h
                      exact r_iret dX11_verb_224 rfl rfl rfl
                  · rw [if_pos hc31] at h
                    refine g_bipush (pc := 200) (v := (8 : Int32)) dX11_verb_200 rfl ?_
                    cases h
                    exact r_iret dX11_verb_202 rfl rfl rfl
                · rw [if_pos hc28] at h
                  refine g_bipush (pc := 179) (v := (7 : Int32)) dX11_verb_179 rfl ?_
                  cases h
                  exact r_iret dX11_verb_181 rfl rfl rfl
              · rw [if_pos hc25] at h
                refine g_bipush (pc := 157) (v := (6 : Int32)) dX11_verb_157 rfl ?_
                cases h
                exact r_iret dX11_verb_159 rfl rfl rfl
            · rw [if_pos hc22] at h
              refine g_iconst (pc := 136) (v := (5 : Int32)) dX11_verb_136 rfl ?_
              cases h
              exact r_iret dX11_verb_137 rfl rfl rfl
          · rw [if_pos hc19] at h
            refine g_iconst (pc := 112) (v := (4 : Int32)) dX11_verb_112 rfl ?_
            cases h
            exact r_iret dX11_verb_113 rfl rfl rfl
        · rw [if_pos hc16] at h
          refine g_iconst (pc := 90) (v := (3 : Int32)) dX11_verb_90 rfl ?_
          cases h
          exact r_iret dX11_verb_91 rfl rfl rfl
      · rw [if_pos hc13] at h
        refine g_iconst (pc := 69) (v := (2 : Int32)) dX11_verb_69 rfl ?_
        cases h
        exact r_iret dX11_verb_70 rfl rfl rfl
    · rw [if_pos hc10] at h
      refine g_iconst (pc := 48) (v := (1 : Int32)) dX11_verb_48 rfl ?_
      cases h
      exact r_iret dX11_verb_49 rfl rfl rfl
  · rw [if_pos hc7] at h
    refine g_iconst (pc := 25) (v := (0 : Int32)) dX11_verb_25 rfl ?_
    cases h
    exact r_iret dX11_verb_26 rfl rfl rfl

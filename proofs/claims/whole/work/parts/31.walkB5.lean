def l_X11_fullIn_4 (i1 : Int32) : Nat → Int32 → Int32 → gMem → Option (Int32 × Int32 × gMem)
  | 0, _, _, _ => none
  | n + 1, i2, i3, μ =>
  if i1 < i3 then
  (some (i2, i3, μ))
else
  (if 0 ≤ i2 then
  (some (i2, i3, μ))
else
  ((f_X11_oneMinute  μ).bind (fun p8 =>
  lt (if p8.1 = (p8.2 141 (0 : Int32).toNatClampNeg) then i3 else (-1 : Int32)) (fun x9 =>
  lt (i3 + Int32.ofInt 1) (fun x14 =>
  l_X11_fullIn_4 i1 n x9 x14 p8.2)))))
def f_X11_fullIn (i1 : Int32) (μ : gMem) : Option (Int32 × gMem) :=
  (l_X11_fullIn_4 i1 gF (-1 : Int32) (1 : Int32) μ).bind (fun p17 =>
  (f_X11_takeBack  p17.2.2).bind (fun m20 =>
  some (p17.1, m20)))
set_option maxRecDepth 100000 in
set_option maxHeartbeats 4000000 in
theorem cl_X11_fullIn_4 {κ : Nat → Nat} {N : Nat} {Q : rQ} (hN : 151 ≤ N) (i1 : Int32)  : ∀ (n : Nat) (i2 : Int32) (i3 : Int32) (μ : gMem) (p : Int32 × Int32 × gMem), l_X11_fullIn_4 i1 n i2 i3 μ = some p → RR κ N 6 iX11_fullIn 38 [(0, .ref (κ 0 + 140)), (1, .int i1), (2, .int p.1), (3, .int p.2.1)] [] p.2.2 Q → RR κ N 6 iX11_fullIn 4 [(0, .ref (κ 0 + 140)), (1, .int i1), (2, .int i2), (3, .int i3)] [] μ Q := by
  intro n
  induction n with
  | zero =>
    intro i2 i3 μ p h k
    unfold l_X11_fullIn_4 at h
    cases h
  | succ n ih =>
    intro i2 i3 μ p h k
    unfold l_X11_fullIn_4 at h
    refine g_iload_n (pc := 4) dX11_fullIn_4 rfl rfl ?_
    refine g_iload_n (pc := 5) dX11_fullIn_5 rfl rfl ?_
    refine g_icmp_gt (pc := 6) 38 dX11_fullIn_6 (by decide) (fun hc5 => ?_) (fun hc5 => ?_)
    · rw [if_pos hc5] at h
      cases h
      exact k
    · rw [if_neg hc5] at h
      refine g_iload_n (pc := 9) dX11_fullIn_9 rfl rfl ?_
      refine g_if_ge (pc := 10) 38 dX11_fullIn_10 (by decide) (fun hc6 => ?_) (fun hc6 => ?_)
      · rw [if_pos hc6] at h
        cases h
        exact k
      · rw [if_neg hc6] at h
        refine g_aload_n (pc := 13) dX11_fullIn_13 rfl rfl ?_
        obtain ⟨p8, hp7, h⟩ := Option.bind_eq_some_iff.mp h
        refine r_callV (ci := 10) (pc := 14) (c_X11_oneMinute hN  μ hp7) yV_X11_oneMinute ⟨rfl, by decide⟩ pX11_oneMinute mL_X11_175 dX11_fullIn_14 (Nat.le_of_ble_eq_true rfl) (Nat.le_of_ble_eq_true rfl) (Nat.lt_of_lt_of_le (by decide) hN) kd_140 rfl (rK_i ?_)
        refine g_aload_n (pc := 17) dX11_fullIn_17 rfl rfl ?_
        refine gf_X11_7 (pc := 18) rfl dX11_fullIn_18 (Nat.lt_of_lt_of_le (by decide) hN) kd_140 ?_
        refine g_iconst (pc := 21) (v := (0 : Int32)) dX11_fullIn_21 rfl ?_
        refine r_iald (pc := 22) 31 dX11_fullIn_22 (Nat.lt_of_lt_of_le (by decide) hN) kd_141 ln_141 (by decide) ?_
        have key11 : ∀ x9 : Int32, x9 = (if p8.1 = (p8.2 141 (0 : Int32).toNatClampNeg) then i3 else (-1 : Int32)) → RR κ N 6 iX11_fullIn 31 [(0, .ref (κ 0 + 140)), (1, .int i1), (2, .int i2), (3, .int i3)] [.int x9] p8.2 Q := by
          intro x9 e10
          rw [lt_of e10] at h
          refine g_istore_n (pc := 31) (lv' := fun y => [(0, .ref (κ 0 + 140)), (1, .int i1), (2, .int y), (3, .int i3)]) dX11_fullIn_31 rfl (Nat.le_of_ble_eq_true rfl) (fun _ => rfl) (fun y12 e13 => ?_)
          rw [e13]
          refine g_iinc (pc := 32) (lv' := fun y => [(0, .ref (κ 0 + 140)), (1, .int i1), (2, .int x9), (3, .int y)]) dX11_fullIn_32 rfl (Nat.le_of_ble_eq_true rfl) (fun _ => rfl) (fun x14 e15 => ?_)
          rw [lt_of e15] at h
          refine g_goto (pc := 35) 4 dX11_fullIn_35 (by decide) ?_
          refine g_lv (lv' := [(0, .ref (κ 0 + 140)), (1, .int i1), (2, .int x9), (3, .int x14)]) rfl ?_
          exact ih _ _ _ _ h k
        refine g_icmp_ne (pc := 23) 30 dX11_fullIn_23 (by decide) (fun hc16 => ?_) (fun hc16 => ?_)
        · refine g_iconst (pc := 30) (v := (-1 : Int32)) dX11_fullIn_30 rfl ?_
          exact key11 _ (by rw [if_neg hc16])
        · refine g_iload_n (pc := 26) dX11_fullIn_26 rfl rfl ?_
          refine g_goto (pc := 27) 31 dX11_fullIn_27 (by decide) ?_
          exact key11 _ (by rw [if_pos hc16])
set_option maxRecDepth 100000 in
set_option maxHeartbeats 4000000 in
theorem c_X11_fullIn {κ : Nat → Nat} {N : Nat} (hN : 151 ≤ N) (i1 : Int32)  (μ : gMem) {r : Int32} {μ' : gMem} (h : f_X11_fullIn i1 μ = some (r, μ')) : CT2 κ N 6 yX11_fullIn iX11_fullIn [.ref (κ 0 + 140), .int i1] μ (qI r μ') := by
  refine CT2.of (by decide) rfl rfl (Nat.le_of_ble_eq_true rfl) ?_
  unfold f_X11_fullIn at h
  show RR κ N 6 iX11_fullIn 0 [(0, .ref (κ 0 + 140)), (1, .int i1)] [] μ _
  refine g_iconst (pc := 0) (v := (-1 : Int32)) dX11_fullIn_0 rfl ?_
  refine g_istore_n (pc := 1) (lv' := fun y => [(0, .ref (κ 0 + 140)), (1, .int i1), (2, .int y)]) dX11_fullIn_1 rfl (Nat.le_of_ble_eq_true rfl) (fun _ => rfl) (fun y1 e2 => ?_)
  rw [e2]
  refine g_iconst (pc := 2) (v := (1 : Int32)) dX11_fullIn_2 rfl ?_
  refine g_istore_n (pc := 3) (lv' := fun y => [(0, .ref (κ 0 + 140)), (1, .int i1), (2, .int (-1 : Int32)), (3, .int y)]) dX11_fullIn_3 rfl (Nat.le_of_ble_eq_true rfl) (fun _ => rfl) (fun y3 e4 => ?_)
  rw [e4]
  obtain ⟨p17, hp18, h⟩ := Option.bind_eq_some_iff.mp h
  refine cl_X11_fullIn_4 hN i1  gF (-1 : Int32) (1 : Int32) _ _ hp18 ?_
  refine g_aload_n (pc := 38) dX11_fullIn_38 rfl rfl ?_
  obtain ⟨m20, hp19, h⟩ := Option.bind_eq_some_iff.mp h
  refine r_callV (ci := 10) (pc := 39) (c_X11_takeBack hN  p17.2.2 hp19) yV_X11_takeBack ⟨rfl, by decide⟩ pX11_takeBack mL_X11_178 dX11_fullIn_39 (Nat.le_of_ble_eq_true rfl) (Nat.le_of_ble_eq_true rfl) (Nat.lt_of_lt_of_le (by decide) hN) kd_140 rfl (rK_v ?_)
  refine g_iload_n (pc := 42) dX11_fullIn_42 rfl rfl ?_
  cases h
  exact r_iret dX11_fullIn_43 rfl rfl rfl

def f_X11_isFar (i0 : Int32) (i1 : Int32) (μ : gMem) : Option (Int32 × gMem) :=
  (f_X11_in i0.toInt64 i1.toInt64 (99 : Int64) μ).bind (fun p2 =>
  some (p2.1, p2.2))
set_option maxRecDepth 100000 in
set_option maxHeartbeats 4000000 in
theorem c_X11_isFar {κ : Nat → Nat} {N : Nat} (hN : 151 ≤ N) (i0 : Int32) (i1 : Int32)  (μ : gMem) {r : Int32} {μ' : gMem} (h : f_X11_isFar i0 i1 μ = some (r, μ')) : CT2 κ N 2 yX11_isFar iX11_isFar [.int i0, .int i1] μ (qZ r μ') := by
  refine CT2.of (by decide) rfl rfl (Nat.le_of_ble_eq_true rfl) ?_
  unfold f_X11_isFar at h
  show RR κ N 2 iX11_isFar 0 [(0, .int i0), (1, .int i1)] [] μ _
  refine g_iload_n (pc := 0) dX11_isFar_0 rfl rfl ?_
  refine g_i2l (pc := 1) dX11_isFar_1 ?_
  refine g_iload_n (pc := 2) dX11_isFar_2 rfl rfl ?_
  refine g_i2l (pc := 3) dX11_isFar_3 ?_
  refine g_ldc2 (pc := 4) kL_X11_173 dX11_isFar_4 ?_
  obtain ⟨p2, hp1, h⟩ := Option.bind_eq_some_iff.mp h
  refine r_callS (pc := 7) (c_X11_in hN i0.toInt64 i1.toInt64 (99 : Int64) μ hp1) yS_X11_in pX11_in mL_X11_49 dX11_isFar_7 (Nat.le_of_ble_eq_true rfl) (Nat.le_of_ble_eq_true rfl) rfl (rK_z (fun hz3 => ?_))
  cases h
  exact r_zret dX11_isFar_10 rfl hz3 rfl rfl

def f_X11_level (i1 : Int32) (μ : gMem) : Option (Int32 × gMem) :=
  (f_X11_isFar i1 (0 : Int32) μ).bind (fun p2 =>
  if p2.1 = 0 then
  (some ((-3 : Int32), p2.2))
else
  ((f_X11_putAside  p2.2).bind (fun m6 =>
  (f_X11_levelBehind i1 m6).bind (fun p8 =>
  some (p8.1, p8.2)))))
set_option maxRecDepth 100000 in
set_option maxHeartbeats 4000000 in
theorem c_X11_level {κ : Nat → Nat} {N : Nat} (hN : 151 ≤ N) (i1 : Int32)  (μ : gMem) {r : Int32} {μ' : gMem} (h : f_X11_level i1 μ = some (r, μ')) : CT2 κ N 7 yX11_level iX11_level [.ref (κ 0 + 140), .int i1] μ (qI r μ') := by
  refine CT2.of (by decide) rfl rfl (Nat.le_of_ble_eq_true rfl) ?_
  unfold f_X11_level at h
  show RR κ N 7 iX11_level 0 [(0, .ref (κ 0 + 140)), (1, .int i1)] [] μ _
  refine g_iload_n (pc := 0) dX11_level_0 rfl rfl ?_
  refine g_iconst (pc := 1) (v := (0 : Int32)) dX11_level_1 rfl ?_
  obtain ⟨p2, hp1, h⟩ := Option.bind_eq_some_iff.mp h
  refine r_callS (pc := 2) (c_X11_isFar hN i1 (0 : Int32) μ hp1) yS_X11_isFar pX11_isFar mL_X11_181 dX11_level_2 (Nat.le_of_ble_eq_true rfl) (Nat.le_of_ble_eq_true rfl) rfl (rK_z (fun hz3 => ?_))
  refine g_if_ne (pc := 5) 11 dX11_level_5 (by decide) (fun hc4 => ?_) (fun hc4 => ?_)
  · rw [if_neg hc4] at h
    refine g_aload_n (pc := 11) dX11_level_11 rfl rfl ?_
    obtain ⟨m6, hp5, h⟩ := Option.bind_eq_some_iff.mp h
    refine r_callV (ci := 10) (pc := 12) (c_X11_putAside hN  p2.2 hp5) yV_X11_putAside ⟨rfl, by decide⟩ pX11_putAside mL_X11_185 dX11_level_12 (Nat.le_of_ble_eq_true rfl) (Nat.le_of_ble_eq_true rfl) (Nat.lt_of_lt_of_le (by decide) hN) kd_140 rfl (rK_v ?_)
    refine g_aload_n (pc := 15) dX11_level_15 rfl rfl ?_
    refine g_iload_n (pc := 16) dX11_level_16 rfl rfl ?_
    obtain ⟨p8, hp7, h⟩ := Option.bind_eq_some_iff.mp h
    refine r_callV (ci := 10) (pc := 17) (c_X11_levelBehind hN i1 m6 hp7) yV_X11_levelBehind ⟨rfl, by decide⟩ pX11_levelBehind mL_X11_188 dX11_level_17 (Nat.le_of_ble_eq_true rfl) (Nat.le_of_ble_eq_true rfl) (Nat.lt_of_lt_of_le (by decide) hN) kd_140 rfl (rK_i ?_)
    cases h
    exact r_iret dX11_level_20 rfl rfl rfl
  · rw [if_pos hc4] at h
    refine g_bipush (pc := 8) (v := (-3 : Int32)) dX11_level_8 rfl ?_
    cases h
    exact r_iret dX11_level_10 rfl rfl rfl

def f_X11_highest (i1 : Int32) (μ : gMem) : Option (Int32 × gMem) :=
  (f_X11_isFar i1 (0 : Int32) μ).bind (fun p2 =>
  if p2.1 = 0 then
  (some ((-3 : Int32), p2.2))
else
  ((f_X11_putAside  p2.2).bind (fun m6 =>
  (f_X11_highestOf i1 m6).bind (fun p8 =>
  some (p8.1, p8.2)))))
set_option maxRecDepth 100000 in
set_option maxHeartbeats 4000000 in
theorem c_X11_highest {κ : Nat → Nat} {N : Nat} (hN : 151 ≤ N) (i1 : Int32)  (μ : gMem) {r : Int32} {μ' : gMem} (h : f_X11_highest i1 μ = some (r, μ')) : CT2 κ N 7 yX11_highest iX11_highest [.ref (κ 0 + 140), .int i1] μ (qI r μ') := by
  refine CT2.of (by decide) rfl rfl (Nat.le_of_ble_eq_true rfl) ?_
  unfold f_X11_highest at h
  show RR κ N 7 iX11_highest 0 [(0, .ref (κ 0 + 140)), (1, .int i1)] [] μ _
  refine g_iload_n (pc := 0) dX11_highest_0 rfl rfl ?_
  refine g_iconst (pc := 1) (v := (0 : Int32)) dX11_highest_1 rfl ?_
  obtain ⟨p2, hp1, h⟩ := Option.bind_eq_some_iff.mp h
  refine r_callS (pc := 2) (c_X11_isFar hN i1 (0 : Int32) μ hp1) yS_X11_isFar pX11_isFar mL_X11_181 dX11_highest_2 (Nat.le_of_ble_eq_true rfl) (Nat.le_of_ble_eq_true rfl) rfl (rK_z (fun hz3 => ?_))
  refine g_if_ne (pc := 5) 11 dX11_highest_5 (by decide) (fun hc4 => ?_) (fun hc4 => ?_)
  · rw [if_neg hc4] at h
    refine g_aload_n (pc := 11) dX11_highest_11 rfl rfl ?_
    obtain ⟨m6, hp5, h⟩ := Option.bind_eq_some_iff.mp h
    refine r_callV (ci := 10) (pc := 12) (c_X11_putAside hN  p2.2 hp5) yV_X11_putAside ⟨rfl, by decide⟩ pX11_putAside mL_X11_185 dX11_highest_12 (Nat.le_of_ble_eq_true rfl) (Nat.le_of_ble_eq_true rfl) (Nat.lt_of_lt_of_le (by decide) hN) kd_140 rfl (rK_v ?_)
    refine g_aload_n (pc := 15) dX11_highest_15 rfl rfl ?_
    refine g_iload_n (pc := 16) dX11_highest_16 rfl rfl ?_
    obtain ⟨p8, hp7, h⟩ := Option.bind_eq_some_iff.mp h
    refine r_callV (ci := 10) (pc := 17) (c_X11_highestOf hN i1 m6 hp7) yV_X11_highestOf ⟨rfl, by decide⟩ pX11_highestOf mL_X11_191 dX11_highest_17 (Nat.le_of_ble_eq_true rfl) (Nat.le_of_ble_eq_true rfl) (Nat.lt_of_lt_of_le (by decide) hN) kd_140 rfl (rK_i ?_)
    cases h
    exact r_iret dX11_highest_20 rfl rfl rfl
  · rw [if_pos hc4] at h
    refine g_bipush (pc := 8) (v := (-3 : Int32)) dX11_highest_8 rfl ?_
    cases h
    exact r_iret dX11_highest_10 rfl rfl rfl

def f_X11_full  (μ : gMem) : Option (Int32 × gMem) :=
  (f_X11_putAside  μ).bind (fun m2 =>
  (f_X11_fullIn (99 : Int32) m2).bind (fun p4 =>
  some (p4.1, p4.2)))
set_option maxRecDepth 100000 in
set_option maxHeartbeats 4000000 in
theorem c_X11_full {κ : Nat → Nat} {N : Nat} (hN : 151 ≤ N)   (μ : gMem) {r : Int32} {μ' : gMem} (h : f_X11_full  μ = some (r, μ')) : CT2 κ N 7 yX11_full iX11_full [.ref (κ 0 + 140)] μ (qI r μ') := by
  refine CT2.of (by decide) rfl rfl (Nat.le_of_ble_eq_true rfl) ?_
  unfold f_X11_full at h
  show RR κ N 7 iX11_full 0 [(0, .ref (κ 0 + 140))] [] μ _
  refine g_aload_n (pc := 0) dX11_full_0 rfl rfl ?_
  obtain ⟨m2, hp1, h⟩ := Option.bind_eq_some_iff.mp h
  refine r_callV (ci := 10) (pc := 1) (c_X11_putAside hN  μ hp1) yV_X11_putAside ⟨rfl, by decide⟩ pX11_putAside mL_X11_185 dX11_full_1 (Nat.le_of_ble_eq_true rfl) (Nat.le_of_ble_eq_true rfl) (Nat.lt_of_lt_of_le (by decide) hN) kd_140 rfl (rK_v ?_)
  refine g_aload_n (pc := 4) dX11_full_4 rfl rfl ?_
  refine g_bipush (pc := 5) (v := (99 : Int32)) dX11_full_5 rfl ?_
  obtain ⟨p4, hp3, h⟩ := Option.bind_eq_some_iff.mp h
  refine r_callV (ci := 10) (pc := 7) (c_X11_fullIn hN (99 : Int32) m2 hp3) yV_X11_fullIn ⟨rfl, by decide⟩ pX11_fullIn mL_X11_194 dX11_full_7 (Nat.le_of_ble_eq_true rfl) (Nat.le_of_ble_eq_true rfl) (Nat.lt_of_lt_of_le (by decide) hN) kd_140 rfl (rK_i ?_)
  cases h
  exact r_iret dX11_full_10 rfl rfl rfl

def l_X11_mossTo_26 (i1 : Int32) : Nat → Int32 → Int32 → Int32 → gMem → Option (Int32 × Int32 × Int32 × gMem)
  | 0, _, _, _, _ => none
  | n + 1, i2, i3, i4, μ =>
  if (μ 140 1) ≤ i4 then
  (some (i2, i3, i4, μ))
else
  ((f_X11_mossOf i4 μ).bind (fun p17 =>
  if p17.1 = 0 then
  (if inb ((25 : Int32) + i4) 35 = true then
  lt (st p17.2 142 ((25 : Int32) + i4).toNatClampNeg ((p17.2 142 (30 : Int32).toNatClampNeg) + (30 : Int32))) (fun m21 =>
  (f_X11_levelBehind i1 m21).bind (fun p25 =>
  lt p25.1 (fun x26 =>
  lt (if x26 ≤ i3 then i2 else i4) (fun x28 =>
  lt (if x26 ≤ i3 then i3 else x26) (fun x33 =>
  lt (i4 + Int32.ofInt 1) (fun x38 =>
  l_X11_mossTo_26 i1 n x28 x33 x38 p25.2)))))) else none)
else
  (lt (i4 + Int32.ofInt 1) (fun x19 =>
  l_X11_mossTo_26 i1 n i2 i3 x19 p17.2))))
def f_X11_mossTo (i1 : Int32) (μ : gMem) : Option (Int32 × gMem) :=
  (f_X11_isFar i1 (1 : Int32) μ).bind (fun p2 =>
  if p2.1 = 0 then
  (some ((-3 : Int32), p2.2))
else
  ((f_X11_putAside  p2.2).bind (fun m6 =>
  (f_X11_levelBehind i1 m6).bind (fun p10 =>
  lt p10.1 (fun x11 =>
  (l_X11_mossTo_26 i1 gF (-1 : Int32) x11 (0 : Int32) p10.2).bind (fun p42 =>
  some (p42.1, p42.2.2.2)))))))
set_option maxRecDepth 100000 in
set_option maxHeartbeats 4000000 in
theorem cl_X11_mossTo_26 {κ : Nat → Nat} {N : Nat} {Q : rQ} (hN : 151 ≤ N) (i1 : Int32)  : ∀ (n : Nat) (i2 : Int32) (i3 : Int32) (i4 : Int32) (μ : gMem) (p : Int32 × Int32 × Int32 × gMem), l_X11_mossTo_26 i1 n i2 i3 i4 μ = some p → RR κ N 7 iX11_mossTo 103 [(0, .ref (κ 0 + 140)), (1, .int i1), (2, .int p.1), (3, .int p.2.1), (4, .int p.2.2.1)] [] p.2.2.2 Q → RR κ N 7 iX11_mossTo 26 [(0, .ref (κ 0 + 140)), (1, .int i1), (2, .int i2), (3, .int i3), (4, .int i4)] [] μ Q := by
  intro n
  induction n with
  | zero =>
    intro i2 i3 i4 μ p h k
    unfold l_X11_mossTo_26 at h
    cases h
  | succ n ih =>
    intro i2 i3 i4 μ p h k
    unfold l_X11_mossTo_26 at h
    refine g_iload (pc := 26) dX11_mossTo_26 rfl ?_
    refine g_aload_n (pc := 28) dX11_mossTo_28 rfl rfl ?_
    refine gf_X11_45 (pc := 29) rfl dX11_mossTo_29 (Nat.lt_of_lt_of_le (by decide) hN) kd_140 ?_
    refine g_icmp_ge (pc := 32) 103 dX11_mossTo_32 (by decide) (fun hc15 => ?_) (fun hc15 => ?_)
    · rw [if_pos hc15] at h
      cases h
      exact k
    · rw [if_neg hc15] at h
      refine g_aload_n (pc := 35) dX11_mossTo_35 rfl rfl ?_
      refine g_iload (pc := 36) dX11_mossTo_36 rfl ?_
      obtain ⟨p17, hp16, h⟩ := Option.bind_eq_some_iff.mp h
      refine r_callV (ci := 10) (pc := 38) (c_X11_mossOf hN i4 μ hp16) yV_X11_mossOf ⟨rfl, by decide⟩ pX11_mossOf mL_X11_142 dX11_mossTo_38 (Nat.le_of_ble_eq_true rfl) (Nat.le_of_ble_eq_true rfl) (Nat.lt_of_lt_of_le (by decide) hN) kd_140 rfl (rK_i ?_)
      refine g_if_ne (pc := 41) 97 dX11_mossTo_41 (by decide) (fun hc18 => ?_) (fun hc18 => ?_)
      · rw [if_neg hc18] at h
        refine g_iinc (pc := 97) (lv' := fun y => [(0, .ref (κ 0 + 140)), (1, .int i1), (2, .int i2), (3, .int i3), (4, .int y)]) dX11_mossTo_97 rfl (Nat.le_of_ble_eq_true rfl) (fun _ => rfl) (fun x19 e20 => ?_)
        rw [lt_of e20] at h
        refine g_goto (pc := 100) 26 dX11_mossTo_100 (by decide) ?_
        refine g_lv (lv' := [(0, .ref (κ 0 + 140)), (1, .int i1), (2, .int i2), (3, .int i3), (4, .int x19)]) rfl ?_
        exact ih _ _ _ _ _ h k
      · rw [if_pos hc18] at h
        refine g_aload_n (pc := 44) dX11_mossTo_44 rfl rfl ?_
        refine gf_X11_13 (pc := 45) rfl dX11_mossTo_45 (Nat.lt_of_lt_of_le (by decide) hN) kd_140 ?_
        refine g_bipush (pc := 48) (v := (25 : Int32)) dX11_mossTo_48 rfl ?_
        refine g_iload (pc := 50) dX11_mossTo_50 rfl ?_
        refine g_iadd (pc := 52) dX11_mossTo_52 ?_
        refine g_aload_n (pc := 53) dX11_mossTo_53 rfl rfl ?_
        refine gf_X11_13 (pc := 54) rfl dX11_mossTo_54 (Nat.lt_of_lt_of_le (by decide) hN) kd_140 ?_
        refine g_bipush (pc := 57) (v := (30 : Int32)) dX11_mossTo_57 rfl ?_
        refine r_iald (pc := 59) 35 dX11_mossTo_59 (Nat.lt_of_lt_of_le (by decide) hN) kd_142 ln_142 (by decide) ?_
        refine g_bipush (pc := 60) (v := (30 : Int32)) dX11_mossTo_60 rfl ?_
        refine g_iadd (pc := 62) dX11_mossTo_62 ?_
        obtain ⟨hg23, h⟩ := gd_some h
        refine r_iast (pc := 63) 35 dX11_mossTo_63 (Nat.lt_of_lt_of_le (by decide) hN) kd_142 ln_142 hg23 (fun m21 e22 => ?_)
        rw [lt_of e22] at h
        refine g_aload_n (pc := 64) dX11_mossTo_64 rfl rfl ?_
        refine g_iload_n (pc := 65) dX11_mossTo_65 rfl rfl ?_
        obtain ⟨p25, hp24, h⟩ := Option.bind_eq_some_iff.mp h
        refine r_callV (ci := 10) (pc := 66) (c_X11_levelBehind hN i1 m21 hp24) yV_X11_levelBehind ⟨rfl, by decide⟩ pX11_levelBehind mL_X11_188 dX11_mossTo_66 (Nat.le_of_ble_eq_true rfl) (Nat.le_of_ble_eq_true rfl) (Nat.lt_of_lt_of_le (by decide) hN) kd_140 rfl (rK_i ?_)
        refine g_istore (pc := 69) (lv' := fun y => [(0, .ref (κ 0 + 140)), (1, .int i1), (2, .int i2), (3, .int i3), (4, .int i4), (5, .int y)]) dX11_mossTo_69 (Nat.le_of_ble_eq_true rfl) (fun _ => rfl) (fun x26 e27 => ?_)
        rw [lt_of e27] at h
        refine g_iload (pc := 71) dX11_mossTo_71 rfl ?_
        refine g_iload_n (pc := 73) dX11_mossTo_73 rfl rfl ?_
        have key30 : ∀ x28 : Int32, x28 = (if x26 ≤ i3 then i2 else i4) → RR κ N 7 iX11_mossTo 83 [(0, .ref (κ 0 + 140)), (1, .int i1), (2, .int i2), (3, .int i3), (4, .int i4), (5, .int x26)] [.int x28] p25.2 Q := by
          intro x28 e29
          rw [lt_of e29] at h
          refine g_istore_n (pc := 83) (lv' := fun y => [(0, .ref (κ 0 + 140)), (1, .int i1), (2, .int y), (3, .int i3), (4, .int i4), (5, .int x26)]) dX11_mossTo_83 rfl (Nat.le_of_ble_eq_true rfl) (fun _ => rfl) (fun y31 e32 => ?_)
          rw [e32]
          refine g_iload (pc := 84) dX11_mossTo_84 rfl ?_
          refine g_iload_n (pc := 86) dX11_mossTo_86 rfl rfl ?_
          have key35 : ∀ x33 : Int32, x33 = (if x26 ≤ i3 then i3 else x26) → RR κ N 7 iX11_mossTo 96 [(0, .ref (κ 0 + 140)), (1, .int i1), (2, .int x28), (3, .int i3), (4, .int i4), (5, .int x26)] [.int x33] p25.2 Q := by
            intro x33 e34
            rw [lt_of e34] at h
            refine g_istore_n (pc := 96) (lv' := fun y => [(0, .ref (κ 0 + 140)), (1, .int i1), (2, .int x28), (3, .int y), (4, .int i4), (5, .int x26)]) dX11_mossTo_96 rfl (Nat.le_of_ble_eq_true rfl) (fun _ => rfl) (fun y36 e37 => ?_)
            rw [e37]
            refine g_iinc (pc := 97) (lv' := fun y => [(0, .ref (κ 0 + 140)), (1, .int i1), (2, .int x28), (3, .int x33), (4, .int y), (5, .int x26)]) dX11_mossTo_97 rfl (Nat.le_of_ble_eq_true rfl) (fun _ => rfl) (fun x38 e39 => ?_)
            rw [lt_of e39] at h
            refine g_goto (pc := 100) 26 dX11_mossTo_100 (by decide) ?_
            refine g_lv (lv' := [(0, .ref (κ 0 + 140)), (1, .int i1), (2, .int x28), (3, .int x33), (4, .int x38)]) rfl ?_
            exact ih _ _ _ _ _ h k
          refine g_icmp_le (pc := 87) 95 dX11_mossTo_87 (by decide) (fun hc40 => ?_) (fun hc40 => ?_)
          · refine g_iload_n (pc := 95) dX11_mossTo_95 rfl rfl ?_
            exact key35 _ (by rw [if_pos hc40])
          · refine g_iload (pc := 90) dX11_mossTo_90 rfl ?_
            refine g_goto (pc := 92) 96 dX11_mossTo_92 (by decide) ?_
            exact key35 _ (by rw [if_neg hc40])
        refine g_icmp_le (pc := 74) 82 dX11_mossTo_74 (by decide) (fun hc41 => ?_) (fun hc41 => ?_)
        · refine g_iload_n (pc := 82) dX11_mossTo_82 rfl rfl ?_
          exact key30 _ (by rw [if_pos hc41])
        · refine g_iload (pc := 77) dX11_mossTo_77 rfl ?_
          refine g_goto (pc := 79) 83 dX11_mossTo_79 (by decide) ?_
          exact key30 _ (by rw [if_neg hc41])
set_option maxRecDepth 100000 in
set_option maxHeartbeats 4000000 in
theorem c_X11_mossTo {κ : Nat → Nat} {N : Nat} (hN : 151 ≤ N) (i1 : Int32)  (μ : gMem) {r : Int32} {μ' : gMem} (h : f_X11_mossTo i1 μ = some (r, μ')) : CT2 κ N 7 yX11_mossTo iX11_mossTo [.ref (κ 0 + 140), .int i1] μ (qI r μ') := by
  refine CT2.of (by decide) rfl rfl (Nat.le_of_ble_eq_true rfl) ?_
  unfold f_X11_mossTo at h
  show RR κ N 7 iX11_mossTo 0 [(0, .ref (κ 0 + 140)), (1, .int i1)] [] μ _
  refine g_iload_n (pc := 0) dX11_mossTo_0 rfl rfl ?_
  refine g_iconst (pc := 1) (v := (1 : Int32)) dX11_mossTo_1 rfl ?_
  obtain ⟨p2, hp1, h⟩ := Option.bind_eq_some_iff.mp h
  refine r_callS (pc := 2) (c_X11_isFar hN i1 (1 : Int32) μ hp1) yS_X11_isFar pX11_isFar mL_X11_181 dX11_mossTo_2 (Nat.le_of_ble_eq_true rfl) (Nat.le_of_ble_eq_true rfl) rfl (rK_z (fun hz3 => ?_))
  refine g_if_ne (pc := 5) 11 dX11_mossTo_5 (by decide) (fun hc4 => ?_) (fun hc4 => ?_)
  · rw [if_neg hc4] at h
    refine g_aload_n (pc := 11) dX11_mossTo_11 rfl rfl ?_
    obtain ⟨m6, hp5, h⟩ := Option.bind_eq_some_iff.mp h
    refine r_callV (ci := 10) (pc := 12) (c_X11_putAside hN  p2.2 hp5) yV_X11_putAside ⟨rfl, by decide⟩ pX11_putAside mL_X11_185 dX11_mossTo_12 (Nat.le_of_ble_eq_true rfl) (Nat.le_of_ble_eq_true rfl) (Nat.lt_of_lt_of_le (by decide) hN) kd_140 rfl (rK_v ?_)
    refine g_iconst (pc := 15) (v := (-1 : Int32)) dX11_mossTo_15 rfl ?_
    refine g_istore_n (pc := 16) (lv' := fun y => [(0, .ref (κ 0 + 140)), (1, .int i1), (2, .int y)]) dX11_mossTo_16 rfl (Nat.le_of_ble_eq_true rfl) (fun _ => rfl) (fun y7 e8 => ?_)
    rw [e8]
    refine g_aload_n (pc := 17) dX11_mossTo_17 rfl rfl ?_
    refine g_iload_n (pc := 18) dX11_mossTo_18 rfl rfl ?_
    obtain ⟨p10, hp9, h⟩ := Option.bind_eq_some_iff.mp h
    refine r_callV (ci := 10) (pc := 19) (c_X11_levelBehind hN i1 m6 hp9) yV_X11_levelBehind ⟨rfl, by decide⟩ pX11_levelBehind mL_X11_188 dX11_mossTo_19 (Nat.le_of_ble_eq_true rfl) (Nat.le_of_ble_eq_true rfl) (Nat.lt_of_lt_of_le (by decide) hN) kd_140 rfl (rK_i ?_)
    refine g_istore_n (pc := 22) (lv' := fun y => [(0, .ref (κ 0 + 140)), (1, .int i1), (2, .int (-1 : Int32)), (3, .int y)]) dX11_mossTo_22 rfl (Nat.le_of_ble_eq_true rfl) (fun _ => rfl) (fun x11 e12 => ?_)
    rw [lt_of e12] at h
    refine g_iconst (pc := 23) (v := (0 : Int32)) dX11_mossTo_23 rfl ?_
    refine g_istore (pc := 24) (lv' := fun y => [(0, .ref (κ 0 + 140)), (1, .int i1), (2, .int (-1 : Int32)), (3, .int x11), (4, .int y)]) dX11_mossTo_24 (Nat.le_of_ble_eq_true rfl) (fun _ => rfl) (fun y13 e14 => ?_)
    rw [e14]
    obtain ⟨p42, hp43, h⟩ := Option.bind_eq_some_iff.mp h
    refine cl_X11_mossTo_26 hN i1  gF (-1 : Int32) x11 (0 : Int32) _ _ hp43 ?_
    refine g_iload_n (pc := 103) dX11_mossTo_103 rfl rfl ?_
    cases h
    exact r_iret dX11_mossTo_104 rfl rfl rfl
  · rw [if_pos hc4] at h
    refine g_bipush (pc := 8) (v := (-3 : Int32)) dX11_mossTo_8 rfl ?_
    cases h
    exact r_iret dX11_mossTo_10 rfl rfl rfl

def f_X11_adds (i1 : Int32) (i2 : Int32) (μ : gMem) : Option (Int32 × gMem) :=
  (f_X11_isSister i1 μ).bind (fun p2 =>
  if p2.1 = 0 then
  (some ((-2 : Int32), p2.2))
else
  ((f_X11_isFar i2 (1 : Int32) p2.2).bind (fun p6 =>
  if p6.1 = 0 then
  (some ((-3 : Int32), p6.2))
else
  ((f_X11_putAside  p6.2).bind (fun m10 =>
  (f_X11_highestOf i2 m10).bind (fun p12 =>
  lt p12.1 (fun x13 =>
  (f_X11_restNow i1 p12.2).bind (fun m16 =>
  (f_X11_highestOf i2 m16).bind (fun p18 =>
  some ((x13 - p18.1), p18.2))))))))))
set_option maxRecDepth 100000 in
set_option maxHeartbeats 4000000 in
theorem c_X11_adds {κ : Nat → Nat} {N : Nat} (hN : 151 ≤ N) (i1 : Int32) (i2 : Int32)  (μ : gMem) {r : Int32} {μ' : gMem} (h : f_X11_adds i1 i2 μ = some (r, μ')) : CT2 κ N 7 yX11_adds iX11_adds [.ref (κ 0 + 140), .int i1, .int i2] μ (qI r μ') := by
  refine CT2.of (by decide) rfl rfl (Nat.le_of_ble_eq_true rfl) ?_
  unfold f_X11_adds at h
  show RR κ N 7 iX11_adds 0 [(0, .ref (κ 0 + 140)), (1, .int i1), (2, .int i2)] [] μ _
  refine g_aload_n (pc := 0) dX11_adds_0 rfl rfl ?_
  refine g_iload_n (pc := 1) dX11_adds_1 rfl rfl ?_
  obtain ⟨p2, hp1, h⟩ := Option.bind_eq_some_iff.mp h
  refine r_callV (ci := 10) (pc := 2) (c_X11_isSister hN i1 μ hp1) yV_X11_isSister ⟨rfl, by decide⟩ pX11_isSister mL_X11_139 dX11_adds_2 (Nat.le_of_ble_eq_true rfl) (Nat.le_of_ble_eq_true rfl) (Nat.lt_of_lt_of_le (by decide) hN) kd_140 rfl (rK_z (fun hz3 => ?_))
  refine g_if_ne (pc := 5) 11 dX11_adds_5 (by decide) (fun hc4 => ?_) (fun hc4 => ?_)
  · rw [if_neg hc4] at h
    refine g_iload_n (pc := 11) dX11_adds_11 rfl rfl ?_
    refine g_iconst (pc := 12) (v := (1 : Int32)) dX11_adds_12 rfl ?_
    obtain ⟨p6, hp5, h⟩ := Option.bind_eq_some_iff.mp h
    refine r_callS (pc := 13) (c_X11_isFar hN i2 (1 : Int32) p2.2 hp5) yS_X11_isFar pX11_isFar mL_X11_181 dX11_adds_13 (Nat.le_of_ble_eq_true rfl) (Nat.le_of_ble_eq_true rfl) rfl (rK_z (fun hz7 => ?_))
    refine g_if_ne (pc := 16) 22 dX11_adds_16 (by decide) (fun hc8 => ?_) (fun hc8 => ?_)
    · rw [if_neg hc8] at h
      refine g_aload_n (pc := 22) dX11_adds_22 rfl rfl ?_
      obtain ⟨m10, hp9, h⟩ := Option.bind_eq_some_iff.mp h
      refine r_callV (ci := 10) (pc := 23) (c_X11_putAside hN  p6.2 hp9) yV_X11_putAside ⟨rfl, by decide⟩ pX11_putAside mL_X11_185 dX11_adds_23 (Nat.le_of_ble_eq_true rfl) (Nat.le_of_ble_eq_true rfl) (Nat.lt_of_lt_of_le (by decide) hN) kd_140 rfl (rK_v ?_)
      refine g_aload_n (pc := 26) dX11_adds_26 rfl rfl ?_
      refine g_iload_n (pc := 27) dX11_adds_27 rfl rfl ?_
      obtain ⟨p12, hp11, h⟩ := Option.bind_eq_some_iff.mp h
      refine r_callV (ci := 10) (pc := 28) (c_X11_highestOf hN i2 m10 hp11) yV_X11_highestOf ⟨rfl, by decide⟩ pX11_highestOf mL_X11_191 dX11_adds_28 (Nat.le_of_ble_eq_true rfl) (Nat.le_of_ble_eq_true rfl) (Nat.lt_of_lt_of_le (by decide) hN) kd_140 rfl (rK_i ?_)
      refine g_istore_n (pc := 31) (lv' := fun y => [(0, .ref (κ 0 + 140)), (1, .int i1), (2, .int i2), (3, .int y)]) dX11_adds_31 rfl (Nat.le_of_ble_eq_true rfl) (fun _ => rfl) (fun x13 e14 => ?_)
      rw [lt_of e14] at h
      refine g_aload_n (pc := 32) dX11_adds_32 rfl rfl ?_
      refine g_iload_n (pc := 33) dX11_adds_33 rfl rfl ?_
      obtain ⟨m16, hp15, h⟩ := Option.bind_eq_some_iff.mp h
      refine r_callV (ci := 10) (pc := 34) (c_X11_restNow hN i1 p12.2 hp15) yV_X11_restNow ⟨rfl, by decide⟩ pX11_restNow mL_X11_165 dX11_adds_34 (Nat.le_of_ble_eq_true rfl) (Nat.le_of_ble_eq_true rfl) (Nat.lt_of_lt_of_le (by decide) hN) kd_140 rfl (rK_v ?_)
      refine g_iload_n (pc := 37) dX11_adds_37 rfl rfl ?_
      refine g_aload_n (pc := 38) dX11_adds_38 rfl rfl ?_
      refine g_iload_n (pc := 39) dX11_adds_39 rfl rfl ?_
      obtain ⟨p18, hp17, h⟩ := Option.bind_eq_some_iff.mp h
      refine r_callV (ci := 10) (pc := 40) (c_X11_highestOf hN i2 m16 hp17) yV_X11_highestOf ⟨rfl, by decide⟩ pX11_highestOf mL_X11_191 dX11_adds_40 (Nat.le_of_ble_eq_true rfl) (Nat.le_of_ble_eq_true rfl) (Nat.lt_of_lt_of_le (by decide) hN) kd_140 rfl (rK_i ?_)
      refine g_isub (pc := 43) dX11_adds_43 ?_
      cases h
      exact r_iret dX11_adds_44 rfl rfl rfl
    · rw [if_pos hc8] at h
      refine g_bipush (pc := 19) (v := (-3 : Int32)) dX11_adds_19 rfl ?_
      cases h
      exact r_iret dX11_adds_21 rfl rfl rfl
  · rw [if_pos hc4] at h
    refine g_bipush (pc := 8) (v := (-2 : Int32)) dX11_adds_8 rfl ?_
    cases h
    exact r_iret dX11_adds_10 rfl rfl rfl

def l_X11_working_4  : Nat → Int32 → Int32 → gMem → Option (Int32 × Int32 × gMem)
  | 0, _, _, _ => none
  | n + 1, i1, i2, μ =>
  if (μ 140 1) ≤ i2 then
  (some (i1, i2, μ))
else
  (if inb ((0 : Int32) + i2) 35 = true then
  lt (if (μ 142 ((0 : Int32) + i2).toNatClampNeg) = 0 then (0 : Int32) else ((1 : Int32) <<< (i2 &&& 31))) (fun x7 =>
  lt (i1 ||| x7) (fun x10 =>
  lt (i2 + Int32.ofInt 1) (fun x12 =>
  l_X11_working_4 n x10 x12 μ))) else none)
def f_X11_working  (μ : gMem) : Option (Int32 × gMem) :=
  (l_X11_working_4 gF (0 : Int32) (0 : Int32) μ).bind (fun p15 =>
  some (p15.1, p15.2.2))
set_option maxRecDepth 100000 in
set_option maxHeartbeats 4000000 in
theorem cl_X11_working_4 {κ : Nat → Nat} {N : Nat} {Q : rQ} (hN : 151 ≤ N)   : ∀ (n : Nat) (i1 : Int32) (i2 : Int32) (μ : gMem) (p : Int32 × Int32 × gMem), l_X11_working_4 n i1 i2 μ = some p → RR κ N 1 iX11_working 39 [(0, .ref (κ 0 + 140)), (1, .int p.1), (2, .int p.2.1)] [] p.2.2 Q → RR κ N 1 iX11_working 4 [(0, .ref (κ 0 + 140)), (1, .int i1), (2, .int i2)] [] μ Q := by
  intro n
  induction n with
  | zero =>
    intro i1 i2 μ p h k
    unfold l_X11_working_4 at h
    cases h
  | succ n ih =>
    intro i1 i2 μ p h k
    unfold l_X11_working_4 at h
    refine g_iload_n (pc := 4) dX11_working_4 rfl rfl ?_
    refine g_aload_n (pc := 5) dX11_working_5 rfl rfl ?_
    refine gf_X11_45 (pc := 6) rfl dX11_working_6 (Nat.lt_of_lt_of_le (by decide) hN) kd_140 ?_
    refine g_icmp_ge (pc := 9) 39 dX11_working_9 (by decide) (fun hc5 => ?_) (fun hc5 => ?_)
    · rw [if_pos hc5] at h
      cases h
      exact k
    · rw [if_neg hc5] at h
      refine g_iload_n (pc := 12) dX11_working_12 rfl rfl ?_
      refine g_aload_n (pc := 13) dX11_working_13 rfl rfl ?_
      refine gf_X11_13 (pc := 14) rfl dX11_working_14 (Nat.lt_of_lt_of_le (by decide) hN) kd_140 ?_
      refine g_iconst (pc := 17) (v := (0 : Int32)) dX11_working_17 rfl ?_
      refine g_iload_n (pc := 18) dX11_working_18 rfl rfl ?_
      refine g_iadd (pc := 19) dX11_working_19 ?_
      obtain ⟨hg6, h⟩ := gd_some h
      refine r_iald (pc := 20) 35 dX11_working_20 (Nat.lt_of_lt_of_le (by decide) hN) kd_142 ln_142 hg6 ?_
      have key9 : ∀ x7 : Int32, x7 = (if (μ 142 ((0 : Int32) + i2).toNatClampNeg) = 0 then (0 : Int32) else ((1 : Int32) <<< (i2 &&& 31))) → RR κ N 1 iX11_working 31 [(0, .ref (κ 0 + 140)), (1, .int i1), (2, .int i2)] [.int x7, .int i1] μ Q := by
        intro x7 e8
        rw [lt_of e8] at h
        refine g_ior (pc := 31) dX11_working_31 ?_
        refine g_istore_n (pc := 32) (lv' := fun y => [(0, .ref (κ 0 + 140)), (1, .int y), (2, .int i2)]) dX11_working_32 rfl (Nat.le_of_ble_eq_true rfl) (fun _ => rfl) (fun x10 e11 => ?_)
        rw [lt_of e11] at h
        refine g_iinc (pc := 33) (lv' := fun y => [(0, .ref (κ 0 + 140)), (1, .int x10), (2, .int y)]) dX11_working_33 rfl (Nat.le_of_ble_eq_true rfl) (fun _ => rfl) (fun x12 e13 => ?_)
        rw [lt_of e13] at h
        refine g_goto (pc := 36) 4 dX11_working_36 (by decide) ?_
        refine g_lv (lv' := [(0, .ref (κ 0 + 140)), (1, .int x10), (2, .int x12)]) rfl ?_
        exact ih _ _ _ _ h k
      refine g_if_eq (pc := 21) 30 dX11_working_21 (by decide) (fun hc14 => ?_) (fun hc14 => ?_)
      · refine g_iconst (pc := 30) (v := (0 : Int32)) dX11_working_30 rfl ?_
        exact key9 _ (by rw [if_pos hc14])
      · refine g_iconst (pc := 24) (v := (1 : Int32)) dX11_working_24 rfl ?_
        refine g_iload_n (pc := 25) dX11_working_25 rfl rfl ?_
        refine g_ishl (pc := 26) dX11_working_26 ?_
        refine g_goto (pc := 27) 31 dX11_working_27 (by decide) ?_
        exact key9 _ (by rw [if_neg hc14])
set_option maxRecDepth 100000 in
set_option maxHeartbeats 4000000 in
theorem c_X11_working {κ : Nat → Nat} {N : Nat} (hN : 151 ≤ N)   (μ : gMem) {r : Int32} {μ' : gMem} (h : f_X11_working  μ = some (r, μ')) : CT2 κ N 1 yX11_working iX11_working [.ref (κ 0 + 140)] μ (qI r μ') := by
  refine CT2.of (by decide) rfl rfl (Nat.le_of_ble_eq_true rfl) ?_
  unfold f_X11_working at h
  show RR κ N 1 iX11_working 0 [(0, .ref (κ 0 + 140))] [] μ _
  refine g_iconst (pc := 0) (v := (0 : Int32)) dX11_working_0 rfl ?_
  refine g_istore_n (pc := 1) (lv' := fun y => [(0, .ref (κ 0 + 140)), (1, .int y)]) dX11_working_1 rfl (Nat.le_of_ble_eq_true rfl) (fun _ => rfl) (fun y1 e2 => ?_)
  rw [e2]
  refine g_iconst (pc := 2) (v := (0 : Int32)) dX11_working_2 rfl ?_
  refine g_istore_n (pc := 3) (lv' := fun y => [(0, .ref (κ 0 + 140)), (1, .int (0 : Int32)), (2, .int y)]) dX11_working_3 rfl (Nat.le_of_ble_eq_true rfl) (fun _ => rfl) (fun y3 e4 => ?_)
  rw [e4]
  obtain ⟨p15, hp16, h⟩ := Option.bind_eq_some_iff.mp h
  refine cl_X11_working_4 hN   gF (0 : Int32) (0 : Int32) _ _ hp16 ?_
  refine g_iload_n (pc := 39) dX11_working_39 rfl rfl ?_
  cases h
  exact r_iret dX11_working_40 rfl rfl rfl

def l_X11_fewest_64 (i1 : Int32) (i2 : Int32) (i3 : Int32) (i4 : Int32) : Nat → Int32 → gMem → Option (Int32 × gMem)
  | 0, _, _ => none
  | n + 1, i5, μ =>
  if (μ 140 1) ≤ i5 then
  (some (i5, μ))
else
  ((f_X11_has i4 i5 μ).bind (fun p24 =>
  if p24.1 = 0 then
  ((f_X11_restNow i5 p24.2).bind (fun m30 =>
  lt (i5 + Int32.ofInt 1) (fun x31 =>
  l_X11_fewest_64 i1 i2 i3 i4 n x31 m30)))
else
  (lt (i5 + Int32.ofInt 1) (fun x27 =>
  l_X11_fewest_64 i1 i2 i3 i4 n x27 p24.2))))
def l_X11_fewest_25 (i1 : Int32) (i2 : Int32) : Nat → Int32 → Int32 → gMem → Option (Int32 × Int32 × gMem)
  | 0, _, _, _ => none
  | n + 1, i3, i4, μ =>
  if ((1 : Int32) <<< ((μ 140 1) &&& 31)) ≤ i4 then
  (some (i3, i4, μ))
else
  (if (i4 &&& (i2 ^^^ (-1 : Int32))) = 0 then
  (if i3 < 0 then
  ((l_X11_fewest_64 i1 i2 i3 i4 gF (0 : Int32) μ).bind (fun p33 =>
  (f_X11_fullIn i1 p33.2).bind (fun p36 =>
  lt (if p36.1 ≤ 0 then i3 else i4) (fun x37 =>
  lt (i4 + Int32.ofInt 1) (fun x42 =>
  l_X11_fewest_25 i1 i2 n x37 x42 p36.2)))))
else
  ((f_X11_ones i4 μ).bind (fun p46 =>
  (f_X11_ones i3 p46.2).bind (fun p48 =>
  if p48.1 ≤ p46.1 then
  (lt (i4 + Int32.ofInt 1) (fun x50 =>
  l_X11_fewest_25 i1 i2 n i3 x50 p48.2))
else
  ((l_X11_fewest_64 i1 i2 i3 i4 gF (0 : Int32) p48.2).bind (fun p54 =>
  (f_X11_fullIn i1 p54.2).bind (fun p57 =>
  lt (if p57.1 ≤ 0 then i3 else i4) (fun x58 =>
  lt (i4 + Int32.ofInt 1) (fun x63 =>
  l_X11_fewest_25 i1 i2 n x58 x63 p57.2)))))))))
else
  (lt (i4 + Int32.ofInt 1) (fun x17 =>
  l_X11_fewest_25 i1 i2 n i3 x17 μ)))
def f_X11_fewest (i1 : Int32) (μ : gMem) : Option (Int32 × gMem) :=
  (f_X11_isFar i1 (1 : Int32) μ).bind (fun p2 =>
  if p2.1 = 0 then
  (some ((-3 : Int32), p2.2))
else
  ((f_X11_putAside  p2.2).bind (fun m6 =>
  (f_X11_working  m6).bind (fun p8 =>
  lt p8.1 (fun x9 =>
  (l_X11_fewest_25 i1 x9 gF (-1 : Int32) (0 : Int32) p8.2).bind (fun p66 =>
  some (p66.1, p66.2.2)))))))
set_option maxRecDepth 100000 in
set_option maxHeartbeats 4000000 in
theorem cl_X11_fewest_64 {κ : Nat → Nat} {N : Nat} {Q : rQ} (hN : 151 ≤ N) (i1 : Int32) (i2 : Int32) (i3 : Int32) (i4 : Int32)  : ∀ (n : Nat) (i5 : Int32) (μ : gMem) (p : Int32 × gMem), l_X11_fewest_64 i1 i2 i3 i4 n i5 μ = some p → RR κ N 7 iX11_fewest 95 [(0, .ref (κ 0 + 140)), (1, .int i1), (2, .int i2), (3, .int i3), (4, .int i4), (5, .int p.1)] [] p.2 Q → RR κ N 7 iX11_fewest 64 [(0, .ref (κ 0 + 140)), (1, .int i1), (2, .int i2), (3, .int i3), (4, .int i4), (5, .int i5)] [] μ Q := by
  intro n
  induction n with
  | zero =>
    intro i5 μ p h k
    unfold l_X11_fewest_64 at h
    cases h
  | succ n ih =>
    intro i5 μ p h k
    unfold l_X11_fewest_64 at h
    refine g_iload (pc := 64) dX11_fewest_64 rfl ?_
    refine g_aload_n (pc := 66) dX11_fewest_66 rfl rfl ?_
    refine gf_X11_45 (pc := 67) rfl dX11_fewest_67 (Nat.lt_of_lt_of_le (by decide) hN) kd_140 ?_
    refine g_icmp_ge (pc := 70) 95 dX11_fewest_70 (by decide) (fun hc22 => ?_) (fun hc22 => ?_)
    · rw [if_pos hc22] at h
      cases h
      exact k
    · rw [if_neg hc22] at h
      refine g_iload (pc := 73) dX11_fewest_73 rfl ?_
      refine g_iload (pc := 75) dX11_fewest_75 rfl ?_
      obtain ⟨p24, hp23, h⟩ := Option.bind_eq_some_iff.mp h
      refine r_callS (pc := 77) (c_X11_has hN i4 i5 μ hp23) yS_X11_has pX11_has mL_X11_203 dX11_fewest_77 (Nat.le_of_ble_eq_true rfl) (Nat.le_of_ble_eq_true rfl) rfl (rK_z (fun hz25 => ?_))
      refine g_if_ne (pc := 80) 89 dX11_fewest_80 (by decide) (fun hc26 => ?_) (fun hc26 => ?_)
      · rw [if_neg hc26] at h
        refine g_iinc (pc := 89) (lv' := fun y => [(0, .ref (κ 0 + 140)), (1, .int i1), (2, .int i2), (3, .int i3), (4, .int i4), (5, .int y)]) dX11_fewest_89 rfl (Nat.le_of_ble_eq_true rfl) (fun _ => rfl) (fun x27 e28 => ?_)
        rw [lt_of e28] at h
        refine g_goto (pc := 92) 64 dX11_fewest_92 (by decide) ?_
        refine g_lv (lv' := [(0, .ref (κ 0 + 140)), (1, .int i1), (2, .int i2), (3, .int i3), (4, .int i4), (5, .int x27)]) rfl ?_
        exact ih _ _ _ h k
      · rw [if_pos hc26] at h
        refine g_aload_n (pc := 83) dX11_fewest_83 rfl rfl ?_
        refine g_iload (pc := 84) dX11_fewest_84 rfl ?_
        obtain ⟨m30, hp29, h⟩ := Option.bind_eq_some_iff.mp h
        refine r_callV (ci := 10) (pc := 86) (c_X11_restNow hN i5 p24.2 hp29) yV_X11_restNow ⟨rfl, by decide⟩ pX11_restNow mL_X11_165 dX11_fewest_86 (Nat.le_of_ble_eq_true rfl) (Nat.le_of_ble_eq_true rfl) (Nat.lt_of_lt_of_le (by decide) hN) kd_140 rfl (rK_v ?_)
        refine g_iinc (pc := 89) (lv' := fun y => [(0, .ref (κ 0 + 140)), (1, .int i1), (2, .int i2), (3, .int i3), (4, .int i4), (5, .int y)]) dX11_fewest_89 rfl (Nat.le_of_ble_eq_true rfl) (fun _ => rfl) (fun x31 e32 => ?_)
        rw [lt_of e32] at h
        refine g_goto (pc := 92) 64 dX11_fewest_92 (by decide) ?_
        refine g_lv (lv' := [(0, .ref (κ 0 + 140)), (1, .int i1), (2, .int i2), (3, .int i3), (4, .int i4), (5, .int x31)]) rfl ?_
        exact ih _ _ _ h k
set_option maxRecDepth 100000 in
set_option maxHeartbeats 4000000 in
theorem cl_X11_fewest_25 {κ : Nat → Nat} {N : Nat} {Q : rQ} (hN : 151 ≤ N) (i1 : Int32) (i2 : Int32)  : ∀ (n : Nat) (i3 : Int32) (i4 : Int32) (μ : gMem) (p : Int32 × Int32 × gMem), l_X11_fewest_25 i1 i2 n i3 i4 μ = some p → RR κ N 7 iX11_fewest 116 [(0, .ref (κ 0 + 140)), (1, .int i1), (2, .int i2), (3, .int p.1), (4, .int p.2.1)] [] p.2.2 Q → RR κ N 7 iX11_fewest 25 [(0, .ref (κ 0 + 140)), (1, .int i1), (2, .int i2), (3, .int i3), (4, .int i4)] [] μ Q := by
  intro n
  induction n with
  | zero =>
    intro i3 i4 μ p h k
    unfold l_X11_fewest_25 at h
    cases h
  | succ n ih =>
    intro i3 i4 μ p h k
    unfold l_X11_fewest_25 at h
    refine g_iload (pc := 25) dX11_fewest_25 rfl ?_
    refine g_iconst (pc := 27) (v := (1 : Int32)) dX11_fewest_27 rfl ?_
    refine g_aload_n (pc := 28) dX11_fewest_28 rfl rfl ?_
    refine gf_X11_45 (pc := 29) rfl dX11_fewest_29 (Nat.lt_of_lt_of_le (by decide) hN) kd_140 ?_
    refine g_ishl (pc := 32) dX11_fewest_32 ?_
    refine g_icmp_ge (pc := 33) 116 dX11_fewest_33 (by decide) (fun hc15 => ?_) (fun hc15 => ?_)
    · rw [if_pos hc15] at h
      cases h
      exact k
    · rw [if_neg hc15] at h
      refine g_iload (pc := 36) dX11_fewest_36 rfl ?_
      refine g_iload_n (pc := 38) dX11_fewest_38 rfl rfl ?_
      refine g_iconst (pc := 39) (v := (-1 : Int32)) dX11_fewest_39 rfl ?_
      refine g_ixor (pc := 40) dX11_fewest_40 ?_
      refine g_iand (pc := 41) dX11_fewest_41 ?_
      refine g_if_ne (pc := 42) 110 dX11_fewest_42 (by decide) (fun hc16 => ?_) (fun hc16 => ?_)
      · rw [if_neg hc16] at h
        refine g_iinc (pc := 110) (lv' := fun y => [(0, .ref (κ 0 + 140)), (1, .int i1), (2, .int i2), (3, .int i3), (4, .int y)]) dX11_fewest_110 rfl (Nat.le_of_ble_eq_true rfl) (fun _ => rfl) (fun x17 e18 => ?_)
        rw [lt_of e18] at h
        refine g_goto (pc := 113) 25 dX11_fewest_113 (by decide) ?_
        refine g_lv (lv' := [(0, .ref (κ 0 + 140)), (1, .int i1), (2, .int i2), (3, .int i3), (4, .int x17)]) rfl ?_
        exact ih _ _ _ _ h k
      · rw [if_pos hc16] at h
        refine g_iload_n (pc := 45) dX11_fewest_45 rfl rfl ?_
        refine g_if_lt (pc := 46) 61 dX11_fewest_46 (by decide) (fun hc19 => ?_) (fun hc19 => ?_)
        · rw [if_pos hc19] at h
          refine g_iconst (pc := 61) (v := (0 : Int32)) dX11_fewest_61 rfl ?_
          refine g_istore (pc := 62) (lv' := fun y => [(0, .ref (κ 0 + 140)), (1, .int i1), (2, .int i2), (3, .int i3), (4, .int i4), (5, .int y)]) dX11_fewest_62 (Nat.le_of_ble_eq_true rfl) (fun _ => rfl) (fun y20 e21 => ?_)
          rw [e21]
          obtain ⟨p33, hp34, h⟩ := Option.bind_eq_some_iff.mp h
          refine cl_X11_fewest_64 hN i1 i2 i3 i4  gF (0 : Int32) _ _ hp34 ?_
          refine g_aload_n (pc := 95) dX11_fewest_95 rfl rfl ?_
          refine g_iload_n (pc := 96) dX11_fewest_96 rfl rfl ?_
          obtain ⟨p36, hp35, h⟩ := Option.bind_eq_some_iff.mp h
          refine r_callV (ci := 10) (pc := 97) (c_X11_fullIn hN i1 p33.2 hp35) yV_X11_fullIn ⟨rfl, by decide⟩ pX11_fullIn mL_X11_194 dX11_fewest_97 (Nat.le_of_ble_eq_true rfl) (Nat.le_of_ble_eq_true rfl) (Nat.lt_of_lt_of_le (by decide) hN) kd_140 rfl (rK_i ?_)
          have key39 : ∀ x37 : Int32, x37 = (if p36.1 ≤ 0 then i3 else i4) → RR κ N 7 iX11_fewest 109 [(0, .ref (κ 0 + 140)), (1, .int i1), (2, .int i2), (3, .int i3), (4, .int i4), (5, .int p33.1)] [.int x37] p36.2 Q := by
            intro x37 e38
            rw [lt_of e38] at h
            refine g_istore_n (pc := 109) (lv' := fun y => [(0, .ref (κ 0 + 140)), (1, .int i1), (2, .int i2), (3, .int y), (4, .int i4), (5, .int p33.1)]) dX11_fewest_109 rfl (Nat.le_of_ble_eq_true rfl) (fun _ => rfl) (fun y40 e41 => ?_)
            rw [e41]
            refine g_iinc (pc := 110) (lv' := fun y => [(0, .ref (κ 0 + 140)), (1, .int i1), (2, .int i2), (3, .int x37), (4, .int y), (5, .int p33.1)]) dX11_fewest_110 rfl (Nat.le_of_ble_eq_true rfl) (fun _ => rfl) (fun x42 e43 => ?_)
            rw [lt_of e43] at h
            refine g_goto (pc := 113) 25 dX11_fewest_113 (by decide) ?_
            refine g_lv (lv' := [(0, .ref (κ 0 + 140)), (1, .int i1), (2, .int i2), (3, .int x37), (4, .int x42)]) rfl ?_
            exact ih _ _ _ _ h k
          refine g_if_le (pc := 100) 108 dX11_fewest_100 (by decide) (fun hc44 => ?_) (fun hc44 => ?_)
          · refine g_iload_n (pc := 108) dX11_fewest_108 rfl rfl ?_
            exact key39 _ (by rw [if_pos hc44])
          · refine g_iload (pc := 103) dX11_fewest_103 rfl ?_
            refine g_goto (pc := 105) 109 dX11_fewest_105 (by decide) ?_
            exact key39 _ (by rw [if_neg hc44])
        · rw [if_neg hc19] at h
          refine g_iload (pc := 49) dX11_fewest_49 rfl ?_
          obtain ⟨p46, hp45, h⟩ := Option.bind_eq_some_iff.mp h
          refine r_callS (pc := 51) (c_X11_ones hN i4 μ hp45) yS_X11_ones pX11_ones mL_X11_200 dX11_fewest_51 (Nat.le_of_ble_eq_true rfl) (Nat.le_of_ble_eq_true rfl) rfl (rK_i ?_)
          refine g_iload_n (pc := 54) dX11_fewest_54 rfl rfl ?_
          obtain ⟨p48, hp47, h⟩ := Option.bind_eq_some_iff.mp h
          refine r_callS (pc := 55) (c_X11_ones hN i3 p46.2 hp47) yS_X11_ones pX11_ones mL_X11_200 dX11_fewest_55 (Nat.le_of_ble_eq_true rfl) (Nat.le_of_ble_eq_true rfl) rfl (rK_i ?_)
          refine g_icmp_ge (pc := 58) 110 dX11_fewest_58 (by decide) (fun hc49 => ?_) (fun hc49 => ?_)
          · rw [if_pos hc49] at h
            refine g_iinc (pc := 110) (lv' := fun y => [(0, .ref (κ 0 + 140)), (1, .int i1), (2, .int i2), (3, .int i3), (4, .int y)]) dX11_fewest_110 rfl (Nat.le_of_ble_eq_true rfl) (fun _ => rfl) (fun x50 e51 => ?_)
            rw [lt_of e51] at h
            refine g_goto (pc := 113) 25 dX11_fewest_113 (by decide) ?_
            refine g_lv (lv' := [(0, .ref (κ 0 + 140)), (1, .int i1), (2, .int i2), (3, .int i3), (4, .int x50)]) rfl ?_
            exact ih _ _ _ _ h k
          · rw [if_neg hc49] at h
            refine g_iconst (pc := 61) (v := (0 : Int32)) dX11_fewest_61 rfl ?_
            refine g_istore (pc := 62) (lv' := fun y => [(0, .ref (κ 0 + 140)), (1, .int i1), (2, .int i2), (3, .int i3), (4, .int i4), (5, .int y)]) dX11_fewest_62 (Nat.le_of_ble_eq_true rfl) (fun _ => rfl) (fun y52 e53 => ?_)
            rw [e53]
            obtain ⟨p54, hp55, h⟩ := Option.bind_eq_some_iff.mp h
            refine cl_X11_fewest_64 hN i1 i2 i3 i4  gF (0 : Int32) _ _ hp55 ?_
            refine g_aload_n (pc := 95) dX11_fewest_95 rfl rfl ?_
            refine g_iload_n (pc := 96) dX11_fewest_96 rfl rfl ?_
            obtain ⟨p57, hp56, h⟩ := Option.bind_eq_some_iff.mp h
            refine r_callV (ci := 10) (pc := 97) (c_X11_fullIn hN i1 p54.2 hp56) yV_X11_fullIn ⟨rfl, by decide⟩ pX11_fullIn mL_X11_194 dX11_fewest_97 (Nat.le_of_ble_eq_true rfl) (Nat.le_of_ble_eq_true rfl) (Nat.lt_of_lt_of_le (by decide) hN) kd_140 rfl (rK_i ?_)
            have key60 : ∀ x58 : Int32, x58 = (if p57.1 ≤ 0 then i3 else i4) → RR κ N 7 iX11_fewest 109 [(0, .ref (κ 0 + 140)), (1, .int i1), (2, .int i2), (3, .int i3), (4, .int i4), (5, .int p54.1)] [.int x58] p57.2 Q := by
              intro x58 e59
              rw [lt_of e59] at h
              refine g_istore_n (pc := 109) (lv' := fun y => [(0, .ref (κ 0 + 140)), (1, .int i1), (2, .int i2), (3, .int y), (4, .int i4), (5, .int p54.1)]) dX11_fewest_109 rfl (Nat.le_of_ble_eq_true rfl) (fun _ => rfl) (fun y61 e62 => ?_)
              rw [e62]
              refine g_iinc (pc := 110) (lv' := fun y => [(0, .ref (κ 0 + 140)), (1, .int i1), (2, .int i2), (3, .int x58), (4, .int y), (5, .int p54.1)]) dX11_fewest_110 rfl (Nat.le_of_ble_eq_true rfl) (fun _ => rfl) (fun x63 e64 => ?_)
              rw [lt_of e64] at h
              refine g_goto (pc := 113) 25 dX11_fewest_113 (by decide) ?_
              refine g_lv (lv' := [(0, .ref (κ 0 + 140)), (1, .int i1), (2, .int i2), (3, .int x58), (4, .int x63)]) rfl ?_
              exact ih _ _ _ _ h k
            refine g_if_le (pc := 100) 108 dX11_fewest_100 (by decide) (fun hc65 => ?_) (fun hc65 => ?_)
            · refine g_iload_n (pc := 108) dX11_fewest_108 rfl rfl ?_
              exact key60 _ (by rw [if_pos hc65])
            · refine g_iload (pc := 103) dX11_fewest_103 rfl ?_
              refine g_goto (pc := 105) 109 dX11_fewest_105 (by decide) ?_
              exact key60 _ (by rw [if_neg hc65])
set_option maxRecDepth 100000 in
set_option maxHeartbeats 4000000 in
theorem c_X11_fewest {κ : Nat → Nat} {N : Nat} (hN : 151 ≤ N) (i1 : Int32)  (μ : gMem) {r : Int32} {μ' : gMem} (h : f_X11_fewest i1 μ = some (r, μ')) : CT2 κ N 7 yX11_fewest iX11_fewest [.ref (κ 0 + 140), .int i1] μ (qI r μ') := by
  refine CT2.of (by decide) rfl rfl (Nat.le_of_ble_eq_true rfl) ?_
  unfold f_X11_fewest at h
  show RR κ N 7 iX11_fewest 0 [(0, .ref (κ 0 + 140)), (1, .int i1)] [] μ _
  refine g_iload_n (pc := 0) dX11_fewest_0 rfl rfl ?_
  refine g_iconst (pc := 1) (v := (1 : Int32)) dX11_fewest_1 rfl ?_
  obtain ⟨p2, hp1, h⟩ := Option.bind_eq_some_iff.mp h
  refine r_callS (pc := 2) (c_X11_isFar hN i1 (1 : Int32) μ hp1) yS_X11_isFar pX11_isFar mL_X11_181 dX11_fewest_2 (Nat.le_of_ble_eq_true rfl) (Nat.le_of_ble_eq_true rfl) rfl (rK_z (fun hz3 => ?_))
  refine g_if_ne (pc := 5) 11 dX11_fewest_5 (by decide) (fun hc4 => ?_) (fun hc4 => ?_)
  · rw [if_neg hc4] at h
    refine g_aload_n (pc := 11) dX11_fewest_11 rfl rfl ?_
    obtain ⟨m6, hp5, h⟩ := Option.bind_eq_some_iff.mp h
    refine r_callV (ci := 10) (pc := 12) (c_X11_putAside hN  p2.2 hp5) yV_X11_putAside ⟨rfl, by decide⟩ pX11_putAside mL_X11_185 dX11_fewest_12 (Nat.le_of_ble_eq_true rfl) (Nat.le_of_ble_eq_true rfl) (Nat.lt_of_lt_of_le (by decide) hN) kd_140 rfl (rK_v ?_)
    refine g_aload_n (pc := 15) dX11_fewest_15 rfl rfl ?_
    obtain ⟨p8, hp7, h⟩ := Option.bind_eq_some_iff.mp h
    refine r_callV (ci := 10) (pc := 16) (c_X11_working hN  m6 hp7) yV_X11_working ⟨rfl, by decide⟩ pX11_working mL_X11_197 dX11_fewest_16 (Nat.le_of_ble_eq_true rfl) (Nat.le_of_ble_eq_true rfl) (Nat.lt_of_lt_of_le (by decide) hN) kd_140 rfl (rK_i ?_)
    refine g_istore_n (pc := 19) (lv' := fun y => [(0, .ref (κ 0 + 140)), (1, .int i1), (2, .int y)]) dX11_fewest_19 rfl (Nat.le_of_ble_eq_true rfl) (fun _ => rfl) (fun x9 e10 => ?_)
    rw [lt_of e10] at h
    refine g_iconst (pc := 20) (v := (-1 : Int32)) dX11_fewest_20 rfl ?_
    refine g_istore_n (pc := 21) (lv' := fun y => [(0, .ref (κ 0 + 140)), (1, .int i1), (2, .int x9), (3, .int y)]) dX11_fewest_21 rfl (Nat.le_of_ble_eq_true rfl) (fun _ => rfl) (fun y11 e12 => ?_)
    rw [e12]
    refine g_iconst (pc := 22) (v := (0 : Int32)) dX11_fewest_22 rfl ?_
    refine g_istore (pc := 23) (lv' := fun y => [(0, .ref (κ 0 + 140)), (1, .int i1), (2, .int x9), (3, .int (-1 : Int32)), (4, .int y)]) dX11_fewest_23 (Nat.le_of_ble_eq_true rfl) (fun _ => rfl) (fun y13 e14 => ?_)
    rw [e14]
    obtain ⟨p66, hp67, h⟩ := Option.bind_eq_some_iff.mp h
    refine cl_X11_fewest_25 hN i1 x9  gF (-1 : Int32) (0 : Int32) _ _ hp67 ?_
    refine g_iload_n (pc := 116) dX11_fewest_116 rfl rfl ?_
    cases h
    exact r_iret dX11_fewest_117 rfl rfl rfl
  · rw [if_pos hc4] at h
    refine g_bipush (pc := 8) (v := (-3 : Int32)) dX11_fewest_8 rfl ?_
    cases h
    exact r_iret dX11_fewest_10 rfl rfl rfl

def l_X11_highestBy_20 (i1 : Int32) (i2 : Int32) (i3 : Int32) (i4 : Int32) : Nat → Int32 → gMem → Option (Int32 × gMem)
  | 0, _, _ => none
  | n + 1, i5, μ =>
  if (μ 140 1) ≤ i5 then
  (some (i5, μ))
else
  ((f_X11_has i2 i5 μ).bind (fun p10 =>
  if p10.1 = 0 then
  (lt (i5 + Int32.ofInt 1) (fun x13 =>
  l_X11_highestBy_20 i1 i2 i3 i4 n x13 p10.2))
else
  (if inb i5 5 = true then
  if (p10.2 149 i5.toNatClampNeg) = i4 then
  ((f_X11_draws i5 p10.2).bind (fun m20 =>
  lt (i5 + Int32.ofInt 1) (fun x21 =>
  l_X11_highestBy_20 i1 i2 i3 i4 n x21 m20)))
else
  (lt (i5 + Int32.ofInt 1) (fun x17 =>
  l_X11_highestBy_20 i1 i2 i3 i4 n x17 p10.2)) else none)))
def l_X11_highestBy_11 (i1 : Int32) (i2 : Int32) : Nat → Int32 → Int32 → gMem → Option (Int32 × Int32 × gMem)
  | 0, _, _, _ => none
  | n + 1, i3, i4, μ =>
  if i1 ≤ i4 then
  (some (i3, i4, μ))
else
  ((l_X11_highestBy_20 i1 i2 i3 i4 gF (0 : Int32) μ).bind (fun p23 =>
  (f_X11_oneMinute  p23.2).bind (fun p26 =>
  lt p26.1 (fun x27 =>
  lt (if x27 ≤ i3 then i3 else x27) (fun x29 =>
  lt (i4 + Int32.ofInt 1) (fun x34 =>
  l_X11_highestBy_11 i1 i2 n x29 x34 p26.2))))))
def f_X11_highestBy (i1 : Int32) (i2 : Int32) (μ : gMem) : Option (Int32 × gMem) :=
  lt (μ 142 (31 : Int32).toNatClampNeg) (fun x1 =>
  (l_X11_highestBy_11 i1 i2 gF x1 (0 : Int32) μ).bind (fun p37 =>
  (f_X11_takeBack  p37.2.2).bind (fun m40 =>
  some (p37.1, m40))))
set_option maxRecDepth 100000 in
set_option maxHeartbeats 4000000 in
theorem cl_X11_highestBy_20 {κ : Nat → Nat} {N : Nat} {Q : rQ} (hN : 151 ≤ N) (i1 : Int32) (i2 : Int32) (i3 : Int32) (i4 : Int32)  : ∀ (n : Nat) (i5 : Int32) (μ : gMem) (p : Int32 × gMem), l_X11_highestBy_20 i1 i2 i3 i4 n i5 μ = some p → RR κ N 6 iX11_highestBy 62 [(0, .ref (κ 0 + 140)), (1, .int i1), (2, .int i2), (3, .int i3), (4, .int i4), (5, .int p.1)] [] p.2 Q → RR κ N 6 iX11_highestBy 20 [(0, .ref (κ 0 + 140)), (1, .int i1), (2, .int i2), (3, .int i3), (4, .int i4), (5, .int i5)] [] μ Q := by
  intro n
  induction n with
  | zero =>
    intro i5 μ p h k
    unfold l_X11_highestBy_20 at h
    cases h
  | succ n ih =>
    intro i5 μ p h k
    unfold l_X11_highestBy_20 at h
    refine g_iload (pc := 20) dX11_highestBy_20 rfl ?_
    refine g_aload_n (pc := 22) dX11_highestBy_22 rfl rfl ?_
    refine gf_X11_45 (pc := 23) rfl dX11_highestBy_23 (Nat.lt_of_lt_of_le (by decide) hN) kd_140 ?_
    refine g_icmp_ge (pc := 26) 62 dX11_highestBy_26 (by decide) (fun hc8 => ?_) (fun hc8 => ?_)
    · rw [if_pos hc8] at h
      cases h
      exact k
    · rw [if_neg hc8] at h
      refine g_iload_n (pc := 29) dX11_highestBy_29 rfl rfl ?_
      refine g_iload (pc := 30) dX11_highestBy_30 rfl ?_
      obtain ⟨p10, hp9, h⟩ := Option.bind_eq_some_iff.mp h
      refine r_callS (pc := 32) (c_X11_has hN i2 i5 μ hp9) yS_X11_has pX11_has mL_X11_203 dX11_highestBy_32 (Nat.le_of_ble_eq_true rfl) (Nat.le_of_ble_eq_true rfl) rfl (rK_z (fun hz11 => ?_))
      refine g_if_eq (pc := 35) 56 dX11_highestBy_35 (by decide) (fun hc12 => ?_) (fun hc12 => ?_)
      · rw [if_pos hc12] at h
        refine g_iinc (pc := 56) (lv' := fun y => [(0, .ref (κ 0 + 140)), (1, .int i1), (2, .int i2), (3, .int i3), (4, .int i4), (5, .int y)]) dX11_highestBy_56 rfl (Nat.le_of_ble_eq_true rfl) (fun _ => rfl) (fun x13 e14 => ?_)
        rw [lt_of e14] at h
        refine g_goto (pc := 59) 20 dX11_highestBy_59 (by decide) ?_
        refine g_lv (lv' := [(0, .ref (κ 0 + 140)), (1, .int i1), (2, .int i2), (3, .int i3), (4, .int i4), (5, .int x13)]) rfl ?_
        exact ih _ _ _ h k
      · rw [if_neg hc12] at h
        refine g_aload_n (pc := 38) dX11_highestBy_38 rfl rfl ?_
        refine gf_X11_35 (pc := 39) rfl dX11_highestBy_39 (Nat.lt_of_lt_of_le (by decide) hN) kd_140 ?_
        refine g_iload (pc := 42) dX11_highestBy_42 rfl ?_
        obtain ⟨hg15, h⟩ := gd_some h
        refine r_iald (pc := 44) 5 dX11_highestBy_44 (Nat.lt_of_lt_of_le (by decide) hN) kd_149 ln_149 hg15 ?_
        refine g_iload (pc := 45) dX11_highestBy_45 rfl ?_
        refine g_icmp_ne (pc := 47) 56 dX11_highestBy_47 (by decide) (fun hc16 => ?_) (fun hc16 => ?_)
        · rw [if_neg hc16] at h
          refine g_iinc (pc := 56) (lv' := fun y => [(0, .ref (κ 0 + 140)), (1, .int i1), (2, .int i2), (3, .int i3), (4, .int i4), (5, .int y)]) dX11_highestBy_56 rfl (Nat.le_of_ble_eq_true rfl) (fun _ => rfl) (fun x17 e18 => ?_)
          rw [lt_of e18] at h
          refine g_goto (pc := 59) 20 dX11_highestBy_59 (by decide) ?_
          refine g_lv (lv' := [(0, .ref (κ 0 + 140)), (1, .int i1), (2, .int i2), (3, .int i3), (4, .int i4), (5, .int x17)]) rfl ?_
          exact ih _ _ _ h k
        · rw [if_pos hc16] at h
          refine g_aload_n (pc := 50) dX11_highestBy_50 rfl rfl ?_
          refine g_iload (pc := 51) dX11_highestBy_51 rfl ?_
          obtain ⟨m20, hp19, h⟩ := Option.bind_eq_some_iff.mp h
          refine r_callV (ci := 10) (pc := 53) (c_X11_draws hN i5 p10.2 hp19) yV_X11_draws ⟨rfl, by decide⟩ pX11_draws mL_X11_155 dX11_highestBy_53 (Nat.le_of_ble_eq_true rfl) (Nat.le_of_ble_eq_true rfl) (Nat.lt_of_lt_of_le (by decide) hN) kd_140 rfl (rK_v ?_)
          refine g_iinc (pc := 56) (lv' := fun y => [(0, .ref (κ 0 + 140)), (1, .int i1), (2, .int i2), (3, .int i3), (4, .int i4), (5, .int y)]) dX11_highestBy_56 rfl (Nat.le_of_ble_eq_true rfl) (fun _ => rfl) (fun x21 e22 => ?_)
          rw [lt_of e22] at h
          refine g_goto (pc := 59) 20 dX11_highestBy_59 (by decide) ?_
          refine g_lv (lv' := [(0, .ref (κ 0 + 140)), (1, .int i1), (2, .int i2), (3, .int i3), (4, .int i4), (5, .int x21)]) rfl ?_
          exact ih _ _ _ h k
set_option maxRecDepth 100000 in
set_option maxHeartbeats 4000000 in
theorem cl_X11_highestBy_11 {κ : Nat → Nat} {N : Nat} {Q : rQ} (hN : 151 ≤ N) (i1 : Int32) (i2 : Int32)  : ∀ (n : Nat) (i3 : Int32) (i4 : Int32) (μ : gMem) (p : Int32 × Int32 × gMem), l_X11_highestBy_11 i1 i2 n i3 i4 μ = some p → RR κ N 6 iX11_highestBy 87 [(0, .ref (κ 0 + 140)), (1, .int i1), (2, .int i2), (3, .int p.1), (4, .int p.2.1)] [] p.2.2 Q → RR κ N 6 iX11_highestBy 11 [(0, .ref (κ 0 + 140)), (1, .int i1), (2, .int i2), (3, .int i3), (4, .int i4)] [] μ Q := by
  intro n
  induction n with
  | zero =>
    intro i3 i4 μ p h k
    unfold l_X11_highestBy_11 at h
    cases h
  | succ n ih =>
    intro i3 i4 μ p h k
    unfold l_X11_highestBy_11 at h
    refine g_iload (pc := 11) dX11_highestBy_11 rfl ?_
    refine g_iload_n (pc := 13) dX11_highestBy_13 rfl rfl ?_
    refine g_icmp_ge (pc := 14) 87 dX11_highestBy_14 (by decide) (fun hc5 => ?_) (fun hc5 => ?_)
    · rw [if_pos hc5] at h
      cases h
      exact k
    · rw [if_neg hc5] at h
      refine g_iconst (pc := 17) (v := (0 : Int32)) dX11_highestBy_17 rfl ?_
      refine g_istore (pc := 18) (lv' := fun y => [(0, .ref (κ 0 + 140)), (1, .int i1), (2, .int i2), (3, .int i3), (4, .int i4), (5, .int y)]) dX11_highestBy_18 (Nat.le_of_ble_eq_true rfl) (fun _ => rfl) (fun y6 e7 => ?_)
      rw [e7]
      obtain ⟨p23, hp24, h⟩ := Option.bind_eq_some_iff.mp h
      refine cl_X11_highestBy_20 hN i1 i2 i3 i4  gF (0 : Int32) _ _ hp24 ?_
      refine g_aload_n (pc := 62) dX11_highestBy_62 rfl rfl ?_
      obtain ⟨p26, hp25, h⟩ := Option.bind_eq_some_iff.mp h
      refine r_callV (ci := 10) (pc := 63) (c_X11_oneMinute hN  p23.2 hp25) yV_X11_oneMinute ⟨rfl, by decide⟩ pX11_oneMinute mL_X11_175 dX11_highestBy_63 (Nat.le_of_ble_eq_true rfl) (Nat.le_of_ble_eq_true rfl) (Nat.lt_of_lt_of_le (by decide) hN) kd_140 rfl (rK_i ?_)
      refine g_istore (pc := 66) (lv' := fun y => [(0, .ref (κ 0 + 140)), (1, .int i1), (2, .int i2), (3, .int i3), (4, .int i4), (5, .int y)]) dX11_highestBy_66 (Nat.le_of_ble_eq_true rfl) (fun _ => rfl) (fun x27 e28 => ?_)
      rw [lt_of e28] at h
      refine g_iload (pc := 68) dX11_highestBy_68 rfl ?_
      refine g_iload_n (pc := 70) dX11_highestBy_70 rfl rfl ?_
      have key31 : ∀ x29 : Int32, x29 = (if x27 ≤ i3 then i3 else x27) → RR κ N 6 iX11_highestBy 80 [(0, .ref (κ 0 + 140)), (1, .int i1), (2, .int i2), (3, .int i3), (4, .int i4), (5, .int x27)] [.int x29] p26.2 Q := by
        intro x29 e30
        rw [lt_of e30] at h
        refine g_istore_n (pc := 80) (lv' := fun y => [(0, .ref (κ 0 + 140)), (1, .int i1), (2, .int i2), (3, .int y), (4, .int i4), (5, .int x27)]) dX11_highestBy_80 rfl (Nat.le_of_ble_eq_true rfl) (fun _ => rfl) (fun y32 e33 => ?_)
        rw [e33]
        refine g_iinc (pc := 81) (lv' := fun y => [(0, .ref (κ 0 + 140)), (1, .int i1), (2, .int i2), (3, .int x29), (4, .int y), (5, .int x27)]) dX11_highestBy_81 rfl (Nat.le_of_ble_eq_true rfl) (fun _ => rfl) (fun x34 e35 => ?_)
        rw [lt_of e35] at h
        refine g_goto (pc := 84) 11 dX11_highestBy_84 (by decide) ?_
        refine g_lv (lv' := [(0, .ref (κ 0 + 140)), (1, .int i1), (2, .int i2), (3, .int x29), (4, .int x34)]) rfl ?_
        exact ih _ _ _ _ h k
      refine g_icmp_le (pc := 71) 79 dX11_highestBy_71 (by decide) (fun hc36 => ?_) (fun hc36 => ?_)
      · refine g_iload_n (pc := 79) dX11_highestBy_79 rfl rfl ?_
        exact key31 _ (by rw [if_pos hc36])
      · refine g_iload (pc := 74) dX11_highestBy_74 rfl ?_
        refine g_goto (pc := 76) 80 dX11_highestBy_76 (by decide) ?_
        exact key31 _ (by rw [if_neg hc36])
set_option maxRecDepth 100000 in
set_option maxHeartbeats 4000000 in
theorem c_X11_highestBy {κ : Nat → Nat} {N : Nat} (hN : 151 ≤ N) (i1 : Int32) (i2 : Int32)  (μ : gMem) {r : Int32} {μ' : gMem} (h : f_X11_highestBy i1 i2 μ = some (r, μ')) : CT2 κ N 6 yX11_highestBy iX11_highestBy [.ref (κ 0 + 140), .int i1, .int i2] μ (qI r μ') := by
  refine CT2.of (by decide) rfl rfl (Nat.le_of_ble_eq_true rfl) ?_
  unfold f_X11_highestBy at h
  show RR κ N 6 iX11_highestBy 0 [(0, .ref (κ 0 + 140)), (1, .int i1), (2, .int i2)] [] μ _
  refine g_aload_n (pc := 0) dX11_highestBy_0 rfl rfl ?_
  refine gf_X11_13 (pc := 1) rfl dX11_highestBy_1 (Nat.lt_of_lt_of_le (by decide) hN) kd_140 ?_
  refine g_bipush (pc := 4) (v := (31 : Int32)) dX11_highestBy_4 rfl ?_
  refine r_iald (pc := 6) 35 dX11_highestBy_6 (Nat.lt_of_lt_of_le (by decide) hN) kd_142 ln_142 (by decide) ?_
  refine g_istore_n (pc := 7) (lv' := fun y => [(0, .ref (κ 0 + 140)), (1, .int i1), (2, .int i2), (3, .int y)]) dX11_highestBy_7 rfl (Nat.le_of_ble_eq_true rfl) (fun _ => rfl) (fun x1 e2 => ?_)
  rw [lt_of e2] at h
  refine g_iconst (pc := 8) (v := (0 : Int32)) dX11_highestBy_8 rfl ?_
  refine g_istore (pc := 9) (lv' := fun y => [(0, .ref (κ 0 + 140)), (1, .int i1), (2, .int i2), (3, .int x1), (4, .int y)]) dX11_highestBy_9 (Nat.le_of_ble_eq_true rfl) (fun _ => rfl) (fun y3 e4 => ?_)
  rw [e4]
  obtain ⟨p37, hp38, h⟩ := Option.bind_eq_some_iff.mp h
  refine cl_X11_highestBy_11 hN i1 i2  gF x1 (0 : Int32) _ _ hp38 ?_
  refine g_aload_n (pc := 87) dX11_highestBy_87 rfl rfl ?_
  obtain ⟨m40, hp39, h⟩ := Option.bind_eq_some_iff.mp h
  refine r_callV (ci := 10) (pc := 88) (c_X11_takeBack hN  p37.2.2 hp39) yV_X11_takeBack ⟨rfl, by decide⟩ pX11_takeBack mL_X11_178 dX11_highestBy_88 (Nat.le_of_ble_eq_true rfl) (Nat.le_of_ble_eq_true rfl) (Nat.lt_of_lt_of_le (by decide) hN) kd_140 rfl (rK_v ?_)
  refine g_iload_n (pc := 91) dX11_highestBy_91 rfl rfl ?_
  cases h
  exact r_iret dX11_highestBy_92 rfl rfl rfl

def l_X11_together_85 (i1 : Int32) (i2 : Int32) (i3 : Int32) (i4 : Int32) (i5 : Int32) (i6 : Int32) : Nat → Int32 → Int32 → gMem → Option (Int32 × Int32 × gMem)
  | 0, _, _, _ => none
  | n + 1, i7, i8, μ =>
  if i8 < 0 then
  (some (i7, i8, μ))
else
  (if inb i8 5 = true then
  lt (st μ 149 i8.toNatClampNeg (-1 : Int32)) (fun m26 =>
  (f_X11_has i3 i8 m26).bind (fun p30 =>
  if p30.1 = 0 then
  (lt (i8 + Int32.ofInt (-1)) (fun x33 =>
  l_X11_together_85 i1 i2 i3 i4 i5 i6 n i7 x33 p30.2))
else
  (lt (st p30.2 149 i8.toNatClampNeg (i7 - i7 / (4 : Int32) * (4 : Int32))) (fun m35 =>
  lt (i7 / (4 : Int32)) (fun x37 =>
  lt (i8 + Int32.ofInt (-1)) (fun x39 =>
  l_X11_together_85 i1 i2 i3 i4 i5 i6 n x37 x39 m35)))))) else none)
def l_X11_together_60 (i1 : Int32) (i2 : Int32) (i3 : Int32) : Nat → Int32 → Int32 → Int32 → gMem → Option (Int32 × Int32 × Int32 × gMem)
  | 0, _, _, _, _ => none
  | n + 1, i4, i5, i6, μ =>
  (f_X11_ones i3 μ).bind (fun p19 =>
  if ((1 : Int32) <<< (((2 : Int32) * p19.1) &&& 31)) ≤ i6 then
  (some (i4, i5, i6, p19.2))
else
  (lt ((p19.2 140 1) - (1 : Int32)) (fun x23 =>
  (l_X11_together_85 i1 i2 i3 i4 i5 i6 gF i6 x23 p19.2).bind (fun p41 =>
  (f_X11_highestBy i1 i3 p41.2.2).bind (fun p44 =>
  lt p44.1 (fun x45 =>
  if x45 ≤ i4 then
  (lt (i6 + Int32.ofInt 1) (fun x48 =>
  l_X11_together_60 i1 i2 i3 n i4 i5 x48 p44.2))
else
  (if 0 ≤ i2 then
  (if inb i2 5 = true then
  lt (p44.2 149 i2.toNatClampNeg) (fun x54 =>
  lt (i6 + Int32.ofInt 1) (fun x56 =>
  l_X11_together_60 i1 i2 i3 n x45 x54 x56 p44.2)) else none)
else
  (lt (i6 + Int32.ofInt 1) (fun x60 =>
  l_X11_together_60 i1 i2 i3 n x45 (-1 : Int32) x60 p44.2)))))))))
def f_X11_together (i1 : Int32) (i2 : Int32) (μ : gMem) : Option (Int32 × gMem) :=
  if i2 = (-1 : Int32) then
  ((f_X11_in i1.toInt64 (1 : Int64) (40 : Int64) μ).bind (fun p3 =>
  if p3.1 = 0 then
  (some ((-3 : Int32), p3.2))
else
  ((f_X11_putAside  p3.2).bind (fun m7 =>
  (f_X11_working  m7).bind (fun p9 =>
  lt ((((1 : Int32) <<< ((m7 140 1) &&& 31)) - (1 : Int32)) &&& (p9.1 ^^^ (-1 : Int32))) (fun x10 =>
  (l_X11_together_60 i1 i2 x10 gF (-1 : Int32) (-1 : Int32) (0 : Int32) p9.2).bind (fun p62 =>
  lt (if 0 ≤ i2 then p62.2.1 else p62.1) (fun x64 =>
  some (x64, p62.2.2.2)))))))))
else
  ((f_X11_isSister i2 μ).bind (fun p69 =>
  if p69.1 = 0 then
  (some ((-2 : Int32), p69.2))
else
  ((f_X11_in i1.toInt64 (1 : Int64) (40 : Int64) p69.2).bind (fun p73 =>
  if p73.1 = 0 then
  (some ((-3 : Int32), p73.2))
else
  ((f_X11_putAside  p73.2).bind (fun m77 =>
  (f_X11_working  m77).bind (fun p79 =>
  lt ((((1 : Int32) <<< ((m77 140 1) &&& 31)) - (1 : Int32)) &&& (p79.1 ^^^ (-1 : Int32))) (fun x80 =>
  (l_X11_together_60 i1 i2 x80 gF (-1 : Int32) (-1 : Int32) (0 : Int32) p79.2).bind (fun p88 =>
  lt (if 0 ≤ i2 then p88.2.1 else p88.1) (fun x90 =>
  some (x90, p88.2.2.2)))))))))))
set_option maxRecDepth 100000 in
set_option maxHeartbeats 4000000 in
theorem cl_X11_together_85 {κ : Nat → Nat} {N : Nat} {Q : rQ} (hN : 151 ≤ N) (i1 : Int32) (i2 : Int32) (i3 : Int32) (i4 : Int32) (i5 : Int32) (i6 : Int32)  : ∀ (n : Nat) (i7 : Int32) (i8 : Int32) (μ : gMem) (p : Int32 × Int32 × gMem), l_X11_together_85 i1 i2 i3 i4 i5 i6 n i7 i8 μ = some p → RR κ N 7 iX11_together 130 [(0, .ref (κ 0 + 140)), (1, .int i1), (2, .int i2), (3, .int i3), (4, .int i4), (5, .int i5), (6, .int i6), (7, .int p.1), (8, .int p.2.1)] [] p.2.2 Q → RR κ N 7 iX11_together 85 [(0, .ref (κ 0 + 140)), (1, .int i1), (2, .int i2), (3, .int i3), (4, .int i4), (5, .int i5), (6, .int i6), (7, .int i7), (8, .int i8)] [] μ Q := by
  intro n
  induction n with
  | zero =>
    intro i7 i8 μ p h k
    unfold l_X11_together_85 at h
    cases h
  | succ n ih =>
    intro i7 i8 μ p h k
    unfold l_X11_together_85 at h
    refine g_iload (pc := 85) dX11_together_85 rfl ?_
    refine g_if_lt (pc := 87) 130 dX11_together_87 (by decide) (fun hc25 => ?_) (fun hc25 => ?_)
    · rw [if_pos hc25] at h
      cases h
      exact k
    · rw [if_neg hc25] at h
      refine g_aload_n (pc := 90) dX11_together_90 rfl rfl ?_
      refine gf_X11_35 (pc := 91) rfl dX11_together_91 (Nat.lt_of_lt_of_le (by decide) hN) kd_140 ?_
      refine g_iload (pc := 94) dX11_together_94 rfl ?_
      refine g_iconst (pc := 96) (v := (-1 : Int32)) dX11_together_96 rfl ?_
      obtain ⟨hg28, h⟩ := gd_some h
      refine r_iast (pc := 97) 5 dX11_together_97 (Nat.lt_of_lt_of_le (by decide) hN) kd_149 ln_149 hg28 (fun m26 e27 => ?_)
      rw [lt_of e27] at h
      refine g_iload_n (pc := 98) dX11_together_98 rfl rfl ?_
      refine g_iload (pc := 99) dX11_together_99 rfl ?_
      obtain ⟨p30, hp29, h⟩ := Option.bind_eq_some_iff.mp h
      refine r_callS (pc := 101) (c_X11_has hN i3 i8 m26 hp29) yS_X11_has pX11_has mL_X11_203 dX11_together_101 (Nat.le_of_ble_eq_true rfl) (Nat.le_of_ble_eq_true rfl) rfl (rK_z (fun hz31 => ?_))
      refine g_if_eq (pc := 104) 124 dX11_together_104 (by decide) (fun hc32 => ?_) (fun hc32 => ?_)
      · rw [if_pos hc32] at h
        refine g_iinc (pc := 124) (lv' := fun y => [(0, .ref (κ 0 + 140)), (1, .int i1), (2, .int i2), (3, .int i3), (4, .int i4), (5, .int i5), (6, .int i6), (7, .int i7), (8, .int y)]) dX11_together_124 rfl (Nat.le_of_ble_eq_true rfl) (fun _ => rfl) (fun x33 e34 => ?_)
        rw [lt_of e34] at h
        refine g_goto (pc := 127) 85 dX11_together_127 (by decide) ?_
        refine g_lv (lv' := [(0, .ref (κ 0 + 140)), (1, .int i1), (2, .int i2), (3, .int i3), (4, .int i4), (5, .int i5), (6, .int i6), (7, .int i7), (8, .int x33)]) rfl ?_
        exact ih _ _ _ _ h k
      · rw [if_neg hc32] at h
        refine g_aload_n (pc := 107) dX11_together_107 rfl rfl ?_
        refine gf_X11_35 (pc := 108) rfl dX11_together_108 (Nat.lt_of_lt_of_le (by decide) hN) kd_140 ?_
        refine g_iload (pc := 111) dX11_together_111 rfl ?_
        refine g_iload (pc := 113) dX11_together_113 rfl ?_
        refine g_iconst (pc := 115) (v := (4 : Int32)) dX11_together_115 rfl ?_
        refine g_irem (pc := 116) dX11_together_116 (by decide) ?_
        refine r_iast (pc := 117) 5 dX11_together_117 (Nat.lt_of_lt_of_le (by decide) hN) kd_149 ln_149 hg28 (fun m35 e36 => ?_)
        rw [lt_of e36] at h
        refine g_iload (pc := 118) dX11_together_118 rfl ?_
        refine g_iconst (pc := 120) (v := (4 : Int32)) dX11_together_120 rfl ?_
        refine g_idiv (pc := 121) dX11_together_121 (by decide) ?_
        refine g_istore (pc := 122) (lv' := fun y => [(0, .ref (κ 0 + 140)), (1, .int i1), (2, .int i2), (3, .int i3), (4, .int i4), (5, .int i5), (6, .int i6), (7, .int y), (8, .int i8)]) dX11_together_122 (Nat.le_of_ble_eq_true rfl) (fun _ => rfl) (fun x37 e38 => ?_)
        rw [lt_of e38] at h
        refine g_iinc (pc := 124) (lv' := fun y => [(0, .ref (κ 0 + 140)), (1, .int i1), (2, .int i2), (3, .int i3), (4, .int i4), (5, .int i5), (6, .int i6), (7, .int x37), (8, .int y)]) dX11_together_124 rfl (Nat.le_of_ble_eq_true rfl) (fun _ => rfl) (fun x39 e40 => ?_)
        rw [lt_of e40] at h
        refine g_goto (pc := 127) 85 dX11_together_127 (by decide) ?_
        refine g_lv (lv' := [(0, .ref (κ 0 + 140)), (1, .int i1), (2, .int i2), (3, .int i3), (4, .int i4), (5, .int i5), (6, .int i6), (7, .int x37), (8, .int x39)]) rfl ?_
        exact ih _ _ _ _ h k
set_option maxRecDepth 100000 in
set_option maxHeartbeats 4000000 in
theorem cl_X11_together_60 {κ : Nat → Nat} {N : Nat} {Q : rQ} (hN : 151 ≤ N) (i1 : Int32) (i2 : Int32) (i3 : Int32)  : ∀ (n : Nat) (i4 : Int32) (i5 : Int32) (i6 : Int32) (μ : gMem) (p : Int32 × Int32 × Int32 × gMem), l_X11_together_60 i1 i2 i3 n i4 i5 i6 μ = some p → RR κ N 7 iX11_together 171 [(0, .ref (κ 0 + 140)), (1, .int i1), (2, .int i2), (3, .int i3), (4, .int p.1), (5, .int p.2.1), (6, .int p.2.2.1)] [] p.2.2.2 Q → RR κ N 7 iX11_together 60 [(0, .ref (κ 0 + 140)), (1, .int i1), (2, .int i2), (3, .int i3), (4, .int i4), (5, .int i5), (6, .int i6)] [] μ Q := by
  intro n
  induction n with
  | zero =>
    intro i4 i5 i6 μ p h k
    unfold l_X11_together_60 at h
    cases h
  | succ n ih =>
    intro i4 i5 i6 μ p h k
    unfold l_X11_together_60 at h
    refine g_iload (pc := 60) dX11_together_60 rfl ?_
    refine g_iconst (pc := 62) (v := (1 : Int32)) dX11_together_62 rfl ?_
    refine g_iconst (pc := 63) (v := (2 : Int32)) dX11_together_63 rfl ?_
    refine g_iload_n (pc := 64) dX11_together_64 rfl rfl ?_
    obtain ⟨p19, hp18, h⟩ := Option.bind_eq_some_iff.mp h
    refine r_callS (pc := 65) (c_X11_ones hN i3 μ hp18) yS_X11_ones pX11_ones mL_X11_200 dX11_together_65 (Nat.le_of_ble_eq_true rfl) (Nat.le_of_ble_eq_true rfl) rfl (rK_i ?_)
    refine g_imul (pc := 68) dX11_together_68 ?_
    refine g_ishl (pc := 69) dX11_together_69 ?_
    refine g_icmp_ge (pc := 70) 171 dX11_together_70 (by decide) (fun hc20 => ?_) (fun hc20 => ?_)
    · rw [if_pos hc20] at h
      cases h
      exact k
    · rw [if_neg hc20] at h
      refine g_iload (pc := 73) dX11_together_73 rfl ?_
      refine g_istore (pc := 75) (lv' := fun y => [(0, .ref (κ 0 + 140)), (1, .int i1), (2, .int i2), (3, .int i3), (4, .int i4), (5, .int i5), (6, .int i6), (7, .int y)]) dX11_together_75 (Nat.le_of_ble_eq_true rfl) (fun _ => rfl) (fun y21 e22 => ?_)
      rw [e22]
      refine g_aload_n (pc := 77) dX11_together_77 rfl rfl ?_
      refine gf_X11_45 (pc := 78) rfl dX11_together_78 (Nat.lt_of_lt_of_le (by decide) hN) kd_140 ?_
      refine g_iconst (pc := 81) (v := (1 : Int32)) dX11_together_81 rfl ?_
      refine g_isub (pc := 82) dX11_together_82 ?_
      refine g_istore (pc := 83) (lv' := fun y => [(0, .ref (κ 0 + 140)), (1, .int i1), (2, .int i2), (3, .int i3), (4, .int i4), (5, .int i5), (6, .int i6), (7, .int i6), (8, .int y)]) dX11_together_83 (Nat.le_of_ble_eq_true rfl) (fun _ => rfl) (fun x23 e24 => ?_)
      rw [lt_of e24] at h
      obtain ⟨p41, hp42, h⟩ := Option.bind_eq_some_iff.mp h
      refine cl_X11_together_85 hN i1 i2 i3 i4 i5 i6  gF i6 x23 _ _ hp42 ?_
      refine g_aload_n (pc := 130) dX11_together_130 rfl rfl ?_
      refine g_iload_n (pc := 131) dX11_together_131 rfl rfl ?_
      refine g_iload_n (pc := 132) dX11_together_132 rfl rfl ?_
      obtain ⟨p44, hp43, h⟩ := Option.bind_eq_some_iff.mp h
      refine r_callV (ci := 10) (pc := 133) (c_X11_highestBy hN i1 i3 p41.2.2 hp43) yV_X11_highestBy ⟨rfl, by decide⟩ pX11_highestBy mL_X11_208 dX11_together_133 (Nat.le_of_ble_eq_true rfl) (Nat.le_of_ble_eq_true rfl) (Nat.lt_of_lt_of_le (by decide) hN) kd_140 rfl (rK_i ?_)
      refine g_istore (pc := 136) (lv' := fun y => [(0, .ref (κ 0 + 140)), (1, .int i1), (2, .int i2), (3, .int i3), (4, .int i4), (5, .int i5), (6, .int i6), (7, .int p41.1), (8, .int y)]) dX11_together_136 (Nat.le_of_ble_eq_true rfl) (fun _ => rfl) (fun x45 e46 => ?_)
      rw [lt_of e46] at h
      refine g_iload (pc := 138) dX11_together_138 rfl ?_
      refine g_iload (pc := 140) dX11_together_140 rfl ?_
      refine g_icmp_le (pc := 142) 165 dX11_together_142 (by decide) (fun hc47 => ?_) (fun hc47 => ?_)
      · rw [if_pos hc47] at h
        refine g_iinc (pc := 165) (lv' := fun y => [(0, .ref (κ 0 + 140)), (1, .int i1), (2, .int i2), (3, .int i3), (4, .int i4), (5, .int i5), (6, .int y), (7, .int p41.1), (8, .int x45)]) dX11_together_165 rfl (Nat.le_of_ble_eq_true rfl) (fun _ => rfl) (fun x48 e49 => ?_)
        rw [lt_of e49] at h
        refine g_goto (pc := 168) 60 dX11_together_168 (by decide) ?_
        refine g_lv (lv' := [(0, .ref (κ 0 + 140)), (1, .int i1), (2, .int i2), (3, .int i3), (4, .int i4), (5, .int i5), (6, .int x48)]) rfl ?_
        exact ih _ _ _ _ _ h k
      · rw [if_neg hc47] at h
        refine g_iload (pc := 145) dX11_together_145 rfl ?_
        refine g_istore (pc := 147) (lv' := fun y => [(0, .ref (κ 0 + 140)), (1, .int i1), (2, .int i2), (3, .int i3), (4, .int y), (5, .int i5), (6, .int i6), (7, .int p41.1), (8, .int x45)]) dX11_together_147 (Nat.le_of_ble_eq_true rfl) (fun _ => rfl) (fun y50 e51 => ?_)
        rw [e51]
        refine g_iload_n (pc := 149) dX11_together_149 rfl rfl ?_
        refine g_if_ge (pc := 150) 157 dX11_together_150 (by decide) (fun hc52 => ?_) (fun hc52 => ?_)
        · rw [if_pos hc52] at h
          refine g_aload_n (pc := 157) dX11_together_157 rfl rfl ?_
          refine gf_X11_35 (pc := 158) rfl dX11_together_158 (Nat.lt_of_lt_of_le (by decide) hN) kd_140 ?_
          refine g_iload_n (pc := 161) dX11_together_161 rfl rfl ?_
          obtain ⟨hg53, h⟩ := gd_some h
          refine r_iald (pc := 162) 5 dX11_together_162 (Nat.lt_of_lt_of_le (by decide) hN) kd_149 ln_149 hg53 ?_
          refine g_istore (pc := 163) (lv' := fun y => [(0, .ref (κ 0 + 140)), (1, .int i1), (2, .int i2), (3, .int i3), (4, .int x45), (5, .int y), (6, .int i6), (7, .int p41.1), (8, .int x45)]) dX11_together_163 (Nat.le_of_ble_eq_true rfl) (fun _ => rfl) (fun x54 e55 => ?_)
          rw [lt_of e55] at h
          refine g_iinc (pc := 165) (lv' := fun y => [(0, .ref (κ 0 + 140)), (1, .int i1), (2, .int i2), (3, .int i3), (4, .int x45), (5, .int x54), (6, .int y), (7, .int p41.1), (8, .int x45)]) dX11_together_165 rfl (Nat.le_of_ble_eq_true rfl) (fun _ => rfl) (fun x56 e57 => ?_)
          rw [lt_of e57] at h
          refine g_goto (pc := 168) 60 dX11_together_168 (by decide) ?_
          refine g_lv (lv' := [(0, .ref (κ 0 + 140)), (1, .int i1), (2, .int i2), (3, .int i3), (4, .int x45), (5, .int x54), (6, .int x56)]) rfl ?_
          exact ih _ _ _ _ _ h k
        · rw [if_neg hc52] at h
          refine g_iconst (pc := 153) (v := (-1 : Int32)) dX11_together_153 rfl ?_
          refine g_goto (pc := 154) 163 dX11_together_154 (by decide) ?_
          refine g_istore (pc := 163) (lv' := fun y => [(0, .ref (κ 0 + 140)), (1, .int i1), (2, .int i2), (3, .int i3), (4, .int x45), (5, .int y), (6, .int i6), (7, .int p41.1), (8, .int x45)]) dX11_together_163 (Nat.le_of_ble_eq_true rfl) (fun _ => rfl) (fun y58 e59 => ?_)
          rw [e59]
          refine g_iinc (pc := 165) (lv' := fun y => [(0, .ref (κ 0 + 140)), (1, .int i1), (2, .int i2), (3, .int i3), (4, .int x45), (5, .int (-1 : Int32)), (6, .int y), (7, .int p41.1), (8, .int x45)]) dX11_together_165 rfl (Nat.le_of_ble_eq_true rfl) (fun _ => rfl) (fun x60 e61 => ?_)
          rw [lt_of e61] at h
          refine g_goto (pc := 168) 60 dX11_together_168 (by decide) ?_
          refine g_lv (lv' := [(0, .ref (κ 0 + 140)), (1, .int i1), (2, .int i2), (3, .int i3), (4, .int x45), (5, .int (-1 : Int32)), (6, .int x60)]) rfl ?_
          exact ih _ _ _ _ _ h k
set_option maxRecDepth 100000 in
set_option maxHeartbeats 4000000 in
theorem c_X11_together {κ : Nat → Nat} {N : Nat} (hN : 151 ≤ N) (i1 : Int32) (i2 : Int32)  (μ : gMem) {r : Int32} {μ' : gMem} (h : f_X11_together i1 i2 μ = some (r, μ')) : CT2 κ N 7 yX11_together iX11_together [.ref (κ 0 + 140), .int i1, .int i2] μ (qI r μ') := by
  refine CT2.of (by decide) rfl rfl (Nat.le_of_ble_eq_true rfl) ?_
  unfold f_X11_together at h
  show RR κ N 7 iX11_together 0 [(0, .ref (κ 0 + 140)), (1, .int i1), (2, .int i2)] [] μ _
  refine g_iload_n (pc := 0) dX11_together_0 rfl rfl ?_
  refine g_iconst (pc := 1) (v := (-1 : Int32)) dX11_together_1 rfl ?_
  refine g_icmp_eq (pc := 2) 16 dX11_together_2 (by decide) (fun hc1 => ?_) (fun hc1 => ?_)
  · rw [if_pos hc1] at h
    refine g_iload_n (pc := 16) dX11_together_16 rfl rfl ?_
    refine g_i2l (pc := 17) dX11_together_17 ?_
    refine g_lconst (pc := 18) (v := (1 : Int64)) dX11_together_18 rfl ?_
    refine g_ldc2 (pc := 19) kL_X11_206 dX11_together_19 ?_
    obtain ⟨p3, hp2, h⟩ := Option.bind_eq_some_iff.mp h
    refine r_callS (pc := 22) (c_X11_in hN i1.toInt64 (1 : Int64) (40 : Int64) μ hp2) yS_X11_in pX11_in mL_X11_49 dX11_together_22 (Nat.le_of_ble_eq_true rfl) (Nat.le_of_ble_eq_true rfl) rfl (rK_z (fun hz4 => ?_))
    refine g_if_ne (pc := 25) 31 dX11_together_25 (by decide) (fun hc5 => ?_) (fun hc5 => ?_)
    · rw [if_neg hc5] at h
      refine g_aload_n (pc := 31) dX11_together_31 rfl rfl ?_
      obtain ⟨m7, hp6, h⟩ := Option.bind_eq_some_iff.mp h
      refine r_callV (ci := 10) (pc := 32) (c_X11_putAside hN  p3.2 hp6) yV_X11_putAside ⟨rfl, by decide⟩ pX11_putAside mL_X11_185 dX11_together_32 (Nat.le_of_ble_eq_true rfl) (Nat.le_of_ble_eq_true rfl) (Nat.lt_of_lt_of_le (by decide) hN) kd_140 rfl (rK_v ?_)
      refine g_iconst (pc := 35) (v := (1 : Int32)) dX11_together_35 rfl ?_
      refine g_aload_n (pc := 36) dX11_together_36 rfl rfl ?_
      refine gf_X11_45 (pc := 37) rfl dX11_together_37 (Nat.lt_of_lt_of_le (by decide) hN) kd_140 ?_
      refine g_ishl (pc := 40) dX11_together_40 ?_
      refine g_iconst (pc := 41) (v := (1 : Int32)) dX11_together_41 rfl ?_
      refine g_isub (pc := 42) dX11_together_42 ?_
      refine g_aload_n (pc := 43) dX11_together_43 rfl rfl ?_
      obtain ⟨p9, hp8, h⟩ := Option.bind_eq_some_iff.mp h
      refine r_callV (ci := 10) (pc := 44) (c_X11_working hN  m7 hp8) yV_X11_working ⟨rfl, by decide⟩ pX11_working mL_X11_197 dX11_together_44 (Nat.le_of_ble_eq_true rfl) (Nat.le_of_ble_eq_true rfl) (Nat.lt_of_lt_of_le (by decide) hN) kd_140 rfl (rK_i ?_)
      refine g_iconst (pc := 47) (v := (-1 : Int32)) dX11_together_47 rfl ?_
      refine g_ixor (pc := 48) dX11_together_48 ?_
      refine g_iand (pc := 49) dX11_together_49 ?_
      refine g_istore_n (pc := 50) (lv' := fun y => [(0, .ref (κ 0 + 140)), (1, .int i1), (2, .int i2), (3, .int y)]) dX11_together_50 rfl (Nat.le_of_ble_eq_true rfl) (fun _ => rfl) (fun x10 e11 => ?_)
      rw [lt_of e11] at h
      refine g_iconst (pc := 51) (v := (-1 : Int32)) dX11_together_51 rfl ?_
      refine g_istore (pc := 52) (lv' := fun y => [(0, .ref (κ 0 + 140)), (1, .int i1), (2, .int i2), (3, .int x10), (4, .int y)]) dX11_together_52 (Nat.le_of_ble_eq_true rfl) (fun _ => rfl) (fun y12 e13 => ?_)
      rw [e13]
      refine g_iconst (pc := 54) (v := (-1 : Int32)) dX11_together_54 rfl ?_
      refine g_istore (pc := 55) (lv' := fun y => [(0, .ref (κ 0 + 140)), (1, .int i1), (2, .int i2), (3, .int x10), (4, .int (-1 : Int32)), (5, .int y)]) dX11_together_55 (Nat.le_of_ble_eq_true rfl) (fun _ => rfl) (fun y14 e15 => ?_)
      rw [e15]
      refine g_iconst (pc := 57) (v := (0 : Int32)) dX11_together_57 rfl ?_
      refine g_istore (pc := 58) (lv' := fun y => [(0, .ref (κ 0 + 140)), (1, .int i1), (2, .int i2), (3, .int x10), (4, .int (-1 : Int32)), (5, .int (-1 : Int32)), (6, .int y)]) dX11_together_58 (Nat.le_of_ble_eq_true rfl) (fun _ => rfl) (fun y16 e17 => ?_)
      rw [e17]
      obtain ⟨p62, hp63, h⟩ := Option.bind_eq_some_iff.mp h
      refine cl_X11_together_60 hN i1 i2 x10  gF (-1 : Int32) (-1 : Int32) (0 : Int32) _ _ hp63 ?_
      refine g_iload_n (pc := 171) dX11_together_171 rfl rfl ?_
      have key66 : ∀ x64 : Int32, x64 = (if 0 ≤ i2 then p62.2.1 else p62.1) → RR κ N 7 iX11_together 182 [(0, .ref (κ 0 + 140)), (1, .int i1), (2, .int i2), (3, .int x10), (4, .int p62.1), (5, .int p62.2.1), (6, .int p62.2.2.1)] [.int x64] p62.2.2.2 (qI r μ') := by
        intro x64 e65
        rw [lt_of e65] at h
        cases h
        exact r_iret dX11_together_182 rfl rfl rfl
      refine g_if_ge (pc := 172) 180 dX11_together_172 (by decide) (fun hc67 => ?_) (fun hc67 => ?_)
      · refine g_iload (pc := 180) dX11_together_180 rfl ?_
        exact key66 _ (by rw [if_pos hc67])
      · refine g_iload (pc := 175) dX11_together_175 rfl ?_
        refine g_goto (pc := 177) 182 dX11_together_177 (by decide) ?_
        exact key66 _ (by rw [if_neg hc67])
    · rw [if_pos hc5] at h
      refine g_bipush (pc := 28) (v := (-3 : Int32)) dX11_together_28 rfl ?_
      cases h
      exact r_iret dX11_together_30 rfl rfl rfl
  · rw [if_neg hc1] at h
    refine g_aload_n (pc := 5) dX11_together_5 rfl rfl ?_
    refine g_iload_n (pc := 6) dX11_together_6 rfl rfl ?_
    obtain ⟨p69, hp68, h⟩ := Option.bind_eq_some_iff.mp h
    refine r_callV (ci := 10) (pc := 7) (c_X11_isSister hN i2 μ hp68) yV_X11_isSister ⟨rfl, by decide⟩ pX11_isSister mL_X11_139 dX11_together_7 (Nat.le_of_ble_eq_true rfl) (Nat.le_of_ble_eq_true rfl) (Nat.lt_of_lt_of_le (by decide) hN) kd_140 rfl (rK_z (fun hz70 => ?_))
    refine g_if_ne (pc := 10) 16 dX11_together_10 (by decide) (fun hc71 => ?_) (fun hc71 => ?_)
    · rw [if_neg hc71] at h
      refine g_iload_n (pc := 16) dX11_together_16 rfl rfl ?_
      refine g_i2l (pc := 17) dX11_together_17 ?_
      refine g_lconst (pc := 18) (v := (1 : Int64)) dX11_together_18 rfl ?_
      refine g_ldc2 (pc := 19) kL_X11_206 dX11_together_19 ?_
      obtain ⟨p73, hp72, h⟩ := Option.bind_eq_some_iff.mp h
      refine r_callS (pc := 22) (c_X11_in hN i1.toInt64 (1 : Int64) (40 : Int64) p69.2 hp72) yS_X11_in pX11_in mL_X11_49 dX11_together_22 (Nat.le_of_ble_eq_true rfl) (Nat.le_of_ble_eq_true rfl) rfl (rK_z (fun hz74 => ?_))
      refine g_if_ne (pc := 25) 31 dX11_together_25 (by decide) (fun hc75 => ?_) (fun hc75 => ?_)
      · rw [if_neg hc75] at h
        refine g_aload_n (pc := 31) dX11_together_31 rfl rfl ?_
        obtain ⟨m77, hp76, h⟩ := Option.bind_eq_some_iff.mp h
        refine r_callV (ci := 10) (pc := 32) (c_X11_putAside hN  p73.2 hp76) yV_X11_putAside ⟨rfl, by decide⟩ pX11_putAside mL_X11_185 dX11_together_32 (Nat.le_of_ble_eq_true rfl) (Nat.le_of_ble_eq_true rfl) (Nat.lt_of_lt_of_le (by decide) hN) kd_140 rfl (rK_v ?_)
        refine g_iconst (pc := 35) (v := (1 : Int32)) dX11_together_35 rfl ?_
        refine g_aload_n (pc := 36) dX11_together_36 rfl rfl ?_
        refine gf_X11_45 (pc := 37) rfl dX11_together_37 (Nat.lt_of_lt_of_le (by decide) hN) kd_140 ?_
        refine g_ishl (pc := 40) dX11_together_40 ?_
        refine g_iconst (pc := 41) (v := (1 : Int32)) dX11_together_41 rfl ?_
        refine g_isub (pc := 42) dX11_together_42 ?_
        refine g_aload_n (pc := 43) dX11_together_43 rfl rfl ?_
        obtain ⟨p79, hp78, h⟩ := Option.bind_eq_some_iff.mp h
        refine r_callV (ci := 10) (pc := 44) (c_X11_working hN  m77 hp78) yV_X11_working ⟨rfl, by decide⟩ pX11_working mL_X11_197 dX11_together_44 (Nat.le_of_ble_eq_true rfl) (Nat.le_of_ble_eq_true rfl) (Nat.lt_of_lt_of_le (by decide) hN) kd_140 rfl (rK_i ?_)
        refine g_iconst (pc := 47) (v := (-1 : Int32)) dX11_together_47 rfl ?_
        refine g_ixor (pc := 48) dX11_together_48 ?_
        refine g_iand (pc := 49) dX11_together_49 ?_
        refine g_istore_n (pc := 50) (lv' := fun y => [(0, .ref (κ 0 + 140)), (1, .int i1), (2, .int i2), (3, .int y)]) dX11_together_50 rfl (Nat.le_of_ble_eq_true rfl) (fun _ => rfl) (fun x80 e81 => ?_)
        rw [lt_of e81] at h
        refine g_iconst (pc := 51) (v := (-1 : Int32)) dX11_together_51 rfl ?_
        refine g_istore (pc := 52) (lv' := fun y => [(0, .ref (κ 0 + 140)), (1, .int i1), (2, .int i2), (3, .int x80), (4, .int y)]) dX11_together_52 (Nat.le_of_ble_eq_true rfl) (fun _ => rfl) (fun y82 e83 => ?_)
        rw [e83]
        refine g_iconst (pc := 54) (v := (-1 : Int32)) dX11_together_54 rfl ?_
        refine g_istore (pc := 55) (lv' := fun y => [(0, .ref (κ 0 + 140)), (1, .int i1), (2, .int i2), (3, .int x80), (4, .int (-1 : Int32)), (5, .int y)]) dX11_together_55 (Nat.le_of_ble_eq_true rfl) (fun _ => rfl) (fun y84 e85 => ?_)
        rw [e85]
        refine g_iconst (pc := 57) (v := (0 : Int32)) dX11_together_57 rfl ?_
        refine g_istore (pc := 58) (lv' := fun y => [(0, .ref (κ 0 + 140)), (1, .int i1), (2, .int i2), (3, .int x80), (4, .int (-1 : Int32)), (5, .int (-1 : Int32)), (6, .int y)]) dX11_together_58 (Nat.le_of_ble_eq_true rfl) (fun _ => rfl) (fun y86 e87 => ?_)
        rw [e87]
        obtain ⟨p88, hp89, h⟩ := Option.bind_eq_some_iff.mp h
        refine cl_X11_together_60 hN i1 i2 x80  gF (-1 : Int32) (-1 : Int32) (0 : Int32) _ _ hp89 ?_
        refine g_iload_n (pc := 171) dX11_together_171 rfl rfl ?_
        have key92 : ∀ x90 : Int32, x90 = (if 0 ≤ i2 then p88.2.1 else p88.1) → RR κ N 7 iX11_together 182 [(0, .ref (κ 0 + 140)), (1, .int i1), (2, .int i2), (3, .int x80), (4, .int p88.1), (5, .int p88.2.1), (6, .int p88.2.2.1)] [.int x90] p88.2.2.2 (qI r μ') := by
          intro x90 e91
          rw [lt_of e91] at h
          cases h
          exact r_iret dX11_together_182 rfl rfl rfl
        refine g_if_ge (pc := 172) 180 dX11_together_172 (by decide) (fun hc93 => ?_) (fun hc93 => ?_)
        · refine g_iload (pc := 180) dX11_together_180 rfl ?_
          exact key92 _ (by rw [if_pos hc93])
        · refine g_iload (pc := 175) dX11_together_175 rfl ?_
          refine g_goto (pc := 177) 182 dX11_together_177 (by decide) ?_
          exact key92 _ (by rw [if_neg hc93])
      · rw [if_pos hc75] at h
        refine g_bipush (pc := 28) (v := (-3 : Int32)) dX11_together_28 rfl ?_
        cases h
        exact r_iret dX11_together_30 rfl rfl rfl
    · rw [if_pos hc71] at h
      refine g_bipush (pc := 13) (v := (-2 : Int32)) dX11_together_13 rfl ?_
      cases h
      exact r_iret dX11_together_15 rfl rfl rfl

def l_X1_search_77 (a1 : Nat) (i2 : Int32) (i3 : Int32) (i4 : Int32) : Nat → Int32 → gMem → Option (Int32 × gMem)
  | 0, _, _ => none
  | n + 1, i5, μ =>
  lt (if i4 = 0 then (1 : Int32) else (4 : Int32)) (fun x25 =>
  if x25 ≤ i5 then
  (some (i5, μ))
else
  ((f_X1_fill a1 i3 i5 μ).bind (fun m30 =>
  lt (i5 + Int32.ofInt 1) (fun x31 =>
  l_X1_search_77 a1 i2 i3 i4 n x31 m30))))
def l_X1_search_28 (a1 : Nat) (i2 : Int32) : Nat → Int32 → gMem → Option (Int32 × gMem)
  | 0, _, _ => none
  | n + 1, i3, μ =>
  if (μ 1 1) ≤ i3 then
  (some (i3, μ))
else
  (if inb i3 5 = true then
  lt (if (μ ((a1 + 1) + 1 + i3.toNatClampNeg) 0) = 0 then (1 : Int32) else (0 : Int32)) (fun x13 =>
  lt (if x13 = 0 then (-1 : Int32) else (0 : Int32)) (fun x18 =>
  lt (st μ 135 i3.toNatClampNeg x18) (fun m21 =>
  (l_X1_search_77 a1 i2 i3 x13 gF (0 : Int32) m21).bind (fun p34 =>
  lt (i3 + Int32.ofInt 1) (fun x36 =>
  l_X1_search_28 a1 i2 n x36 p34.2))))) else none)
def f_X1_search (a1 : Nat) (i2 : Int32) (μ : gMem) : Option (gMem) :=
  lt (st μ 106 7 (μ a1 1)) (fun m1 =>
  lt (st m1 106 8 (m1 a1 2)) (fun m3 =>
  lt (st m3 106 9 i2) (fun m5 =>
  lt (st m5 106 6 (-1 : Int32)) (fun m7 =>
  (l_X1_search_28 a1 i2 gF (0 : Int32) m7).bind (fun p40 =>
  (f_X1_tryFrom 7 (0 : Int32) p40.2).bind (fun m43 =>
  some m43))))))
set_option maxRecDepth 100000 in
set_option maxHeartbeats 4000000 in
theorem cl_X1_search_77 {κ : Nat → Nat} {N : Nat} {Q : rQ} (hN : 140 ≤ N) (a1 : Nat) (i2 : Int32) (i3 : Int32) (i4 : Int32) (h1 : kd a1 = 5) (g1 : a1 < N) : ∀ (n : Nat) (i5 : Int32) (μ : gMem) (p : Int32 × gMem), l_X1_search_77 a1 i2 i3 i4 n i5 μ = some p → RR κ N 10 iX1_search 106 [(0, .ref (κ 0 + 106)), (1, .ref (κ 0 + a1)), (2, .int i2), (3, .int i3), (4, .int i4), (5, .int p.1)] [] p.2 Q → RR κ N 10 iX1_search 77 [(0, .ref (κ 0 + 106)), (1, .ref (κ 0 + a1)), (2, .int i2), (3, .int i3), (4, .int i4), (5, .int i5)] [] μ Q := by
  intro n
  induction n with
  | zero =>
    intro i5 μ p h k
    unfold l_X1_search_77 at h
    cases h
  | succ n ih =>
    intro i5 μ p h k
    unfold l_X1_search_77 at h
    refine g_iload (pc := 77) dX1_search_77 rfl ?_
    refine g_iload (pc := 79) dX1_search_79 rfl ?_
    have key27 : ∀ x25 : Int32, x25 = (if i4 = 0 then (1 : Int32) else (4 : Int32)) → RR κ N 10 iX1_search 89 [(0, .ref (κ 0 + 106)), (1, .ref (κ 0 + a1)), (2, .int i2), (3, .int i3), (4, .int i4), (5, .int i5)] [.int x25, .int i5] μ Q := by
      intro x25 e26
      rw [lt_of e26] at h
      refine g_icmp_ge (pc := 89) 106 dX1_search_89 (by decide) (fun hc28 => ?_) (fun hc28 => ?_)
      · rw [if_pos hc28] at h
        cases h
        exact k
      · rw [if_neg hc28] at h
        refine g_aload_n (pc := 92) dX1_search_92 rfl rfl ?_
        refine g_aload_n (pc := 93) dX1_search_93 rfl rfl ?_
        refine g_iload_n (pc := 94) dX1_search_94 rfl rfl ?_
        refine g_iload (pc := 95) dX1_search_95 rfl ?_
        obtain ⟨m30, hp29, h⟩ := Option.bind_eq_some_iff.mp h
        refine r_callV (ci := 1) (pc := 97) (c_X1_fill hN a1 i3 i5 h1 μ hp29) yV_X1_fill ⟨rfl, by decide⟩ pX1_fill mL_X1_66 dX1_search_97 (Nat.le_of_ble_eq_true rfl) (Nat.le_of_ble_eq_true rfl) (Nat.lt_of_lt_of_le (by decide) hN) kd_106 rfl (rK_v ?_)
        refine g_iinc (pc := 100) (lv' := fun y => [(0, .ref (κ 0 + 106)), (1, .ref (κ 0 + a1)), (2, .int i2), (3, .int i3), (4, .int i4), (5, .int y)]) dX1_search_100 rfl (Nat.le_of_ble_eq_true rfl) (fun _ => rfl) (fun x31 e32 => ?_)
        rw [lt_of e32] at h
        refine g_goto (pc := 103) 77 dX1_search_103 (by decide) ?_
        refine g_lv (lv' := [(0, .ref (κ 0 + 106)), (1, .ref (κ 0 + a1)), (2, .int i2), (3, .int i3), (4, .int i4), (5, .int x31)]) rfl ?_
        exact ih _ _ _ h k
    refine g_if_eq (pc := 81) 88 dX1_search_81 (by decide) (fun hc33 => ?_) (fun hc33 => ?_)
    · refine g_iconst (pc := 88) (v := (1 : Int32)) dX1_search_88 rfl ?_
      exact key27 _ (by rw [if_pos hc33])
    · refine g_iconst (pc := 84) (v := (4 : Int32)) dX1_search_84 rfl ?_
      refine g_goto (pc := 85) 89 dX1_search_85 (by decide) ?_
      exact key27 _ (by rw [if_neg hc33])
set_option maxRecDepth 100000 in
set_option maxHeartbeats 4000000 in
theorem cl_X1_search_28 {κ : Nat → Nat} {N : Nat} {Q : rQ} (hN : 140 ≤ N) (a1 : Nat) (i2 : Int32) (h1 : kd a1 = 5) (g1 : a1 < N) : ∀ (n : Nat) (i3 : Int32) (μ : gMem) (p : Int32 × gMem), l_X1_search_28 a1 i2 n i3 μ = some p → RR κ N 10 iX1_search 112 [(0, .ref (κ 0 + 106)), (1, .ref (κ 0 + a1)), (2, .int i2), (3, .int p.1)] [] p.2 Q → RR κ N 10 iX1_search 28 [(0, .ref (κ 0 + 106)), (1, .ref (κ 0 + a1)), (2, .int i2), (3, .int i3)] [] μ Q := by
  intro n
  induction n with
  | zero =>
    intro i3 μ p h k
    unfold l_X1_search_28 at h
    cases h
  | succ n ih =>
    intro i3 μ p h k
    unfold l_X1_search_28 at h
    refine g_iload_n (pc := 28) dX1_search_28 rfl rfl ?_
    refine g_aload_n (pc := 29) dX1_search_29 rfl rfl ?_
    refine gf_X1_9 (pc := 30) rfl dX1_search_30 (Nat.lt_of_lt_of_le (by decide) hN) kd_106 ?_
    refine gf_X1_54 (pc := 33) rfl dX1_search_33 (Nat.lt_of_lt_of_le (by decide) hN) kd_1 ?_
    refine g_icmp_ge (pc := 36) 112 dX1_search_36 (by decide) (fun hc11 => ?_) (fun hc11 => ?_)
    · rw [if_pos hc11] at h
      cases h
      exact k
    · rw [if_neg hc11] at h
      refine g_aload_n (pc := 39) dX1_search_39 rfl rfl ?_
      refine gf_X1_59 (pc := 40) rfl dX1_search_40 g1 h1 ?_
      refine g_iload_n (pc := 43) dX1_search_43 rfl rfl ?_
      obtain ⟨hg12, h⟩ := gd_some h
      refine r_aald (pc := 44) 24 5 ((a1 + 1) + 1 + i3.toNatClampNeg) dX1_search_44 (Nat.lt_of_lt_of_le (Nat.lt_of_lt_of_le (Nat.lt_of_succ_le (Nat.add_le_add_left (by decide : 2 ≤ 7) _)) (kd_scene h1).2.2) hN) (kd_scene h1).1 (by decide) (kd_scene h1).2.1 hg12 rfl ?_
      refine gf_X1_63 (pc := 45) rfl dX1_search_45 (Nat.lt_of_lt_of_le (kd_warr (kd_scene h1).1 (inb_lt hg12)).2 hN) (kd_warr (kd_scene h1).1 (inb_lt hg12)).1 ?_
      have key15 : ∀ x13 : Int32, x13 = (if (μ ((a1 + 1) + 1 + i3.toNatClampNeg) 0) = 0 then (1 : Int32) else (0 : Int32)) → RR κ N 10 iX1_search 56 [(0, .ref (κ 0 + 106)), (1, .ref (κ 0 + a1)), (2, .int i2), (3, .int i3)] [.int x13] μ Q := by
        intro x13 e14
        rw [lt_of e14] at h
        refine g_istore (pc := 56) (lv' := fun y => [(0, .ref (κ 0 + 106)), (1, .ref (κ 0 + a1)), (2, .int i2), (3, .int i3), (4, .int y)]) dX1_search_56 (Nat.le_of_ble_eq_true rfl) (fun _ => rfl) (fun y16 e17 => ?_)
        rw [e17]
        refine g_aload_n (pc := 58) dX1_search_58 rfl rfl ?_
        refine gf_X1_23 (pc := 59) rfl dX1_search_59 (Nat.lt_of_lt_of_le (by decide) hN) kd_106 ?_
        refine g_iload_n (pc := 62) dX1_search_62 rfl rfl ?_
        refine g_iload (pc := 63) dX1_search_63 rfl ?_
        have key20 : ∀ x18 : Int32, x18 = (if x13 = 0 then (-1 : Int32) else (0 : Int32)) → RR κ N 10 iX1_search 73 [(0, .ref (κ 0 + 106)), (1, .ref (κ 0 + a1)), (2, .int i2), (3, .int i3), (4, .int x13)] [.int x18, .int i3, .ref (κ 0 + 135)] μ Q := by
          intro x18 e19
          rw [lt_of e19] at h
          refine r_iast (pc := 73) 5 dX1_search_73 (Nat.lt_of_lt_of_le (by decide) hN) kd_135 ln_135 hg12 (fun m21 e22 => ?_)
          rw [lt_of e22] at h
          refine g_iconst (pc := 74) (v := (0 : Int32)) dX1_search_74 rfl ?_
          refine g_istore (pc := 75) (lv' := fun y => [(0, .ref (κ 0 + 106)), (1, .ref (κ 0 + a1)), (2, .int i2), (3, .int i3), (4, .int x13), (5, .int y)]) dX1_search_75 (Nat.le_of_ble_eq_true rfl) (fun _ => rfl) (fun y23 e24 => ?_)
          rw [e24]
          obtain ⟨p34, hp35, h⟩ := Option.bind_eq_some_iff.mp h
          refine cl_X1_search_77 hN a1 i2 i3 x13 h1 g1 gF (0 : Int32) _ _ hp35 ?_
          refine g_iinc (pc := 106) (lv' := fun y => [(0, .ref (κ 0 + 106)), (1, .ref (κ 0 + a1)), (2, .int i2), (3, .int y), (4, .int x13), (5, .int p34.1)]) dX1_search_106 rfl (Nat.le_of_ble_eq_true rfl) (fun _ => rfl) (fun x36 e37 => ?_)
          rw [lt_of e37] at h
          refine g_goto (pc := 109) 28 dX1_search_109 (by decide) ?_
          refine g_lv (lv' := [(0, .ref (κ 0 + 106)), (1, .ref (κ 0 + a1)), (2, .int i2), (3, .int x36)]) rfl ?_
          exact ih _ _ _ h k
        refine g_if_eq (pc := 65) 72 dX1_search_65 (by decide) (fun hc38 => ?_) (fun hc38 => ?_)
        · refine g_iconst (pc := 72) (v := (-1 : Int32)) dX1_search_72 rfl ?_
          exact key20 _ (by rw [if_pos hc38])
        · refine g_iconst (pc := 68) (v := (0 : Int32)) dX1_search_68 rfl ?_
          refine g_goto (pc := 69) 73 dX1_search_69 (by decide) ?_
          exact key20 _ (by rw [if_neg hc38])
      refine g_if_ne (pc := 48) 55 dX1_search_48 (by decide) (fun hc39 => ?_) (fun hc39 => ?_)
      · refine g_iconst (pc := 55) (v := (0 : Int32)) dX1_search_55 rfl ?_
        exact key15 _ (by rw [if_neg hc39])
      · refine g_iconst (pc := 51) (v := (1 : Int32)) dX1_search_51 rfl ?_
        refine g_goto (pc := 52) 56 dX1_search_52 (by decide) ?_
        exact key15 _ (by rw [if_pos hc39])
set_option maxRecDepth 100000 in
set_option maxHeartbeats 4000000 in
theorem c_X1_search {κ : Nat → Nat} {N : Nat} (hN : 140 ≤ N) (a1 : Nat) (i2 : Int32) (h1 : kd a1 = 5) (μ : gMem) {μ' : gMem} (h : f_X1_search a1 i2 μ = some μ') : CT2 κ N 10 yX1_search iX1_search [.ref (κ 0 + 106), .ref (κ 0 + a1), .int i2] μ (qV μ') := by
  refine CT2.of (by decide) rfl rfl (Nat.le_of_ble_eq_true rfl) ?_
  unfold f_X1_search at h
  show RR κ N 10 iX1_search 0 [(0, .ref (κ 0 + 106)), (1, .ref (κ 0 + a1)), (2, .int i2)] [] μ _
  refine g_aload_n (pc := 0) dX1_search_0 rfl rfl ?_
  refine g_aload_n (pc := 1) dX1_search_1 rfl rfl ?_
  refine gf_X1_37 (pc := 2) rfl dX1_search_2 (Nat.lt_of_lt_of_le (kd_obj h1 (by decide)) hN) h1 ?_
  refine pf_X1_43 (pc := 5) rfl dX1_search_5 (Nat.lt_of_lt_of_le (by decide) hN) kd_106 (fun m1 e2 => ?_)
  rw [lt_of e2] at h
  refine g_aload_n (pc := 8) dX1_search_8 rfl rfl ?_
  refine g_aload_n (pc := 9) dX1_search_9 rfl rfl ?_
  refine gf_X1_44 (pc := 10) rfl dX1_search_10 (Nat.lt_of_lt_of_le (kd_obj h1 (by decide)) hN) h1 ?_
  refine pf_X1_47 (pc := 13) rfl dX1_search_13 (Nat.lt_of_lt_of_le (by decide) hN) kd_106 (fun m3 e4 => ?_)
  rw [lt_of e4] at h
  refine g_aload_n (pc := 16) dX1_search_16 rfl rfl ?_
  refine g_iload_n (pc := 17) dX1_search_17 rfl rfl ?_
  refine pf_X1_48 (pc := 18) rfl dX1_search_18 (Nat.lt_of_lt_of_le (by decide) hN) kd_106 (fun m5 e6 => ?_)
  rw [lt_of e6] at h
  refine g_aload_n (pc := 21) dX1_search_21 rfl rfl ?_
  refine g_iconst (pc := 22) (v := (-1 : Int32)) dX1_search_22 rfl ?_
  refine pf_X1_51 (pc := 23) rfl dX1_search_23 (Nat.lt_of_lt_of_le (by decide) hN) kd_106 (fun m7 e8 => ?_)
  rw [lt_of e8] at h
  refine g_iconst (pc := 26) (v := (0 : Int32)) dX1_search_26 rfl ?_
  refine g_istore_n (pc := 27) (lv' := fun y => [(0, .ref (κ 0 + 106)), (1, .ref (κ 0 + a1)), (2, .int i2), (3, .int y)]) dX1_search_27 rfl (Nat.le_of_ble_eq_true rfl) (fun _ => rfl) (fun y9 e10 => ?_)
  rw [e10]
  obtain ⟨p40, hp41, h⟩ := Option.bind_eq_some_iff.mp h
  refine cl_X1_search_28 hN a1 i2 h1 (Nat.lt_of_lt_of_le (kd_obj h1 (by decide)) hN) gF (0 : Int32) _ _ hp41 ?_
  refine g_aload_n (pc := 112) dX1_search_112 rfl rfl ?_
  refine g_iconst (pc := 113) (v := (0 : Int32)) dX1_search_113 rfl ?_
  obtain ⟨m43, hp42, h⟩ := Option.bind_eq_some_iff.mp h
  refine r_callV (ci := 1) (pc := 114) (c_X1_tryFrom hN 7 (0 : Int32) p40.2 hp42) yV_X1_tryFrom ⟨rfl, by decide⟩ pX1_tryFrom mL_X1_70 dX1_search_114 (Nat.le_of_ble_eq_true rfl) (Nat.le_of_ble_eq_true rfl) (Nat.lt_of_lt_of_le (by decide) hN) kd_106 rfl (rK_v ?_)
  cases h
  exact r_vret dX1_search_117 rfl rfl

def l_X2_takeAll_2 (a1 : Nat) (i2 : Int32) : Nat → Int32 → gMem → Option (Int32 × gMem)
  | 0, _, _ => none
  | n + 1, i3, μ =>
  if (μ 1 1) ≤ i3 then
  (some (i3, μ))
else
  (if inb i3 5 = true then
  (f_X8_copy 104 ((a1 + 1) + 1 + i3.toNatClampNeg) μ).bind (fun m6 =>
  (f_X2_fill i3 (m6 a1 0) i2 m6).bind (fun m8 =>
  lt (i3 + Int32.ofInt 1) (fun x9 =>
  l_X2_takeAll_2 a1 i2 n x9 m8))) else none)
def f_X2_takeAll (a1 : Nat) (i2 : Int32) (μ : gMem) : Option (gMem) :=
  (l_X2_takeAll_2 a1 i2 gF (0 : Int32) μ).bind (fun p11 =>
  lt (st p11.2 97 4 (((1 : Int32) <<< ((p11.2 1 1) &&& 31)) - (1 : Int32))) (fun m13 =>
  some m13))
set_option maxRecDepth 100000 in
set_option maxHeartbeats 4000000 in
theorem cl_X2_takeAll_2 {κ : Nat → Nat} {N : Nat} {Q : rQ} (hN : 140 ≤ N) (a1 : Nat) (i2 : Int32) (h1 : kd a1 = 5) (g1 : a1 < N) : ∀ (n : Nat) (i3 : Int32) (μ : gMem) (p : Int32 × gMem), l_X2_takeAll_2 a1 i2 n i3 μ = some p → RR κ N 6 iX2_takeAll 42 [(0, .ref (κ 0 + 97)), (1, .ref (κ 0 + a1)), (2, .int i2), (3, .int p.1)] [] p.2 Q → RR κ N 6 iX2_takeAll 2 [(0, .ref (κ 0 + 97)), (1, .ref (κ 0 + a1)), (2, .int i2), (3, .int i3)] [] μ Q := by
  intro n
  induction n with
  | zero =>
    intro i3 μ p h k
    unfold l_X2_takeAll_2 at h
    cases h
  | succ n ih =>
    intro i3 μ p h k
    unfold l_X2_takeAll_2 at h
    refine g_iload_n (pc := 2) dX2_takeAll_2 rfl rfl ?_
    refine g_aload_n (pc := 3) dX2_takeAll_3 rfl rfl ?_
    refine gf_X2_9 (pc := 4) rfl dX2_takeAll_4 (Nat.lt_of_lt_of_le (by decide) hN) kd_97 ?_
    refine gf_X2_31 (pc := 7) rfl dX2_takeAll_7 (Nat.lt_of_lt_of_le (by decide) hN) kd_1 ?_
    refine g_icmp_ge (pc := 10) 42 dX2_takeAll_10 (by decide) (fun hc3 => ?_) (fun hc3 => ?_)
    · rw [if_pos hc3] at h
      cases h
      exact k
    · rw [if_neg hc3] at h
      refine g_aload_n (pc := 13) dX2_takeAll_13 rfl rfl ?_
      refine gf_X2_23 (pc := 14) rfl dX2_takeAll_14 (Nat.lt_of_lt_of_le (by decide) hN) kd_97 ?_
      refine g_aload_n (pc := 17) dX2_takeAll_17 rfl rfl ?_
      refine gf_X2_37 (pc := 18) rfl dX2_takeAll_18 g1 h1 ?_
      refine g_iload_n (pc := 21) dX2_takeAll_21 rfl rfl ?_
      obtain ⟨hg4, h⟩ := gd_some h
      refine r_aald (pc := 22) 24 5 ((a1 + 1) + 1 + i3.toNatClampNeg) dX2_takeAll_22 (Nat.lt_of_lt_of_le (Nat.lt_of_lt_of_le (Nat.lt_of_succ_le (Nat.add_le_add_left (by decide : 2 ≤ 7) _)) (kd_scene h1).2.2) hN) (kd_scene h1).1 (by decide) (kd_scene h1).2.1 hg4 rfl ?_
      obtain ⟨m6, hp5, h⟩ := Option.bind_eq_some_iff.mp h
      refine r_callV (ci := 8) (pc := 23) (c_X8_copy hN 104 ((a1 + 1) + 1 + i3.toNatClampNeg) kd_104 ((kd_warr (kd_scene h1).1 (inb_lt hg4)).1) μ hp5) yV_X8_copy ⟨rfl, by decide⟩ pX8_copy mL_X2_43 dX2_takeAll_23 (Nat.le_of_ble_eq_true rfl) (Nat.le_of_ble_eq_true rfl) (Nat.lt_of_lt_of_le (by decide) hN) kd_104 rfl (rK_v ?_)
      refine g_aload_n (pc := 26) dX2_takeAll_26 rfl rfl ?_
      refine g_iload_n (pc := 27) dX2_takeAll_27 rfl rfl ?_
      refine g_aload_n (pc := 28) dX2_takeAll_28 rfl rfl ?_
      refine gf_X2_47 (pc := 29) rfl dX2_takeAll_29 g1 h1 ?_
      refine g_iload_n (pc := 32) dX2_takeAll_32 rfl rfl ?_
      obtain ⟨m8, hp7, h⟩ := Option.bind_eq_some_iff.mp h
      refine r_callV (ci := 2) (pc := 33) (c_X2_fill hN i3 (m6 a1 0) i2 m6 hp7) yV_X2_fill ⟨rfl, by decide⟩ pX2_fill mL_X2_50 dX2_takeAll_33 (Nat.le_of_ble_eq_true rfl) (Nat.le_of_ble_eq_true rfl) (Nat.lt_of_lt_of_le (by decide) hN) kd_97 rfl (rK_v ?_)
      refine g_iinc (pc := 36) (lv' := fun y => [(0, .ref (κ 0 + 97)), (1, .ref (κ 0 + a1)), (2, .int i2), (3, .int y)]) dX2_takeAll_36 rfl (Nat.le_of_ble_eq_true rfl) (fun _ => rfl) (fun x9 e10 => ?_)
      rw [lt_of e10] at h
      refine g_goto (pc := 39) 2 dX2_takeAll_39 (by decide) ?_
      refine g_lv (lv' := [(0, .ref (κ 0 + 97)), (1, .ref (κ 0 + a1)), (2, .int i2), (3, .int x9)]) rfl ?_
      exact ih _ _ _ h k
set_option maxRecDepth 100000 in
set_option maxHeartbeats 4000000 in
theorem c_X2_takeAll {κ : Nat → Nat} {N : Nat} (hN : 140 ≤ N) (a1 : Nat) (i2 : Int32) (h1 : kd a1 = 5) (μ : gMem) {μ' : gMem} (h : f_X2_takeAll a1 i2 μ = some μ') : CT2 κ N 6 yX2_takeAll iX2_takeAll [.ref (κ 0 + 97), .ref (κ 0 + a1), .int i2] μ (qV μ') := by
  refine CT2.of (by decide) rfl rfl (Nat.le_of_ble_eq_true rfl) ?_
  unfold f_X2_takeAll at h
  show RR κ N 6 iX2_takeAll 0 [(0, .ref (κ 0 + 97)), (1, .ref (κ 0 + a1)), (2, .int i2)] [] μ _
  refine g_iconst (pc := 0) (v := (0 : Int32)) dX2_takeAll_0 rfl ?_
  refine g_istore_n (pc := 1) (lv' := fun y => [(0, .ref (κ 0 + 97)), (1, .ref (κ 0 + a1)), (2, .int i2), (3, .int y)]) dX2_takeAll_1 rfl (Nat.le_of_ble_eq_true rfl) (fun _ => rfl) (fun y1 e2 => ?_)
  rw [e2]
  obtain ⟨p11, hp12, h⟩ := Option.bind_eq_some_iff.mp h
  refine cl_X2_takeAll_2 hN a1 i2 h1 (Nat.lt_of_lt_of_le (kd_obj h1 (by decide)) hN) gF (0 : Int32) _ _ hp12 ?_
  refine g_aload_n (pc := 42) dX2_takeAll_42 rfl rfl ?_
  refine g_iconst (pc := 43) (v := (1 : Int32)) dX2_takeAll_43 rfl ?_
  refine g_aload_n (pc := 44) dX2_takeAll_44 rfl rfl ?_
  refine gf_X2_9 (pc := 45) rfl dX2_takeAll_45 (Nat.lt_of_lt_of_le (by decide) hN) kd_97 ?_
  refine gf_X2_31 (pc := 48) rfl dX2_takeAll_48 (Nat.lt_of_lt_of_le (by decide) hN) kd_1 ?_
  refine g_ishl (pc := 51) dX2_takeAll_51 ?_
  refine g_iconst (pc := 52) (v := (1 : Int32)) dX2_takeAll_52 rfl ?_
  refine g_isub (pc := 53) dX2_takeAll_53 ?_
  refine pf_X2_54 (pc := 54) rfl dX2_takeAll_54 (Nat.lt_of_lt_of_le (by decide) hN) kd_97 (fun m13 e14 => ?_)
  rw [lt_of e14] at h
  cases h
  exact r_vret dX2_takeAll_57 rfl rfl

def f_X2_takeOne (a1 : Nat) (i2 : Int32) (i3 : Int32) (i4 : Int32) (μ : gMem) : Option (gMem) :=
  if inb i2 5 = true then
  (f_X8_copy 104 ((a1 + 1) + 1 + i2.toNatClampNeg) μ).bind (fun m3 =>
  lt (st m3 104 4 ((m3 104 4) + i3)) (fun m4 =>
  (f_X2_fill i2 (m4 a1 0) i4 m4).bind (fun m7 =>
  some m7))) else none
set_option maxRecDepth 100000 in
set_option maxHeartbeats 4000000 in
theorem c_X2_takeOne {κ : Nat → Nat} {N : Nat} (hN : 140 ≤ N) (a1 : Nat) (i2 : Int32) (i3 : Int32) (i4 : Int32) (h1 : kd a1 = 5) (μ : gMem) {μ' : gMem} (h : f_X2_takeOne a1 i2 i3 i4 μ = some μ') : CT2 κ N 6 yX2_takeOne iX2_takeOne [.ref (κ 0 + 97), .ref (κ 0 + a1), .int i2, .int i3, .int i4] μ (qV μ') := by
  refine CT2.of (by decide) rfl rfl (Nat.le_of_ble_eq_true rfl) ?_
  unfold f_X2_takeOne at h
  show RR κ N 6 iX2_takeOne 0 [(0, .ref (κ 0 + 97)), (1, .ref (κ 0 + a1)), (2, .int i2), (3, .int i3), (4, .int i4)] [] μ _
  refine g_aload_n (pc := 0) dX2_takeOne_0 rfl rfl ?_
  refine gf_X2_23 (pc := 1) rfl dX2_takeOne_1 (Nat.lt_of_lt_of_le (by decide) hN) kd_97 ?_
  refine g_aload_n (pc := 4) dX2_takeOne_4 rfl rfl ?_
  refine gf_X2_37 (pc := 5) rfl dX2_takeOne_5 (Nat.lt_of_lt_of_le (kd_obj h1 (by decide)) hN) h1 ?_
  refine g_iload_n (pc := 8) dX2_takeOne_8 rfl rfl ?_
  obtain ⟨hg1, h⟩ := gd_some h
  refine r_aald (pc := 9) 24 5 ((a1 + 1) + 1 + i2.toNatClampNeg) dX2_takeOne_9 (Nat.lt_of_lt_of_le (Nat.lt_of_lt_of_le (Nat.lt_of_succ_le (Nat.add_le_add_left (by decide : 2 ≤ 7) _)) (kd_scene h1).2.2) hN) (kd_scene h1).1 (by decide) (kd_scene h1).2.1 hg1 rfl ?_
  obtain ⟨m3, hp2, h⟩ := Option.bind_eq_some_iff.mp h
  refine r_callV (ci := 8) (pc := 10) (c_X8_copy hN 104 ((a1 + 1) + 1 + i2.toNatClampNeg) kd_104 ((kd_warr (kd_scene h1).1 (inb_lt hg1)).1) μ hp2) yV_X8_copy ⟨rfl, by decide⟩ pX8_copy mL_X2_43 dX2_takeOne_10 (Nat.le_of_ble_eq_true rfl) (Nat.le_of_ble_eq_true rfl) (Nat.lt_of_lt_of_le (by decide) hN) kd_104 rfl (rK_v ?_)
  refine g_aload_n (pc := 13) dX2_takeOne_13 rfl rfl ?_
  refine gf_X2_23 (pc := 14) rfl dX2_takeOne_14 (Nat.lt_of_lt_of_le (by decide) hN) kd_97 ?_
  refine g_dup (pc := 17) dX2_takeOne_17 rfl ?_
  refine gf_X2_57 (pc := 18) rfl dX2_takeOne_18 (Nat.lt_of_lt_of_le (by decide) hN) kd_104 ?_
  refine g_iload_n (pc := 21) dX2_takeOne_21 rfl rfl ?_
  refine g_iadd (pc := 22) dX2_takeOne_22 ?_
  refine pf_X2_57 (pc := 23) rfl dX2_takeOne_23 (Nat.lt_of_lt_of_le (by decide) hN) kd_104 (fun m4 e5 => ?_)
  rw [lt_of e5] at h
  refine g_aload_n (pc := 26) dX2_takeOne_26 rfl rfl ?_
  refine g_iload_n (pc := 27) dX2_takeOne_27 rfl rfl ?_
  refine g_aload_n (pc := 28) dX2_takeOne_28 rfl rfl ?_
  refine gf_X2_47 (pc := 29) rfl dX2_takeOne_29 (Nat.lt_of_lt_of_le (kd_obj h1 (by decide)) hN) h1 ?_
  refine g_iload (pc := 32) dX2_takeOne_32 rfl ?_
  obtain ⟨m7, hp6, h⟩ := Option.bind_eq_some_iff.mp h
  refine r_callV (ci := 2) (pc := 34) (c_X2_fill hN i2 (m4 a1 0) i4 m4 hp6) yV_X2_fill ⟨rfl, by decide⟩ pX2_fill mL_X2_50 dX2_takeOne_34 (Nat.le_of_ble_eq_true rfl) (Nat.le_of_ble_eq_true rfl) (Nat.lt_of_lt_of_le (by decide) hN) kd_97 rfl (rK_v ?_)
  cases h
  exact r_vret dX2_takeOne_37 rfl rfl

def l_X2_takeBegun_2 (i1 : Int32) : Nat → Int32 → gMem → Option (Int32 × gMem)
  | 0, _, _ => none
  | n + 1, i2, μ =>
  if (μ 1 1) ≤ i2 then
  (some (i2, μ))
else
  ((f_X8_startAnew 104 μ).bind (fun m5 =>
  if inb i2 5 = true then
  (f_X8_draw 104 (2 + 1 + i2.toNatClampNeg) m5).bind (fun m8 =>
  (f_X2_fill i2 (0 : Int32) i1 m8).bind (fun m10 =>
  lt (i2 + Int32.ofInt 1) (fun x11 =>
  l_X2_takeBegun_2 i1 n x11 m10))) else none))
def f_X2_takeBegun (i1 : Int32) (μ : gMem) : Option (gMem) :=
  (l_X2_takeBegun_2 i1 gF (0 : Int32) μ).bind (fun p13 =>
  some p13.2)
set_option maxRecDepth 100000 in
set_option maxHeartbeats 4000000 in
theorem cl_X2_takeBegun_2 {κ : Nat → Nat} {N : Nat} {Q : rQ} (hN : 140 ≤ N) (i1 : Int32)  : ∀ (n : Nat) (i2 : Int32) (μ : gMem) (p : Int32 × gMem), l_X2_takeBegun_2 i1 n i2 μ = some p → RR κ N 6 iX2_takeBegun 49 [(0, .ref (κ 0 + 97)), (1, .int i1), (2, .int p.1)] [] p.2 Q → RR κ N 6 iX2_takeBegun 2 [(0, .ref (κ 0 + 97)), (1, .int i1), (2, .int i2)] [] μ Q := by
  intro n
  induction n with
  | zero =>
    intro i2 μ p h k
    unfold l_X2_takeBegun_2 at h
    cases h
  | succ n ih =>
    intro i2 μ p h k
    unfold l_X2_takeBegun_2 at h
    refine g_iload_n (pc := 2) dX2_takeBegun_2 rfl rfl ?_
    refine g_aload_n (pc := 3) dX2_takeBegun_3 rfl rfl ?_
    refine gf_X2_9 (pc := 4) rfl dX2_takeBegun_4 (Nat.lt_of_lt_of_le (by decide) hN) kd_97 ?_
    refine gf_X2_31 (pc := 7) rfl dX2_takeBegun_7 (Nat.lt_of_lt_of_le (by decide) hN) kd_1 ?_
    refine g_icmp_ge (pc := 10) 49 dX2_takeBegun_10 (by decide) (fun hc3 => ?_) (fun hc3 => ?_)
    · rw [if_pos hc3] at h
      cases h
      exact k
    · rw [if_neg hc3] at h
      refine g_aload_n (pc := 13) dX2_takeBegun_13 rfl rfl ?_
      refine gf_X2_23 (pc := 14) rfl dX2_takeBegun_14 (Nat.lt_of_lt_of_le (by decide) hN) kd_97 ?_
      obtain ⟨m5, hp4, h⟩ := Option.bind_eq_some_iff.mp h
      refine r_callV (ci := 8) (pc := 17) (c_X8_startAnew hN 104 kd_104 μ hp4) yV_X8_startAnew ⟨rfl, by decide⟩ pX8_startAnew mL_X2_60 dX2_takeBegun_17 (Nat.le_of_ble_eq_true rfl) (Nat.le_of_ble_eq_true rfl) (Nat.lt_of_lt_of_le (by decide) hN) kd_104 rfl (rK_v ?_)
      refine g_aload_n (pc := 20) dX2_takeBegun_20 rfl rfl ?_
      refine gf_X2_23 (pc := 21) rfl dX2_takeBegun_21 (Nat.lt_of_lt_of_le (by decide) hN) kd_97 ?_
      refine g_aload_n (pc := 24) dX2_takeBegun_24 rfl rfl ?_
      refine gf_X2_9 (pc := 25) rfl dX2_takeBegun_25 (Nat.lt_of_lt_of_le (by decide) hN) kd_97 ?_
      refine gf_X2_63 (pc := 28) rfl dX2_takeBegun_28 (Nat.lt_of_lt_of_le (by decide) hN) kd_1 ?_
      refine g_iload_n (pc := 31) dX2_takeBegun_31 rfl rfl ?_
      obtain ⟨hg6, h⟩ := gd_some h
      refine r_aald (pc := 32) 23 5 (2 + 1 + i2.toNatClampNeg) dX2_takeBegun_32 (Nat.lt_of_lt_of_le (by decide) hN) kd_2 (by decide) ln_2 hg6 rfl ?_
      obtain ⟨m8, hp7, h⟩ := Option.bind_eq_some_iff.mp h
      refine r_callV (ci := 8) (pc := 33) (c_X8_draw hN 104 (2 + 1 + i2.toNatClampNeg) kd_104 ((kd_sis (inb_lt hg6)).1) m5 hp7) yV_X8_draw ⟨rfl, by decide⟩ pX8_draw mL_X2_67 dX2_takeBegun_33 (Nat.le_of_ble_eq_true rfl) (Nat.le_of_ble_eq_true rfl) (Nat.lt_of_lt_of_le (by decide) hN) kd_104 rfl (rK_v ?_)
      refine g_aload_n (pc := 36) dX2_takeBegun_36 rfl rfl ?_
      refine g_iload_n (pc := 37) dX2_takeBegun_37 rfl rfl ?_
      refine g_iconst (pc := 38) (v := (0 : Int32)) dX2_takeBegun_38 rfl ?_
      refine g_iload_n (pc := 39) dX2_takeBegun_39 rfl rfl ?_
      obtain ⟨m10, hp9, h⟩ := Option.bind_eq_some_iff.mp h
      refine r_callV (ci := 2) (pc := 40) (c_X2_fill hN i2 (0 : Int32) i1 m8 hp9) yV_X2_fill ⟨rfl, by decide⟩ pX2_fill mL_X2_50 dX2_takeBegun_40 (Nat.le_of_ble_eq_true rfl) (Nat.le_of_ble_eq_true rfl) (Nat.lt_of_lt_of_le (by decide) hN) kd_97 rfl (rK_v ?_)
      refine g_iinc (pc := 43) (lv' := fun y => [(0, .ref (κ 0 + 97)), (1, .int i1), (2, .int y)]) dX2_takeBegun_43 rfl (Nat.le_of_ble_eq_true rfl) (fun _ => rfl) (fun x11 e12 => ?_)
      rw [lt_of e12] at h
      refine g_goto (pc := 46) 2 dX2_takeBegun_46 (by decide) ?_
      refine g_lv (lv' := [(0, .ref (κ 0 + 97)), (1, .int i1), (2, .int x11)]) rfl ?_
      exact ih _ _ _ h k
set_option maxRecDepth 100000 in
set_option maxHeartbeats 4000000 in
theorem c_X2_takeBegun {κ : Nat → Nat} {N : Nat} (hN : 140 ≤ N) (i1 : Int32)  (μ : gMem) {μ' : gMem} (h : f_X2_takeBegun i1 μ = some μ') : CT2 κ N 6 yX2_takeBegun iX2_takeBegun [.ref (κ 0 + 97), .int i1] μ (qV μ') := by
  refine CT2.of (by decide) rfl rfl (Nat.le_of_ble_eq_true rfl) ?_
  unfold f_X2_takeBegun at h
  show RR κ N 6 iX2_takeBegun 0 [(0, .ref (κ 0 + 97)), (1, .int i1)] [] μ _
  refine g_iconst (pc := 0) (v := (0 : Int32)) dX2_takeBegun_0 rfl ?_
  refine g_istore_n (pc := 1) (lv' := fun y => [(0, .ref (κ 0 + 97)), (1, .int i1), (2, .int y)]) dX2_takeBegun_1 rfl (Nat.le_of_ble_eq_true rfl) (fun _ => rfl) (fun y1 e2 => ?_)
  rw [e2]
  obtain ⟨p13, hp14, h⟩ := Option.bind_eq_some_iff.mp h
  refine cl_X2_takeBegun_2 hN i1  gF (0 : Int32) _ _ hp14 ?_
  cases h
  exact r_vret dX2_takeBegun_49 rfl rfl

def f_X10_fault  (μ : gMem) : Option (Int32 × gMem) :=
  (f_X0_read (μ 1 1) μ).bind (fun p2 =>
  some (p2.1, p2.2))
set_option maxRecDepth 100000 in
set_option maxHeartbeats 4000000 in
theorem c_X10_fault {κ : Nat → Nat} {N : Nat} (hN : 140 ≤ N)   (μ : gMem) {r : Int32} {μ' : gMem} (h : f_X10_fault  μ = some (r, μ')) : CT2 κ N 9 yX10_fault iX10_fault [.ref (κ 0 + 0)] μ (qI r μ') := by
  refine CT2.of (by decide) rfl rfl (Nat.le_of_ble_eq_true rfl) ?_
  unfold f_X10_fault at h
  show RR κ N 9 iX10_fault 0 [(0, .ref (κ 0 + 0))] [] μ _
  refine g_aload_n (pc := 0) dX10_fault_0 rfl rfl ?_
  refine gf_X10_26 (pc := 1) rfl dX10_fault_1 (Nat.lt_of_lt_of_le (by decide) hN) kd_0 ?_
  refine g_aload_n (pc := 4) dX10_fault_4 rfl rfl ?_
  refine gf_X10_19 (pc := 5) rfl dX10_fault_5 (Nat.lt_of_lt_of_le (by decide) hN) kd_0 ?_
  refine g_aload_n (pc := 8) dX10_fault_8 rfl rfl ?_
  refine gf_X10_10 (pc := 9) rfl dX10_fault_9 (Nat.lt_of_lt_of_le (by decide) hN) kd_0 ?_
  refine gf_X10_94 (pc := 12) rfl dX10_fault_12 (Nat.lt_of_lt_of_le (by decide) hN) kd_1 ?_
  obtain ⟨p2, hp1, h⟩ := Option.bind_eq_some_iff.mp h
  refine r_callV (ci := 0) (pc := 15) (c_X0_read hN (μ 1 1) μ hp1) yV_X0_read ⟨rfl, by decide⟩ pX0_read mL_X10_97 dX10_fault_15 (Nat.le_of_ble_eq_true rfl) (Nat.le_of_ble_eq_true rfl) (Nat.lt_of_lt_of_le (by decide) hN) kd_10 rfl (rK_i ?_)
  cases h
  exact r_iret dX10_fault_18 rfl rfl rfl

def l_X10_well_27  : Nat → Int32 → gMem → Option (Int32 × gMem)
  | 0, _, _ => none
  | n + 1, i1, μ =>
  if (μ 10 5) ≤ i1 then
  (some (i1, μ))
else
  (if inb i1 14 = true then
  (f_X7_hear (μ 12 i1.toNatClampNeg) (μ 13 i1.toNatClampNeg) (μ 14 i1.toNatClampNeg) (μ 15 i1.toNatClampNeg) μ).bind (fun m9 =>
  lt (i1 + Int32.ofInt 1) (fun x10 =>
  l_X10_well_27 n x10 m9)) else none)
def l_X10_well_119  : Nat → Int32 → gMem → Option (Int32 × gMem)
  | 0, _, _ => none
  | n + 1, i1, μ =>
  if (2 : Int32) ≤ i1 then
  (some (i1, μ))
else
  (if inb i1 2 = true then
  lt (st μ 96 i1.toNatClampNeg (0 : Int32)) (fun m23 =>
  lt (i1 + Int32.ofInt 1) (fun x26 =>
  l_X10_well_119 n x26 m23)) else none)
def f_X10_well  (μ : gMem) : Option (Int32 × gMem) :=
  (f_X0_read (μ 1 1) μ).bind (fun p2 =>
  if p2.1 = (-1 : Int32) then
  ((l_X10_well_27 gF (0 : Int32) p2.2).bind (fun p12 =>
  lt (st p12.2 8 1 (0 : Int32)) (fun m14 =>
  (f_X5_startAnew 16 (m14 1 5) m14).bind (fun m17 =>
  lt (st m17 23 2 (0 : Int32)) (fun m18 =>
  (l_X10_well_119 gF (0 : Int32) m18).bind (fun p28 =>
  lt (st p28.2 0 11 (0 : Int32)) (fun m30 =>
  some ((m30 10 5), m30))))))))
else
  (some ((-4 : Int32), p2.2)))
set_option maxRecDepth 100000 in
set_option maxHeartbeats 4000000 in
theorem cl_X10_well_27 {κ : Nat → Nat} {N : Nat} {Q : rQ} (hN : 140 ≤ N)   : ∀ (n : Nat) (i1 : Int32) (μ : gMem) (p : Int32 × gMem), l_X10_well_27 n i1 μ = some p → RR κ N 9 iX10_well 87 [(0, .ref (κ 0 + 0)), (1, .int p.1)] [] p.2 Q → RR κ N 9 iX10_well 27 [(0, .ref (κ 0 + 0)), (1, .int i1)] [] μ Q := by
  intro n
  induction n with
  | zero =>
    intro i1 μ p h k
    unfold l_X10_well_27 at h
    cases h
  | succ n ih =>
    intro i1 μ p h k
    unfold l_X10_well_27 at h
    refine g_iload_n (pc := 27) dX10_well_27 rfl rfl ?_
    refine g_aload_n (pc := 28) dX10_well_28 rfl rfl ?_
    refine gf_X10_26 (pc := 29) rfl dX10_well_29 (Nat.lt_of_lt_of_le (by decide) hN) kd_0 ?_
    refine gf_X10_101 (pc := 32) rfl dX10_well_32 (Nat.lt_of_lt_of_le (by decide) hN) kd_10 ?_
    refine g_icmp_ge (pc := 35) 87 dX10_well_35 (by decide) (fun hc6 => ?_) (fun hc6 => ?_)
    · rw [if_pos hc6] at h
      cases h
      exact k
    · rw [if_neg hc6] at h
      refine g_aload_n (pc := 38) dX10_well_38 rfl rfl ?_
      refine gf_X10_10 (pc := 39) rfl dX10_well_39 (Nat.lt_of_lt_of_le (by decide) hN) kd_0 ?_
      refine g_aload_n (pc := 42) dX10_well_42 rfl rfl ?_
      refine gf_X10_26 (pc := 43) rfl dX10_well_43 (Nat.lt_of_lt_of_le (by decide) hN) kd_0 ?_
      refine gf_X10_102 (pc := 46) rfl dX10_well_46 (Nat.lt_of_lt_of_le (by decide) hN) kd_10 ?_
      refine g_iload_n (pc := 49) dX10_well_49 rfl rfl ?_
      obtain ⟨hg7, h⟩ := gd_some h
      refine r_iald (pc := 50) 14 dX10_well_50 (Nat.lt_of_lt_of_le (by decide) hN) kd_12 ln_12 hg7 ?_
      refine g_aload_n (pc := 51) dX10_well_51 rfl rfl ?_
      refine gf_X10_26 (pc := 52) rfl dX10_well_52 (Nat.lt_of_lt_of_le (by decide) hN) kd_0 ?_
      refine gf_X10_105 (pc := 55) rfl dX10_well_55 (Nat.lt_of_lt_of_le (by decide) hN) kd_10 ?_
      refine g_iload_n (pc := 58) dX10_well_58 rfl rfl ?_
      refine r_iald (pc := 59) 14 dX10_well_59 (Nat.lt_of_lt_of_le (by decide) hN) kd_13 ln_13 hg7 ?_
      refine g_aload_n (pc := 60) dX10_well_60 rfl rfl ?_
      refine gf_X10_26 (pc := 61) rfl dX10_well_61 (Nat.lt_of_lt_of_le (by decide) hN) kd_0 ?_
      refine gf_X10_108 (pc := 64) rfl dX10_well_64 (Nat.lt_of_lt_of_le (by decide) hN) kd_10 ?_
      refine g_iload_n (pc := 67) dX10_well_67 rfl rfl ?_
      refine r_iald (pc := 68) 14 dX10_well_68 (Nat.lt_of_lt_of_le (by decide) hN) kd_14 ln_14 hg7 ?_
      refine g_aload_n (pc := 69) dX10_well_69 rfl rfl ?_
      refine gf_X10_26 (pc := 70) rfl dX10_well_70 (Nat.lt_of_lt_of_le (by decide) hN) kd_0 ?_
      refine gf_X10_111 (pc := 73) rfl dX10_well_73 (Nat.lt_of_lt_of_le (by decide) hN) kd_10 ?_
      refine g_iload_n (pc := 76) dX10_well_76 rfl rfl ?_
      refine r_iald (pc := 77) 14 dX10_well_77 (Nat.lt_of_lt_of_le (by decide) hN) kd_15 ln_15 hg7 ?_
      obtain ⟨m9, hp8, h⟩ := Option.bind_eq_some_iff.mp h
      refine r_callV (ci := 7) (pc := 78) (c_X7_hear hN (μ 12 i1.toNatClampNeg) (μ 13 i1.toNatClampNeg) (μ 14 i1.toNatClampNeg) (μ 15 i1.toNatClampNeg) μ hp8) yV_X7_hear ⟨rfl, by decide⟩ pX7_hear mL_X10_114 dX10_well_78 (Nat.le_of_ble_eq_true rfl) (Nat.le_of_ble_eq_true rfl) (Nat.lt_of_lt_of_le (by decide) hN) kd_1 rfl (rK_v ?_)
      refine g_iinc (pc := 81) (lv' := fun y => [(0, .ref (κ 0 + 0)), (1, .int y)]) dX10_well_81 rfl (Nat.le_of_ble_eq_true rfl) (fun _ => rfl) (fun x10 e11 => ?_)
      rw [lt_of e11] at h
      refine g_goto (pc := 84) 27 dX10_well_84 (by decide) ?_
      refine g_lv (lv' := [(0, .ref (κ 0 + 0)), (1, .int x10)]) rfl ?_
      exact ih _ _ _ h k
set_option maxRecDepth 100000 in
set_option maxHeartbeats 4000000 in
theorem cl_X10_well_119 {κ : Nat → Nat} {N : Nat} {Q : rQ} (hN : 140 ≤ N)   : ∀ (n : Nat) (i1 : Int32) (μ : gMem) (p : Int32 × gMem), l_X10_well_119 n i1 μ = some p → RR κ N 9 iX10_well 137 [(0, .ref (κ 0 + 0)), (1, .int p.1)] [] p.2 Q → RR κ N 9 iX10_well 119 [(0, .ref (κ 0 + 0)), (1, .int i1)] [] μ Q := by
  intro n
  induction n with
  | zero =>
    intro i1 μ p h k
    unfold l_X10_well_119 at h
    cases h
  | succ n ih =>
    intro i1 μ p h k
    unfold l_X10_well_119 at h
    refine g_iload_n (pc := 119) dX10_well_119 rfl rfl ?_
    refine g_iconst (pc := 120) (v := (2 : Int32)) dX10_well_120 rfl ?_
    refine g_icmp_ge (pc := 121) 137 dX10_well_121 (by decide) (fun hc22 => ?_) (fun hc22 => ?_)
    · rw [if_pos hc22] at h
      cases h
      exact k
    · rw [if_neg hc22] at h
      refine g_aload_n (pc := 124) dX10_well_124 rfl rfl ?_
      refine gf_X10_48 (pc := 125) rfl dX10_well_125 (Nat.lt_of_lt_of_le (by decide) hN) kd_0 ?_
      refine g_iload_n (pc := 128) dX10_well_128 rfl rfl ?_
      refine g_iconst (pc := 129) (v := (0 : Int32)) dX10_well_129 rfl ?_
      obtain ⟨hg25, h⟩ := gd_some h
      refine r_zast (pc := 130) 2 dX10_well_130 (Nat.lt_of_lt_of_le (by decide) hN) kd_96 ln_96 hg25 rfl (fun m23 e24 => ?_)
      rw [lt_of e24] at h
      refine g_iinc (pc := 131) (lv' := fun y => [(0, .ref (κ 0 + 0)), (1, .int y)]) dX10_well_131 rfl (Nat.le_of_ble_eq_true rfl) (fun _ => rfl) (fun x26 e27 => ?_)
      rw [lt_of e27] at h
      refine g_goto (pc := 134) 119 dX10_well_134 (by decide) ?_
      refine g_lv (lv' := [(0, .ref (κ 0 + 0)), (1, .int x26)]) rfl ?_
      exact ih _ _ _ h k
set_option maxRecDepth 100000 in
set_option maxHeartbeats 4000000 in
theorem c_X10_well {κ : Nat → Nat} {N : Nat} (hN : 140 ≤ N)   (μ : gMem) {r : Int32} {μ' : gMem} (h : f_X10_well  μ = some (r, μ')) : CT2 κ N 9 yX10_well iX10_well [.ref (κ 0 + 0)] μ (qI r μ') := by
  refine CT2.of (by decide) rfl rfl (Nat.le_of_ble_eq_true rfl) ?_
  unfold f_X10_well at h
  show RR κ N 9 iX10_well 0 [(0, .ref (κ 0 + 0))] [] μ _
  refine g_aload_n (pc := 0) dX10_well_0 rfl rfl ?_
  refine gf_X10_26 (pc := 1) rfl dX10_well_1 (Nat.lt_of_lt_of_le (by decide) hN) kd_0 ?_
  refine g_aload_n (pc := 4) dX10_well_4 rfl rfl ?_
  refine gf_X10_19 (pc := 5) rfl dX10_well_5 (Nat.lt_of_lt_of_le (by decide) hN) kd_0 ?_
  refine g_aload_n (pc := 8) dX10_well_8 rfl rfl ?_
  refine gf_X10_10 (pc := 9) rfl dX10_well_9 (Nat.lt_of_lt_of_le (by decide) hN) kd_0 ?_
  refine gf_X10_94 (pc := 12) rfl dX10_well_12 (Nat.lt_of_lt_of_le (by decide) hN) kd_1 ?_
  obtain ⟨p2, hp1, h⟩ := Option.bind_eq_some_iff.mp h
  refine r_callV (ci := 0) (pc := 15) (c_X0_read hN (μ 1 1) μ hp1) yV_X0_read ⟨rfl, by decide⟩ pX0_read mL_X10_97 dX10_well_15 (Nat.le_of_ble_eq_true rfl) (Nat.le_of_ble_eq_true rfl) (Nat.lt_of_lt_of_le (by decide) hN) kd_10 rfl (rK_i ?_)
  refine g_iconst (pc := 18) (v := (-1 : Int32)) dX10_well_18 rfl ?_
  refine g_icmp_eq (pc := 19) 25 dX10_well_19 (by decide) (fun hc3 => ?_) (fun hc3 => ?_)
  · rw [if_pos hc3] at h
    refine g_iconst (pc := 25) (v := (0 : Int32)) dX10_well_25 rfl ?_
    refine g_istore_n (pc := 26) (lv' := fun y => [(0, .ref (κ 0 + 0)), (1, .int y)]) dX10_well_26 rfl (Nat.le_of_ble_eq_true rfl) (fun _ => rfl) (fun y4 e5 => ?_)
    rw [e5]
    obtain ⟨p12, hp13, h⟩ := Option.bind_eq_some_iff.mp h
    refine cl_X10_well_27 hN   gF (0 : Int32) _ _ hp13 ?_
    refine g_aload_n (pc := 87) dX10_well_87 rfl rfl ?_
    refine gf_X10_19 (pc := 88) rfl dX10_well_88 (Nat.lt_of_lt_of_le (by decide) hN) kd_0 ?_
    refine g_iconst (pc := 91) (v := (0 : Int32)) dX10_well_91 rfl ?_
    refine pf_X10_91 (pc := 92) rfl dX10_well_92 (Nat.lt_of_lt_of_le (by decide) hN) kd_8 (fun m14 e15 => ?_)
    rw [lt_of e15] at h
    refine g_aload_n (pc := 95) dX10_well_95 rfl rfl ?_
    refine gf_X10_33 (pc := 96) rfl dX10_well_96 (Nat.lt_of_lt_of_le (by decide) hN) kd_0 ?_
    refine g_aload_n (pc := 99) dX10_well_99 rfl rfl ?_
    refine gf_X10_10 (pc := 100) rfl dX10_well_100 (Nat.lt_of_lt_of_le (by decide) hN) kd_0 ?_
    refine gf_X10_75 (pc := 103) rfl dX10_well_103 (Nat.lt_of_lt_of_le (by decide) hN) kd_1 ?_
    obtain ⟨m17, hp16, h⟩ := Option.bind_eq_some_iff.mp h
    refine r_callV (ci := 5) (pc := 106) (c_X5_startAnew hN 16 (m14 1 5) kd_16 m14 hp16) yV_X5_startAnew ⟨rfl, by decide⟩ pX5_startAnew mL_X10_79 dX10_well_106 (Nat.le_of_ble_eq_true rfl) (Nat.le_of_ble_eq_true rfl) (Nat.lt_of_lt_of_le (by decide) hN) kd_16 rfl (rK_v ?_)
    refine g_aload_n (pc := 109) dX10_well_109 rfl rfl ?_
    refine gf_X10_40 (pc := 110) rfl dX10_well_110 (Nat.lt_of_lt_of_le (by decide) hN) kd_0 ?_
    refine g_iconst (pc := 113) (v := (0 : Int32)) dX10_well_113 rfl ?_
    refine pf_X10_118 (pc := 114) rfl dX10_well_114 (Nat.lt_of_lt_of_le (by decide) hN) kd_23 (fun m18 e19 => ?_)
    rw [lt_of e19] at h
    refine g_iconst (pc := 117) (v := (0 : Int32)) dX10_well_117 rfl ?_
    refine g_istore_n (pc := 118) (lv' := fun y => [(0, .ref (κ 0 + 0)), (1, .int y)]) dX10_well_118 rfl (Nat.le_of_ble_eq_true rfl) (fun _ => rfl) (fun y20 e21 => ?_)
    rw [e21]
    obtain ⟨p28, hp29, h⟩ := Option.bind_eq_some_iff.mp h
    refine cl_X10_well_119 hN   gF (0 : Int32) _ _ hp29 ?_
    refine g_aload_n (pc := 137) dX10_well_137 rfl rfl ?_
    refine g_iconst (pc := 138) (v := (0 : Int32)) dX10_well_138 rfl ?_
    refine pf_X10_121 (pc := 139) rfl dX10_well_139 (Nat.lt_of_lt_of_le (by decide) hN) kd_0 (fun m30 e31 => ?_)
    rw [lt_of e31] at h
    refine g_aload_n (pc := 142) dX10_well_142 rfl rfl ?_
    refine gf_X10_26 (pc := 143) rfl dX10_well_143 (Nat.lt_of_lt_of_le (by decide) hN) kd_0 ?_
    refine gf_X10_101 (pc := 146) rfl dX10_well_146 (Nat.lt_of_lt_of_le (by decide) hN) kd_10 ?_
    cases h
    exact r_iret dX10_well_149 rfl rfl rfl
  · rw [if_neg hc3] at h
    refine g_bipush (pc := 22) (v := (-4 : Int32)) dX10_well_22 rfl ?_
    cases h
    exact r_iret dX10_well_24 rfl rfl rfl

def f_X10_level (i1 : Int32) (μ : gMem) : Option (Int32 × gMem) :=
  (f_X10_isOutside i1 (0 : Int32) (99 : Int32) μ).bind (fun p2 =>
  if p2.1 = 0 then
  ((f_X2_takeAll 16 i1 p2.2).bind (fun m6 =>
  (f_X2_run (m6 16 1) (m6 16 2) i1 m6).bind (fun m8 =>
  if inb i1 100 = true then
  some ((m8 105 i1.toNatClampNeg), m8) else none)))
else
  (some ((-3 : Int32), p2.2)))
set_option maxRecDepth 100000 in
set_option maxHeartbeats 4000000 in
theorem c_X10_level {κ : Nat → Nat} {N : Nat} (hN : 140 ≤ N) (i1 : Int32)  (μ : gMem) {r : Int32} {μ' : gMem} (h : f_X10_level i1 μ = some (r, μ')) : CT2 κ N 7 yX10_level iX10_level [.ref (κ 0 + 0), .int i1] μ (qI r μ') := by
  refine CT2.of (by decide) rfl rfl (Nat.le_of_ble_eq_true rfl) ?_
  unfold f_X10_level at h
  show RR κ N 7 iX10_level 0 [(0, .ref (κ 0 + 0)), (1, .int i1)] [] μ _
  refine g_iload_n (pc := 0) dX10_level_0 rfl rfl ?_
  refine g_iconst (pc := 1) (v := (0 : Int32)) dX10_level_1 rfl ?_
  refine g_bipush (pc := 2) (v := (99 : Int32)) dX10_level_2 rfl ?_
  obtain ⟨p2, hp1, h⟩ := Option.bind_eq_some_iff.mp h
  refine r_callS (pc := 4) (c_X10_isOutside hN i1 (0 : Int32) (99 : Int32) μ hp1) yS_X10_isOutside pX10_isOutside mL_X10_83 dX10_level_4 (Nat.le_of_ble_eq_true rfl) (Nat.le_of_ble_eq_true rfl) rfl (rK_z (fun hz3 => ?_))
  refine g_if_eq (pc := 7) 13 dX10_level_7 (by decide) (fun hc4 => ?_) (fun hc4 => ?_)
  · rw [if_pos hc4] at h
    refine g_aload_n (pc := 13) dX10_level_13 rfl rfl ?_
    refine gf_X10_57 (pc := 14) rfl dX10_level_14 (Nat.lt_of_lt_of_le (by decide) hN) kd_0 ?_
    refine g_aload_n (pc := 17) dX10_level_17 rfl rfl ?_
    refine gf_X10_33 (pc := 18) rfl dX10_level_18 (Nat.lt_of_lt_of_le (by decide) hN) kd_0 ?_
    refine g_iload_n (pc := 21) dX10_level_21 rfl rfl ?_
    obtain ⟨m6, hp5, h⟩ := Option.bind_eq_some_iff.mp h
    refine r_callV (ci := 2) (pc := 22) (c_X2_takeAll hN 16 i1 kd_16 p2.2 hp5) yV_X2_takeAll ⟨rfl, by decide⟩ pX2_takeAll mL_X10_221 dX10_level_22 (Nat.le_of_ble_eq_true rfl) (Nat.le_of_ble_eq_true rfl) (Nat.lt_of_lt_of_le (by decide) hN) kd_97 rfl (rK_v ?_)
    refine g_aload_n (pc := 25) dX10_level_25 rfl rfl ?_
    refine gf_X10_57 (pc := 26) rfl dX10_level_26 (Nat.lt_of_lt_of_le (by decide) hN) kd_0 ?_
    refine g_aload_n (pc := 29) dX10_level_29 rfl rfl ?_
    refine gf_X10_33 (pc := 30) rfl dX10_level_30 (Nat.lt_of_lt_of_le (by decide) hN) kd_0 ?_
    refine gf_X10_211 (pc := 33) rfl dX10_level_33 (Nat.lt_of_lt_of_le (by decide) hN) kd_16 ?_
    refine g_aload_n (pc := 36) dX10_level_36 rfl rfl ?_
    refine gf_X10_33 (pc := 37) rfl dX10_level_37 (Nat.lt_of_lt_of_le (by decide) hN) kd_0 ?_
    refine gf_X10_198 (pc := 40) rfl dX10_level_40 (Nat.lt_of_lt_of_le (by decide) hN) kd_16 ?_
    refine g_iload_n (pc := 43) dX10_level_43 rfl rfl ?_
    obtain ⟨m8, hp7, h⟩ := Option.bind_eq_some_iff.mp h
    refine r_callV (ci := 2) (pc := 44) (c_X2_run hN (m6 16 1) (m6 16 2) i1 m6 hp7) yV_X2_run ⟨rfl, by decide⟩ pX2_run mL_X10_225 dX10_level_44 (Nat.le_of_ble_eq_true rfl) (Nat.le_of_ble_eq_true rfl) (Nat.lt_of_lt_of_le (by decide) hN) kd_97 rfl (rK_v ?_)
    refine g_aload_n (pc := 47) dX10_level_47 rfl rfl ?_
    refine gf_X10_57 (pc := 48) rfl dX10_level_48 (Nat.lt_of_lt_of_le (by decide) hN) kd_0 ?_
    refine gf_X10_229 (pc := 51) rfl dX10_level_51 (Nat.lt_of_lt_of_le (by decide) hN) kd_97 ?_
    refine g_iload_n (pc := 54) dX10_level_54 rfl rfl ?_
    obtain ⟨hg9, h⟩ := gd_some h
    refine r_iald (pc := 55) 100 dX10_level_55 (Nat.lt_of_lt_of_le (by decide) hN) kd_105 ln_105 hg9 ?_
    cases h
    exact r_iret dX10_level_56 rfl rfl rfl
  · rw [if_neg hc4] at h
    refine g_bipush (pc := 10) (v := (-3 : Int32)) dX10_level_10 rfl ?_
    cases h
    exact r_iret dX10_level_12 rfl rfl rfl

def f_X10_highest (i1 : Int32) (μ : gMem) : Option (Int32 × gMem) :=
  (f_X10_isOutside i1 (0 : Int32) (99 : Int32) μ).bind (fun p2 =>
  if p2.1 = 0 then
  ((f_X2_takeAll 16 i1 p2.2).bind (fun m6 =>
  (f_X2_run (m6 16 1) (m6 16 2) i1 m6).bind (fun m8 =>
  some ((m8 97 5), m8))))
else
  (some ((-3 : Int32), p2.2)))
set_option maxRecDepth 100000 in
set_option maxHeartbeats 4000000 in
theorem c_X10_highest {κ : Nat → Nat} {N : Nat} (hN : 140 ≤ N) (i1 : Int32)  (μ : gMem) {r : Int32} {μ' : gMem} (h : f_X10_highest i1 μ = some (r, μ')) : CT2 κ N 7 yX10_highest iX10_highest [.ref (κ 0 + 0), .int i1] μ (qI r μ') := by
  refine CT2.of (by decide) rfl rfl (Nat.le_of_ble_eq_true rfl) ?_
  unfold f_X10_highest at h
  show RR κ N 7 iX10_highest 0 [(0, .ref (κ 0 + 0)), (1, .int i1)] [] μ _
  refine g_iload_n (pc := 0) dX10_highest_0 rfl rfl ?_
  refine g_iconst (pc := 1) (v := (0 : Int32)) dX10_highest_1 rfl ?_
  refine g_bipush (pc := 2) (v := (99 : Int32)) dX10_highest_2 rfl ?_
  obtain ⟨p2, hp1, h⟩ := Option.bind_eq_some_iff.mp h
  refine r_callS (pc := 4) (c_X10_isOutside hN i1 (0 : Int32) (99 : Int32) μ hp1) yS_X10_isOutside pX10_isOutside mL_X10_83 dX10_highest_4 (Nat.le_of_ble_eq_true rfl) (Nat.le_of_ble_eq_true rfl) rfl (rK_z (fun hz3 => ?_))
  refine g_if_eq (pc := 7) 13 dX10_highest_7 (by decide) (fun hc4 => ?_) (fun hc4 => ?_)
  · rw [if_pos hc4] at h
    refine g_aload_n (pc := 13) dX10_highest_13 rfl rfl ?_
    refine gf_X10_57 (pc := 14) rfl dX10_highest_14 (Nat.lt_of_lt_of_le (by decide) hN) kd_0 ?_
    refine g_aload_n (pc := 17) dX10_highest_17 rfl rfl ?_
    refine gf_X10_33 (pc := 18) rfl dX10_highest_18 (Nat.lt_of_lt_of_le (by decide) hN) kd_0 ?_
    refine g_iload_n (pc := 21) dX10_highest_21 rfl rfl ?_
    obtain ⟨m6, hp5, h⟩ := Option.bind_eq_some_iff.mp h
    refine r_callV (ci := 2) (pc := 22) (c_X2_takeAll hN 16 i1 kd_16 p2.2 hp5) yV_X2_takeAll ⟨rfl, by decide⟩ pX2_takeAll mL_X10_221 dX10_highest_22 (Nat.le_of_ble_eq_true rfl) (Nat.le_of_ble_eq_true rfl) (Nat.lt_of_lt_of_le (by decide) hN) kd_97 rfl (rK_v ?_)
    refine g_aload_n (pc := 25) dX10_highest_25 rfl rfl ?_
    refine gf_X10_57 (pc := 26) rfl dX10_highest_26 (Nat.lt_of_lt_of_le (by decide) hN) kd_0 ?_
    refine g_aload_n (pc := 29) dX10_highest_29 rfl rfl ?_
    refine gf_X10_33 (pc := 30) rfl dX10_highest_30 (Nat.lt_of_lt_of_le (by decide) hN) kd_0 ?_
    refine gf_X10_211 (pc := 33) rfl dX10_highest_33 (Nat.lt_of_lt_of_le (by decide) hN) kd_16 ?_
    refine g_aload_n (pc := 36) dX10_highest_36 rfl rfl ?_
    refine gf_X10_33 (pc := 37) rfl dX10_highest_37 (Nat.lt_of_lt_of_le (by decide) hN) kd_0 ?_
    refine gf_X10_198 (pc := 40) rfl dX10_highest_40 (Nat.lt_of_lt_of_le (by decide) hN) kd_16 ?_
    refine g_iload_n (pc := 43) dX10_highest_43 rfl rfl ?_
    obtain ⟨m8, hp7, h⟩ := Option.bind_eq_some_iff.mp h
    refine r_callV (ci := 2) (pc := 44) (c_X2_run hN (m6 16 1) (m6 16 2) i1 m6 hp7) yV_X2_run ⟨rfl, by decide⟩ pX2_run mL_X10_225 dX10_highest_44 (Nat.le_of_ble_eq_true rfl) (Nat.le_of_ble_eq_true rfl) (Nat.lt_of_lt_of_le (by decide) hN) kd_97 rfl (rK_v ?_)
    refine g_aload_n (pc := 47) dX10_highest_47 rfl rfl ?_
    refine gf_X10_57 (pc := 48) rfl dX10_highest_48 (Nat.lt_of_lt_of_le (by decide) hN) kd_0 ?_
    refine gf_X10_232 (pc := 51) rfl dX10_highest_51 (Nat.lt_of_lt_of_le (by decide) hN) kd_97 ?_
    cases h
    exact r_iret dX10_highest_54 rfl rfl rfl
  · rw [if_neg hc4] at h
    refine g_bipush (pc := 10) (v := (-3 : Int32)) dX10_highest_10 rfl ?_
    cases h
    exact r_iret dX10_highest_12 rfl rfl rfl

def l_X10_mossTo_62 (i1 : Int32) : Nat → Int32 → Int32 → Int32 → gMem → Option (Int32 × Int32 × Int32 × gMem)
  | 0, _, _, _, _ => none
  | n + 1, i2, i3, i4, μ =>
  if (μ 1 1) ≤ i4 then
  (some (i2, i3, i4, μ))
else
  (if inb i4 5 = true then
  if (μ (17 + 1 + i4.toNatClampNeg) 4) ≤ 0 then
  ((f_X2_takeOne 16 i4 (30 : Int32) i1 μ).bind (fun m20 =>
  (f_X2_run (m20 16 1) (m20 16 2) i1 m20).bind (fun m22 =>
  if inb i1 100 = true then
  if (m22 105 i1.toNatClampNeg) ≤ i2 then
  ((f_X2_takeOne 16 i4 (0 : Int32) i1 m22).bind (fun m26 =>
  lt (i4 + Int32.ofInt 1) (fun x27 =>
  l_X10_mossTo_62 i1 n i2 i3 x27 m26)))
else
  (lt (m22 105 i1.toNatClampNeg) (fun x29 =>
  (f_X2_takeOne 16 i4 (0 : Int32) i1 m22).bind (fun m34 =>
  lt (i4 + Int32.ofInt 1) (fun x35 =>
  l_X10_mossTo_62 i1 n x29 i4 x35 m34)))) else none)))
else
  (lt (i4 + Int32.ofInt 1) (fun x37 =>
  l_X10_mossTo_62 i1 n i2 i3 x37 μ)) else none)
def f_X10_mossTo (i1 : Int32) (μ : gMem) : Option (Int32 × gMem) :=
  (f_X10_isOutside i1 (1 : Int32) (99 : Int32) μ).bind (fun p2 =>
  if p2.1 = 0 then
  ((f_X2_takeAll 16 i1 p2.2).bind (fun m6 =>
  (f_X2_run (m6 16 1) (m6 16 2) i1 m6).bind (fun m8 =>
  if inb i1 100 = true then
  lt (m8 105 i1.toNatClampNeg) (fun x10 =>
  (l_X10_mossTo_62 i1 gF x10 (-1 : Int32) (0 : Int32) m8).bind (fun p39 =>
  some (p39.2.1, p39.2.2.2))) else none)))
else
  (some ((-3 : Int32), p2.2)))
set_option maxRecDepth 100000 in
set_option maxHeartbeats 4000000 in
theorem cl_X10_mossTo_62 {κ : Nat → Nat} {N : Nat} {Q : rQ} (hN : 140 ≤ N) (i1 : Int32)  : ∀ (n : Nat) (i2 : Int32) (i3 : Int32) (i4 : Int32) (μ : gMem) (p : Int32 × Int32 × Int32 × gMem), l_X10_mossTo_62 i1 n i2 i3 i4 μ = some p → RR κ N 7 iX10_mossTo 178 [(0, .ref (κ 0 + 0)), (1, .int i1), (2, .int p.1), (3, .int p.2.1), (4, .int p.2.2.1)] [] p.2.2.2 Q → RR κ N 7 iX10_mossTo 62 [(0, .ref (κ 0 + 0)), (1, .int i1), (2, .int i2), (3, .int i3), (4, .int i4)] [] μ Q := by
  intro n
  induction n with
  | zero =>
    intro i2 i3 i4 μ p h k
    unfold l_X10_mossTo_62 at h
    cases h
  | succ n ih =>
    intro i2 i3 i4 μ p h k
    unfold l_X10_mossTo_62 at h
    refine g_iload (pc := 62) dX10_mossTo_62 rfl ?_
    refine g_aload_n (pc := 64) dX10_mossTo_64 rfl rfl ?_
    refine gf_X10_10 (pc := 65) rfl dX10_mossTo_65 (Nat.lt_of_lt_of_le (by decide) hN) kd_0 ?_
    refine gf_X10_94 (pc := 68) rfl dX10_mossTo_68 (Nat.lt_of_lt_of_le (by decide) hN) kd_1 ?_
    refine g_icmp_ge (pc := 71) 178 dX10_mossTo_71 (by decide) (fun hc16 => ?_) (fun hc16 => ?_)
    · rw [if_pos hc16] at h
      cases h
      exact k
    · rw [if_neg hc16] at h
      refine g_aload_n (pc := 74) dX10_mossTo_74 rfl rfl ?_
      refine gf_X10_33 (pc := 75) rfl dX10_mossTo_75 (Nat.lt_of_lt_of_le (by decide) hN) kd_0 ?_
      refine gf_X10_148 (pc := 78) rfl dX10_mossTo_78 (Nat.lt_of_lt_of_le (by decide) hN) kd_16 ?_
      show RR κ N 7 iX10_mossTo 81 [(0, .ref (κ 0 + 0)), (1, .int i1), (2, .int i2), (3, .int i3), (4, .int i4)] [.ref (κ 0 + 17)] μ _
      refine g_iload (pc := 81) dX10_mossTo_81 rfl ?_
      obtain ⟨hg17, h⟩ := gd_some h
      refine r_aald (pc := 83) 24 5 (17 + 1 + i4.toNatClampNeg) dX10_mossTo_83 (Nat.lt_of_lt_of_le (by decide) hN) kd_17 (by decide) ln_17 hg17 rfl ?_
      refine gf_X10_166 (pc := 84) rfl dX10_mossTo_84 (Nat.lt_of_lt_of_le (kd_warr kd_17 (inb_lt hg17)).2 hN) (kd_warr kd_17 (inb_lt hg17)).1 ?_
      refine g_if_le (pc := 87) 93 dX10_mossTo_87 (by decide) (fun hc18 => ?_) (fun hc18 => ?_)
      · rw [if_pos hc18] at h
        refine g_aload_n (pc := 93) dX10_mossTo_93 rfl rfl ?_
        refine gf_X10_57 (pc := 94) rfl dX10_mossTo_94 (Nat.lt_of_lt_of_le (by decide) hN) kd_0 ?_
        refine g_aload_n (pc := 97) dX10_mossTo_97 rfl rfl ?_
        refine gf_X10_33 (pc := 98) rfl dX10_mossTo_98 (Nat.lt_of_lt_of_le (by decide) hN) kd_0 ?_
        refine g_iload (pc := 101) dX10_mossTo_101 rfl ?_
        refine g_bipush (pc := 103) (v := (30 : Int32)) dX10_mossTo_103 rfl ?_
        refine g_iload_n (pc := 105) dX10_mossTo_105 rfl rfl ?_
        obtain ⟨m20, hp19, h⟩ := Option.bind_eq_some_iff.mp h
        refine r_callV (ci := 2) (pc := 106) (c_X2_takeOne hN 16 i4 (30 : Int32) i1 kd_16 μ hp19) yV_X2_takeOne ⟨rfl, by decide⟩ pX2_takeOne mL_X10_238 dX10_mossTo_106 (Nat.le_of_ble_eq_true rfl) (Nat.le_of_ble_eq_true rfl) (Nat.lt_of_lt_of_le (by decide) hN) kd_97 rfl (rK_v ?_)
        refine g_aload_n (pc := 109) dX10_mossTo_109 rfl rfl ?_
        refine gf_X10_57 (pc := 110) rfl dX10_mossTo_110 (Nat.lt_of_lt_of_le (by decide) hN) kd_0 ?_
        refine g_aload_n (pc := 113) dX10_mossTo_113 rfl rfl ?_
        refine gf_X10_33 (pc := 114) rfl dX10_mossTo_114 (Nat.lt_of_lt_of_le (by decide) hN) kd_0 ?_
        refine gf_X10_211 (pc := 117) rfl dX10_mossTo_117 (Nat.lt_of_lt_of_le (by decide) hN) kd_16 ?_
        refine g_aload_n (pc := 120) dX10_mossTo_120 rfl rfl ?_
        refine gf_X10_33 (pc := 121) rfl dX10_mossTo_121 (Nat.lt_of_lt_of_le (by decide) hN) kd_0 ?_
        refine gf_X10_198 (pc := 124) rfl dX10_mossTo_124 (Nat.lt_of_lt_of_le (by decide) hN) kd_16 ?_
        refine g_iload_n (pc := 127) dX10_mossTo_127 rfl rfl ?_
        obtain ⟨m22, hp21, h⟩ := Option.bind_eq_some_iff.mp h
        refine r_callV (ci := 2) (pc := 128) (c_X2_run hN (m20 16 1) (m20 16 2) i1 m20 hp21) yV_X2_run ⟨rfl, by decide⟩ pX2_run mL_X10_225 dX10_mossTo_128 (Nat.le_of_ble_eq_true rfl) (Nat.le_of_ble_eq_true rfl) (Nat.lt_of_lt_of_le (by decide) hN) kd_97 rfl (rK_v ?_)
        refine g_aload_n (pc := 131) dX10_mossTo_131 rfl rfl ?_
        refine gf_X10_57 (pc := 132) rfl dX10_mossTo_132 (Nat.lt_of_lt_of_le (by decide) hN) kd_0 ?_
        refine gf_X10_229 (pc := 135) rfl dX10_mossTo_135 (Nat.lt_of_lt_of_le (by decide) hN) kd_97 ?_
        refine g_iload_n (pc := 138) dX10_mossTo_138 rfl rfl ?_
        obtain ⟨hg23, h⟩ := gd_some h
        refine r_iald (pc := 139) 100 dX10_mossTo_139 (Nat.lt_of_lt_of_le (by decide) hN) kd_105 ln_105 hg23 ?_
        refine g_iload_n (pc := 140) dX10_mossTo_140 rfl rfl ?_
        refine g_icmp_le (pc := 141) 157 dX10_mossTo_141 (by decide) (fun hc24 => ?_) (fun hc24 => ?_)
        · rw [if_pos hc24] at h
          refine g_aload_n (pc := 157) dX10_mossTo_157 rfl rfl ?_
          refine gf_X10_57 (pc := 158) rfl dX10_mossTo_158 (Nat.lt_of_lt_of_le (by decide) hN) kd_0 ?_
          refine g_aload_n (pc := 161) dX10_mossTo_161 rfl rfl ?_
          refine gf_X10_33 (pc := 162) rfl dX10_mossTo_162 (Nat.lt_of_lt_of_le (by decide) hN) kd_0 ?_
          refine g_iload (pc := 165) dX10_mossTo_165 rfl ?_
          refine g_iconst (pc := 167) (v := (0 : Int32)) dX10_mossTo_167 rfl ?_
          refine g_iload_n (pc := 168) dX10_mossTo_168 rfl rfl ?_
          obtain ⟨m26, hp25, h⟩ := Option.bind_eq_some_iff.mp h
          refine r_callV (ci := 2) (pc := 169) (c_X2_takeOne hN 16 i4 (0 : Int32) i1 kd_16 m22 hp25) yV_X2_takeOne ⟨rfl, by decide⟩ pX2_takeOne mL_X10_238 dX10_mossTo_169 (Nat.le_of_ble_eq_true rfl) (Nat.le_of_ble_eq_true rfl) (Nat.lt_of_lt_of_le (by decide) hN) kd_97 rfl (rK_v ?_)
          refine g_iinc (pc := 172) (lv' := fun y => [(0, .ref (κ 0 + 0)), (1, .int i1), (2, .int i2), (3, .int i3), (4, .int y)]) dX10_mossTo_172 rfl (Nat.le_of_ble_eq_true rfl) (fun _ => rfl) (fun x27 e28 => ?_)
          rw [lt_of e28] at h
          refine g_goto (pc := 175) 62 dX10_mossTo_175 (by decide) ?_
          refine g_lv (lv' := [(0, .ref (κ 0 + 0)), (1, .int i1), (2, .int i2), (3, .int i3), (4, .int x27)]) rfl ?_
          exact ih _ _ _ _ _ h k
        · rw [if_neg hc24] at h
          refine g_aload_n (pc := 144) dX10_mossTo_144 rfl rfl ?_
          refine gf_X10_57 (pc := 145) rfl dX10_mossTo_145 (Nat.lt_of_lt_of_le (by decide) hN) kd_0 ?_
          refine gf_X10_229 (pc := 148) rfl dX10_mossTo_148 (Nat.lt_of_lt_of_le (by decide) hN) kd_97 ?_
          refine g_iload_n (pc := 151) dX10_mossTo_151 rfl rfl ?_
          refine r_iald (pc := 152) 100 dX10_mossTo_152 (Nat.lt_of_lt_of_le (by decide) hN) kd_105 ln_105 hg23 ?_
          refine g_istore_n (pc := 153) (lv' := fun y => [(0, .ref (κ 0 + 0)), (1, .int i1), (2, .int y), (3, .int i3), (4, .int i4)]) dX10_mossTo_153 rfl (Nat.le_of_ble_eq_true rfl) (fun _ => rfl) (fun x29 e30 => ?_)
          rw [lt_of e30] at h
          refine g_iload (pc := 154) dX10_mossTo_154 rfl ?_
          refine g_istore_n (pc := 156) (lv' := fun y => [(0, .ref (κ 0 + 0)), (1, .int i1), (2, .int x29), (3, .int y), (4, .int i4)]) dX10_mossTo_156 rfl (Nat.le_of_ble_eq_true rfl) (fun _ => rfl) (fun y31 e32 => ?_)
          rw [e32]
          refine g_aload_n (pc := 157) dX10_mossTo_157 rfl rfl ?_
          refine gf_X10_57 (pc := 158) rfl dX10_mossTo_158 (Nat.lt_of_lt_of_le (by decide) hN) kd_0 ?_
          refine g_aload_n (pc := 161) dX10_mossTo_161 rfl rfl ?_
          refine gf_X10_33 (pc := 162) rfl dX10_mossTo_162 (Nat.lt_of_lt_of_le (by decide) hN) kd_0 ?_
          refine g_iload (pc := 165) dX10_mossTo_165 rfl ?_
          refine g_iconst (pc := 167) (v := (0 : Int32)) dX10_mossTo_167 rfl ?_
          refine g_iload_n (pc := 168) dX10_mossTo_168 rfl rfl ?_
          obtain ⟨m34, hp33, h⟩ := Option.bind_eq_some_iff.mp h
          refine r_callV (ci := 2) (pc := 169) (c_X2_takeOne hN 16 i4 (0 : Int32) i1 kd_16 m22 hp33) yV_X2_takeOne ⟨rfl, by decide⟩ pX2_takeOne mL_X10_238 dX10_mossTo_169 (Nat.le_of_ble_eq_true rfl) (Nat.le_of_ble_eq_true rfl) (Nat.lt_of_lt_of_le (by decide) hN) kd_97 rfl (rK_v ?_)
          refine g_iinc (pc := 172) (lv' := fun y => [(0, .ref (κ 0 + 0)), (1, .int i1), (2, .int x29), (3, .int i4), (4, .int y)]) dX10_mossTo_172 rfl (Nat.le_of_ble_eq_true rfl) (fun _ => rfl) (fun x35 e36 => ?_)
          rw [lt_of e36] at h
          refine g_goto (pc := 175) 62 dX10_mossTo_175 (by decide) ?_
          refine g_lv (lv' := [(0, .ref (κ 0 + 0)), (1, .int i1), (2, .int x29), (3, .int i4), (4, .int x35)]) rfl ?_
          exact ih _ _ _ _ _ h k
      · rw [if_neg hc18] at h
        refine g_goto (pc := 90) 172 dX10_mossTo_90 (by decide) ?_
        refine g_iinc (pc := 172) (lv' := fun y => [(0, .ref (κ 0 + 0)), (1, .int i1), (2, .int i2), (3, .int i3), (4, .int y)]) dX10_mossTo_172 rfl (Nat.le_of_ble_eq_true rfl) (fun _ => rfl) (fun x37 e38 => ?_)
        rw [lt_of e38] at h
        refine g_goto (pc := 175) 62 dX10_mossTo_175 (by decide) ?_
        refine g_lv (lv' := [(0, .ref (κ 0 + 0)), (1, .int i1), (2, .int i2), (3, .int i3), (4, .int x37)]) rfl ?_
        exact ih _ _ _ _ _ h k
set_option maxRecDepth 100000 in
set_option maxHeartbeats 4000000 in
theorem c_X10_mossTo {κ : Nat → Nat} {N : Nat} (hN : 140 ≤ N) (i1 : Int32)  (μ : gMem) {r : Int32} {μ' : gMem} (h : f_X10_mossTo i1 μ = some (r, μ')) : CT2 κ N 7 yX10_mossTo iX10_mossTo [.ref (κ 0 + 0), .int i1] μ (qI r μ') := by
  refine CT2.of (by decide) rfl rfl (Nat.le_of_ble_eq_true rfl) ?_
  unfold f_X10_mossTo at h
  show RR κ N 7 iX10_mossTo 0 [(0, .ref (κ 0 + 0)), (1, .int i1)] [] μ _
  refine g_iload_n (pc := 0) dX10_mossTo_0 rfl rfl ?_
  refine g_iconst (pc := 1) (v := (1 : Int32)) dX10_mossTo_1 rfl ?_
  refine g_bipush (pc := 2) (v := (99 : Int32)) dX10_mossTo_2 rfl ?_
  obtain ⟨p2, hp1, h⟩ := Option.bind_eq_some_iff.mp h
  refine r_callS (pc := 4) (c_X10_isOutside hN i1 (1 : Int32) (99 : Int32) μ hp1) yS_X10_isOutside pX10_isOutside mL_X10_83 dX10_mossTo_4 (Nat.le_of_ble_eq_true rfl) (Nat.le_of_ble_eq_true rfl) rfl (rK_z (fun hz3 => ?_))
  refine g_if_eq (pc := 7) 13 dX10_mossTo_7 (by decide) (fun hc4 => ?_) (fun hc4 => ?_)
  · rw [if_pos hc4] at h
    refine g_aload_n (pc := 13) dX10_mossTo_13 rfl rfl ?_
    refine gf_X10_57 (pc := 14) rfl dX10_mossTo_14 (Nat.lt_of_lt_of_le (by decide) hN) kd_0 ?_
    refine g_aload_n (pc := 17) dX10_mossTo_17 rfl rfl ?_
    refine gf_X10_33 (pc := 18) rfl dX10_mossTo_18 (Nat.lt_of_lt_of_le (by decide) hN) kd_0 ?_
    refine g_iload_n (pc := 21) dX10_mossTo_21 rfl rfl ?_
    obtain ⟨m6, hp5, h⟩ := Option.bind_eq_some_iff.mp h
    refine r_callV (ci := 2) (pc := 22) (c_X2_takeAll hN 16 i1 kd_16 p2.2 hp5) yV_X2_takeAll ⟨rfl, by decide⟩ pX2_takeAll mL_X10_221 dX10_mossTo_22 (Nat.le_of_ble_eq_true rfl) (Nat.le_of_ble_eq_true rfl) (Nat.lt_of_lt_of_le (by decide) hN) kd_97 rfl (rK_v ?_)
    refine g_aload_n (pc := 25) dX10_mossTo_25 rfl rfl ?_
    refine gf_X10_57 (pc := 26) rfl dX10_mossTo_26 (Nat.lt_of_lt_of_le (by decide) hN) kd_0 ?_
    refine g_aload_n (pc := 29) dX10_mossTo_29 rfl rfl ?_
    refine gf_X10_33 (pc := 30) rfl dX10_mossTo_30 (Nat.lt_of_lt_of_le (by decide) hN) kd_0 ?_
    refine gf_X10_211 (pc := 33) rfl dX10_mossTo_33 (Nat.lt_of_lt_of_le (by decide) hN) kd_16 ?_
    refine g_aload_n (pc := 36) dX10_mossTo_36 rfl rfl ?_
    refine gf_X10_33 (pc := 37) rfl dX10_mossTo_37 (Nat.lt_of_lt_of_le (by decide) hN) kd_0 ?_
    refine gf_X10_198 (pc := 40) rfl dX10_mossTo_40 (Nat.lt_of_lt_of_le (by decide) hN) kd_16 ?_
    refine g_iload_n (pc := 43) dX10_mossTo_43 rfl rfl ?_
    obtain ⟨m8, hp7, h⟩ := Option.bind_eq_some_iff.mp h
    refine r_callV (ci := 2) (pc := 44) (c_X2_run hN (m6 16 1) (m6 16 2) i1 m6 hp7) yV_X2_run ⟨rfl, by decide⟩ pX2_run mL_X10_225 dX10_mossTo_44 (Nat.le_of_ble_eq_true rfl) (Nat.le_of_ble_eq_true rfl) (Nat.lt_of_lt_of_le (by decide) hN) kd_97 rfl (rK_v ?_)
    refine g_aload_n (pc := 47) dX10_mossTo_47 rfl rfl ?_
    refine gf_X10_57 (pc := 48) rfl dX10_mossTo_48 (Nat.lt_of_lt_of_le (by decide) hN) kd_0 ?_
    refine gf_X10_229 (pc := 51) rfl dX10_mossTo_51 (Nat.lt_of_lt_of_le (by decide) hN) kd_97 ?_
    refine g_iload_n (pc := 54) dX10_mossTo_54 rfl rfl ?_
    obtain ⟨hg9, h⟩ := gd_some h
    refine r_iald (pc := 55) 100 dX10_mossTo_55 (Nat.lt_of_lt_of_le (by decide) hN) kd_105 ln_105 hg9 ?_
    refine g_istore_n (pc := 56) (lv' := fun y => [(0, .ref (κ 0 + 0)), (1, .int i1), (2, .int y)]) dX10_mossTo_56 rfl (Nat.le_of_ble_eq_true rfl) (fun _ => rfl) (fun x10 e11 => ?_)
    rw [lt_of e11] at h
    refine g_iconst (pc := 57) (v := (-1 : Int32)) dX10_mossTo_57 rfl ?_
    refine g_istore_n (pc := 58) (lv' := fun y => [(0, .ref (κ 0 + 0)), (1, .int i1), (2, .int x10), (3, .int y)]) dX10_mossTo_58 rfl (Nat.le_of_ble_eq_true rfl) (fun _ => rfl) (fun y12 e13 => ?_)
    rw [e13]
    refine g_iconst (pc := 59) (v := (0 : Int32)) dX10_mossTo_59 rfl ?_
    refine g_istore (pc := 60) (lv' := fun y => [(0, .ref (κ 0 + 0)), (1, .int i1), (2, .int x10), (3, .int (-1 : Int32)), (4, .int y)]) dX10_mossTo_60 (Nat.le_of_ble_eq_true rfl) (fun _ => rfl) (fun y14 e15 => ?_)
    rw [e15]
    obtain ⟨p39, hp40, h⟩ := Option.bind_eq_some_iff.mp h
    refine cl_X10_mossTo_62 hN i1  gF x10 (-1 : Int32) (0 : Int32) _ _ hp40 ?_
    refine g_iload_n (pc := 178) dX10_mossTo_178 rfl rfl ?_
    cases h
    exact r_iret dX10_mossTo_179 rfl rfl rfl
  · rw [if_neg hc4] at h
    refine g_bipush (pc := 10) (v := (-3 : Int32)) dX10_mossTo_10 rfl ?_
    cases h
    exact r_iret dX10_mossTo_12 rfl rfl rfl

def f_X10_adds (i1 : Int32) (i2 : Int32) (μ : gMem) : Option (Int32 × gMem) :=
  (f_X10_isUnknown i1 μ).bind (fun p2 =>
  if p2.1 = 0 then
  ((f_X10_isOutside i2 (1 : Int32) (99 : Int32) p2.2).bind (fun p6 =>
  if p6.1 = 0 then
  ((f_X2_takeAll 16 i2 p6.2).bind (fun m10 =>
  (f_X2_run (m10 16 1) (m10 16 2) i2 m10).bind (fun m12 =>
  lt (m12 97 5) (fun x13 =>
  lt (st m12 97 4 ((m12 97 4) &&& (((1 : Int32) <<< (i1 &&& 31)) ^^^ (-1 : Int32)))) (fun m15 =>
  (f_X2_run (m15 16 1) (m15 16 2) i2 m15).bind (fun m18 =>
  some ((x13 - (m18 97 5)), m18)))))))
else
  (some ((-3 : Int32), p6.2))))
else
  (some ((-2 : Int32), p2.2)))
set_option maxRecDepth 100000 in
set_option maxHeartbeats 4000000 in
theorem c_X10_adds {κ : Nat → Nat} {N : Nat} (hN : 140 ≤ N) (i1 : Int32) (i2 : Int32)  (μ : gMem) {r : Int32} {μ' : gMem} (h : f_X10_adds i1 i2 μ = some (r, μ')) : CT2 κ N 7 yX10_adds iX10_adds [.ref (κ 0 + 0), .int i1, .int i2] μ (qI r μ') := by
  refine CT2.of (by decide) rfl rfl (Nat.le_of_ble_eq_true rfl) ?_
  unfold f_X10_adds at h
  show RR κ N 7 iX10_adds 0 [(0, .ref (κ 0 + 0)), (1, .int i1), (2, .int i2)] [] μ _
  refine g_aload_n (pc := 0) dX10_adds_0 rfl rfl ?_
  refine g_iload_n (pc := 1) dX10_adds_1 rfl rfl ?_
  obtain ⟨p2, hp1, h⟩ := Option.bind_eq_some_iff.mp h
  refine r_callV (ci := 9) (pc := 2) (c_X10_isUnknown hN i1 μ hp1) yV_X10_isUnknown ⟨rfl, by decide⟩ pX10_isUnknown mL_X10_124 dX10_adds_2 (Nat.le_of_ble_eq_true rfl) (Nat.le_of_ble_eq_true rfl) (Nat.lt_of_lt_of_le (by decide) hN) kd_0 rfl (rK_z (fun hz3 => ?_))
  refine g_if_eq (pc := 5) 11 dX10_adds_5 (by decide) (fun hc4 => ?_) (fun hc4 => ?_)
  · rw [if_pos hc4] at h
    refine g_iload_n (pc := 11) dX10_adds_11 rfl rfl ?_
    refine g_iconst (pc := 12) (v := (1 : Int32)) dX10_adds_12 rfl ?_
    refine g_bipush (pc := 13) (v := (99 : Int32)) dX10_adds_13 rfl ?_
    obtain ⟨p6, hp5, h⟩ := Option.bind_eq_some_iff.mp h
    refine r_callS (pc := 15) (c_X10_isOutside hN i2 (1 : Int32) (99 : Int32) p2.2 hp5) yS_X10_isOutside pX10_isOutside mL_X10_83 dX10_adds_15 (Nat.le_of_ble_eq_true rfl) (Nat.le_of_ble_eq_true rfl) rfl (rK_z (fun hz7 => ?_))
    refine g_if_eq (pc := 18) 24 dX10_adds_18 (by decide) (fun hc8 => ?_) (fun hc8 => ?_)
    · rw [if_pos hc8] at h
      refine g_aload_n (pc := 24) dX10_adds_24 rfl rfl ?_
      refine gf_X10_57 (pc := 25) rfl dX10_adds_25 (Nat.lt_of_lt_of_le (by decide) hN) kd_0 ?_
      refine g_aload_n (pc := 28) dX10_adds_28 rfl rfl ?_
      refine gf_X10_33 (pc := 29) rfl dX10_adds_29 (Nat.lt_of_lt_of_le (by decide) hN) kd_0 ?_
      refine g_iload_n (pc := 32) dX10_adds_32 rfl rfl ?_
      obtain ⟨m10, hp9, h⟩ := Option.bind_eq_some_iff.mp h
      refine r_callV (ci := 2) (pc := 33) (c_X2_takeAll hN 16 i2 kd_16 p6.2 hp9) yV_X2_takeAll ⟨rfl, by decide⟩ pX2_takeAll mL_X10_221 dX10_adds_33 (Nat.le_of_ble_eq_true rfl) (Nat.le_of_ble_eq_true rfl) (Nat.lt_of_lt_of_le (by decide) hN) kd_97 rfl (rK_v ?_)
      refine g_aload_n (pc := 36) dX10_adds_36 rfl rfl ?_
      refine gf_X10_57 (pc := 37) rfl dX10_adds_37 (Nat.lt_of_lt_of_le (by decide) hN) kd_0 ?_
      refine g_aload_n (pc := 40) dX10_adds_40 rfl rfl ?_
      refine gf_X10_33 (pc := 41) rfl dX10_adds_41 (Nat.lt_of_lt_of_le (by decide) hN) kd_0 ?_
      refine gf_X10_211 (pc := 44) rfl dX10_adds_44 (Nat.lt_of_lt_of_le (by decide) hN) kd_16 ?_
      refine g_aload_n (pc := 47) dX10_adds_47 rfl rfl ?_
      refine gf_X10_33 (pc := 48) rfl dX10_adds_48 (Nat.lt_of_lt_of_le (by decide) hN) kd_0 ?_
      refine gf_X10_198 (pc := 51) rfl dX10_adds_51 (Nat.lt_of_lt_of_le (by decide) hN) kd_16 ?_
      refine g_iload_n (pc := 54) dX10_adds_54 rfl rfl ?_
      obtain ⟨m12, hp11, h⟩ := Option.bind_eq_some_iff.mp h
      refine r_callV (ci := 2) (pc := 55) (c_X2_run hN (m10 16 1) (m10 16 2) i2 m10 hp11) yV_X2_run ⟨rfl, by decide⟩ pX2_run mL_X10_225 dX10_adds_55 (Nat.le_of_ble_eq_true rfl) (Nat.le_of_ble_eq_true rfl) (Nat.lt_of_lt_of_le (by decide) hN) kd_97 rfl (rK_v ?_)
      refine g_aload_n (pc := 58) dX10_adds_58 rfl rfl ?_
      refine gf_X10_57 (pc := 59) rfl dX10_adds_59 (Nat.lt_of_lt_of_le (by decide) hN) kd_0 ?_
      refine gf_X10_232 (pc := 62) rfl dX10_adds_62 (Nat.lt_of_lt_of_le (by decide) hN) kd_97 ?_
      refine g_istore_n (pc := 65) (lv' := fun y => [(0, .ref (κ 0 + 0)), (1, .int i1), (2, .int i2), (3, .int y)]) dX10_adds_65 rfl (Nat.le_of_ble_eq_true rfl) (fun _ => rfl) (fun x13 e14 => ?_)
      rw [lt_of e14] at h
      refine g_aload_n (pc := 66) dX10_adds_66 rfl rfl ?_
      refine gf_X10_57 (pc := 67) rfl dX10_adds_67 (Nat.lt_of_lt_of_le (by decide) hN) kd_0 ?_
      refine g_dup (pc := 70) dX10_adds_70 rfl ?_
      refine gf_X10_242 (pc := 71) rfl dX10_adds_71 (Nat.lt_of_lt_of_le (by decide) hN) kd_97 ?_
      refine g_iconst (pc := 74) (v := (1 : Int32)) dX10_adds_74 rfl ?_
      refine g_iload_n (pc := 75) dX10_adds_75 rfl rfl ?_
      refine g_ishl (pc := 76) dX10_adds_76 ?_
      refine g_iconst (pc := 77) (v := (-1 : Int32)) dX10_adds_77 rfl ?_
      refine g_ixor (pc := 78) dX10_adds_78 ?_
      refine g_iand (pc := 79) dX10_adds_79 ?_
      refine pf_X10_242 (pc := 80) rfl dX10_adds_80 (Nat.lt_of_lt_of_le (by decide) hN) kd_97 (fun m15 e16 => ?_)
      rw [lt_of e16] at h
      refine g_aload_n (pc := 83) dX10_adds_83 rfl rfl ?_
      refine gf_X10_57 (pc := 84) rfl dX10_adds_84 (Nat.lt_of_lt_of_le (by decide) hN) kd_0 ?_
      refine g_aload_n (pc := 87) dX10_adds_87 rfl rfl ?_
      refine gf_X10_33 (pc := 88) rfl dX10_adds_88 (Nat.lt_of_lt_of_le (by decide) hN) kd_0 ?_
      refine gf_X10_211 (pc := 91) rfl dX10_adds_91 (Nat.lt_of_lt_of_le (by decide) hN) kd_16 ?_
      refine g_aload_n (pc := 94) dX10_adds_94 rfl rfl ?_
      refine gf_X10_33 (pc := 95) rfl dX10_adds_95 (Nat.lt_of_lt_of_le (by decide) hN) kd_0 ?_
      refine gf_X10_198 (pc := 98) rfl dX10_adds_98 (Nat.lt_of_lt_of_le (by decide) hN) kd_16 ?_
      refine g_iload_n (pc := 101) dX10_adds_101 rfl rfl ?_
      obtain ⟨m18, hp17, h⟩ := Option.bind_eq_some_iff.mp h
      refine r_callV (ci := 2) (pc := 102) (c_X2_run hN (m15 16 1) (m15 16 2) i2 m15 hp17) yV_X2_run ⟨rfl, by decide⟩ pX2_run mL_X10_225 dX10_adds_102 (Nat.le_of_ble_eq_true rfl) (Nat.le_of_ble_eq_true rfl) (Nat.lt_of_lt_of_le (by decide) hN) kd_97 rfl (rK_v ?_)
      refine g_iload_n (pc := 105) dX10_adds_105 rfl rfl ?_
      refine g_aload_n (pc := 106) dX10_adds_106 rfl rfl ?_
      refine gf_X10_57 (pc := 107) rfl dX10_adds_107 (Nat.lt_of_lt_of_le (by decide) hN) kd_0 ?_
      refine gf_X10_232 (pc := 110) rfl dX10_adds_110 (Nat.lt_of_lt_of_le (by decide) hN) kd_97 ?_
      refine g_isub (pc := 113) dX10_adds_113 ?_
      cases h
      exact r_iret dX10_adds_114 rfl rfl rfl
    · rw [if_neg hc8] at h
      refine g_bipush (pc := 21) (v := (-3 : Int32)) dX10_adds_21 rfl ?_
      cases h
      exact r_iret dX10_adds_23 rfl rfl rfl
  · rw [if_neg hc4] at h
    refine g_bipush (pc := 8) (v := (-2 : Int32)) dX10_adds_8 rfl ?_
    cases h
    exact r_iret dX10_adds_10 rfl rfl rfl

def l_X10_fewest_38 (i1 : Int32) (i2 : Int32) : Nat → Int32 → Int32 → gMem → Option (Int32 × Int32 × gMem)
  | 0, _, _, _ => none
  | n + 1, i3, i4, μ =>
  if (32 : Int32) ≤ i4 then
  (some (i3, i4, μ))
else
  (lt (if (i4 &&& (i2 ^^^ (-1 : Int32))) = 0 then (1 : Int32) else (0 : Int32)) (fun x16 =>
  if i3 = (-1 : Int32) then
  (if x16 = 0 then
  (lt (i4 + Int32.ofInt 1) (fun x25 =>
  l_X10_fewest_38 i1 i2 n i3 x25 μ))
else
  (lt (st μ 97 4 i4) (fun m27 =>
  (f_X2_run (m27 16 1) (m27 16 2) i1 m27).bind (fun m30 =>
  lt (if (m30 97 6) = (-1 : Int32) then i3 else i4) (fun x31 =>
  lt (i4 + Int32.ofInt 1) (fun x36 =>
  l_X10_fewest_38 i1 i2 n x31 x36 m30))))))
else
  ((f_J6_bitCount_0f7a4 i4 μ).bind (fun p41 =>
  (f_J6_bitCount_0f7a4 i3 p41.2).bind (fun p43 =>
  lt (if p43.1 ≤ p41.1 then (0 : Int32) else (1 : Int32)) (fun x44 =>
  if x16 = 0 then
  (lt (i4 + Int32.ofInt 1) (fun x50 =>
  l_X10_fewest_38 i1 i2 n i3 x50 p43.2))
else
  (if x44 = 0 then
  (lt (i4 + Int32.ofInt 1) (fun x53 =>
  l_X10_fewest_38 i1 i2 n i3 x53 p43.2))
else
  (lt (st p43.2 97 4 i4) (fun m55 =>
  (f_X2_run (m55 16 1) (m55 16 2) i1 m55).bind (fun m58 =>
  lt (if (m58 97 6) = (-1 : Int32) then i3 else i4) (fun x59 =>
  lt (i4 + Int32.ofInt 1) (fun x64 =>
  l_X10_fewest_38 i1 i2 n x59 x64 m58))))))))))))
def f_X10_fewest (i1 : Int32) (μ : gMem) : Option (Int32 × gMem) :=
  (f_X10_isOutside i1 (1 : Int32) (99 : Int32) μ).bind (fun p2 =>
  if p2.1 = 0 then
  ((f_X5_workers 16 p2.2).bind (fun p6 =>
  lt p6.1 (fun x7 =>
  (f_X2_takeAll 16 i1 p6.2).bind (fun m10 =>
  (l_X10_fewest_38 i1 x7 gF (-1 : Int32) (0 : Int32) m10).bind (fun p69 =>
  some (p69.1, p69.2.2))))))
else
  (some ((-3 : Int32), p2.2)))
set_option maxRecDepth 100000 in
set_option maxHeartbeats 4000000 in
theorem cl_X10_fewest_38 {κ : Nat → Nat} {N : Nat} {Q : rQ} (hN : 140 ≤ N) (i1 : Int32) (i2 : Int32)  : ∀ (n : Nat) (i3 : Int32) (i4 : Int32) (μ : gMem) (p : Int32 × Int32 × gMem), l_X10_fewest_38 i1 i2 n i3 i4 μ = some p → RR κ N 7 iX10_fewest 150 [(0, .ref (κ 0 + 0)), (1, .int i1), (2, .int i2), (3, .int p.1), (4, .int p.2.1)] [] p.2.2 Q → RR κ N 7 iX10_fewest 38 [(0, .ref (κ 0 + 0)), (1, .int i1), (2, .int i2), (3, .int i3), (4, .int i4)] [] μ Q := by
  intro n
  induction n with
  | zero =>
    intro i3 i4 μ p h k
    unfold l_X10_fewest_38 at h
    cases h
  | succ n ih =>
    intro i3 i4 μ p h k
    unfold l_X10_fewest_38 at h
    refine g_iload (pc := 38) dX10_fewest_38 rfl ?_
    refine g_bipush (pc := 40) (v := (32 : Int32)) dX10_fewest_40 rfl ?_
    refine g_icmp_ge (pc := 42) 150 dX10_fewest_42 (by decide) (fun hc15 => ?_) (fun hc15 => ?_)
    · rw [if_pos hc15] at h
      cases h
      exact k
    · rw [if_neg hc15] at h
      refine g_iload (pc := 45) dX10_fewest_45 rfl ?_
      refine g_iload_n (pc := 47) dX10_fewest_47 rfl rfl ?_
      refine g_iconst (pc := 48) (v := (-1 : Int32)) dX10_fewest_48 rfl ?_
      refine g_ixor (pc := 49) dX10_fewest_49 ?_
      refine g_iand (pc := 50) dX10_fewest_50 ?_
      have key18 : ∀ x16 : Int32, x16 = (if (i4 &&& (i2 ^^^ (-1 : Int32))) = 0 then (1 : Int32) else (0 : Int32)) → RR κ N 7 iX10_fewest 59 [(0, .ref (κ 0 + 0)), (1, .int i1), (2, .int i2), (3, .int i3), (4, .int i4)] [.int x16] μ Q := by
        intro x16 e17
        rw [lt_of e17] at h
        refine g_istore (pc := 59) (lv' := fun y => [(0, .ref (κ 0 + 0)), (1, .int i1), (2, .int i2), (3, .int i3), (4, .int i4), (5, .int y)]) dX10_fewest_59 (Nat.le_of_ble_eq_true rfl) (fun _ => rfl) (fun y19 e20 => ?_)
        rw [e20]
        refine g_iload_n (pc := 61) dX10_fewest_61 rfl rfl ?_
        refine g_iconst (pc := 62) (v := (-1 : Int32)) dX10_fewest_62 rfl ?_
        refine g_icmp_eq (pc := 63) 78 dX10_fewest_63 (by decide) (fun hc21 => ?_) (fun hc21 => ?_)
        · rw [if_pos hc21] at h
          refine g_iconst (pc := 78) (v := (1 : Int32)) dX10_fewest_78 rfl ?_
          refine g_goto (pc := 79) 83 dX10_fewest_79 (by decide) ?_
          refine g_istore (pc := 83) (lv' := fun y => [(0, .ref (κ 0 + 0)), (1, .int i1), (2, .int i2), (3, .int i3), (4, .int i4), (5, .int x16), (6, .int y)]) dX10_fewest_83 (Nat.le_of_ble_eq_true rfl) (fun _ => rfl) (fun y22 e23 => ?_)
          rw [e23]
          refine g_iload (pc := 85) dX10_fewest_85 rfl ?_
          refine g_if_eq (pc := 87) 144 dX10_fewest_87 (by decide) (fun hc24 => ?_) (fun hc24 => ?_)
          · rw [if_pos hc24] at h
            refine g_iinc (pc := 144) (lv' := fun y => [(0, .ref (κ 0 + 0)), (1, .int i1), (2, .int i2), (3, .int i3), (4, .int y), (5, .int x16), (6, .int (1 : Int32))]) dX10_fewest_144 rfl (Nat.le_of_ble_eq_true rfl) (fun _ => rfl) (fun x25 e26 => ?_)
            rw [lt_of e26] at h
            refine g_goto (pc := 147) 38 dX10_fewest_147 (by decide) ?_
            refine g_lv (lv' := [(0, .ref (κ 0 + 0)), (1, .int i1), (2, .int i2), (3, .int i3), (4, .int x25)]) rfl ?_
            exact ih _ _ _ _ h k
          · rw [if_neg hc24] at h
            refine g_iload (pc := 90) dX10_fewest_90 rfl ?_
            refine g_if_eq (pc := 92) 144 dX10_fewest_92 (by decide) (fun z39 => absurd z39 (by decide)) (fun _ => ?_)
            refine g_aload_n (pc := 95) dX10_fewest_95 rfl rfl ?_
            refine gf_X10_57 (pc := 96) rfl dX10_fewest_96 (Nat.lt_of_lt_of_le (by decide) hN) kd_0 ?_
            refine g_iload (pc := 99) dX10_fewest_99 rfl ?_
            refine pf_X10_242 (pc := 101) rfl dX10_fewest_101 (Nat.lt_of_lt_of_le (by decide) hN) kd_97 (fun m27 e28 => ?_)
            rw [lt_of e28] at h
            refine g_aload_n (pc := 104) dX10_fewest_104 rfl rfl ?_
            refine gf_X10_57 (pc := 105) rfl dX10_fewest_105 (Nat.lt_of_lt_of_le (by decide) hN) kd_0 ?_
            refine g_aload_n (pc := 108) dX10_fewest_108 rfl rfl ?_
            refine gf_X10_33 (pc := 109) rfl dX10_fewest_109 (Nat.lt_of_lt_of_le (by decide) hN) kd_0 ?_
            refine gf_X10_211 (pc := 112) rfl dX10_fewest_112 (Nat.lt_of_lt_of_le (by decide) hN) kd_16 ?_
            refine g_aload_n (pc := 115) dX10_fewest_115 rfl rfl ?_
            refine gf_X10_33 (pc := 116) rfl dX10_fewest_116 (Nat.lt_of_lt_of_le (by decide) hN) kd_0 ?_
            refine gf_X10_198 (pc := 119) rfl dX10_fewest_119 (Nat.lt_of_lt_of_le (by decide) hN) kd_16 ?_
            refine g_iload_n (pc := 122) dX10_fewest_122 rfl rfl ?_
            obtain ⟨m30, hp29, h⟩ := Option.bind_eq_some_iff.mp h
            refine r_callV (ci := 2) (pc := 123) (c_X2_run hN (m27 16 1) (m27 16 2) i1 m27 hp29) yV_X2_run ⟨rfl, by decide⟩ pX2_run mL_X10_225 dX10_fewest_123 (Nat.le_of_ble_eq_true rfl) (Nat.le_of_ble_eq_true rfl) (Nat.lt_of_lt_of_le (by decide) hN) kd_97 rfl (rK_v ?_)
            refine g_aload_n (pc := 126) dX10_fewest_126 rfl rfl ?_
            refine gf_X10_57 (pc := 127) rfl dX10_fewest_127 (Nat.lt_of_lt_of_le (by decide) hN) kd_0 ?_
            refine gf_X10_253 (pc := 130) rfl dX10_fewest_130 (Nat.lt_of_lt_of_le (by decide) hN) kd_97 ?_
            refine g_iconst (pc := 133) (v := (-1 : Int32)) dX10_fewest_133 rfl ?_
            have key33 : ∀ x31 : Int32, x31 = (if (m30 97 6) = (-1 : Int32) then i3 else i4) → RR κ N 7 iX10_fewest 143 [(0, .ref (κ 0 + 0)), (1, .int i1), (2, .int i2), (3, .int i3), (4, .int i4), (5, .int x16), (6, .int (1 : Int32))] [.int x31] m30 Q := by
              intro x31 e32
              rw [lt_of e32] at h
              refine g_istore_n (pc := 143) (lv' := fun y => [(0, .ref (κ 0 + 0)), (1, .int i1), (2, .int i2), (3, .int y), (4, .int i4), (5, .int x16), (6, .int (1 : Int32))]) dX10_fewest_143 rfl (Nat.le_of_ble_eq_true rfl) (fun _ => rfl) (fun y34 e35 => ?_)
              rw [e35]
              refine g_iinc (pc := 144) (lv' := fun y => [(0, .ref (κ 0 + 0)), (1, .int i1), (2, .int i2), (3, .int x31), (4, .int y), (5, .int x16), (6, .int (1 : Int32))]) dX10_fewest_144 rfl (Nat.le_of_ble_eq_true rfl) (fun _ => rfl) (fun x36 e37 => ?_)
              rw [lt_of e37] at h
              refine g_goto (pc := 147) 38 dX10_fewest_147 (by decide) ?_
              refine g_lv (lv' := [(0, .ref (κ 0 + 0)), (1, .int i1), (2, .int i2), (3, .int x31), (4, .int x36)]) rfl ?_
              exact ih _ _ _ _ h k
            refine g_icmp_ne (pc := 134) 141 dX10_fewest_134 (by decide) (fun hc38 => ?_) (fun hc38 => ?_)
            · refine g_iload (pc := 141) dX10_fewest_141 rfl ?_
              exact key33 _ (by rw [if_neg hc38])
            · refine g_iload_n (pc := 137) dX10_fewest_137 rfl rfl ?_
              refine g_goto (pc := 138) 143 dX10_fewest_138 (by decide) ?_
              exact key33 _ (by rw [if_pos hc38])
        · rw [if_neg hc21] at h
          refine g_iload (pc := 66) dX10_fewest_66 rfl ?_
          obtain ⟨p41, hp40, h⟩ := Option.bind_eq_some_iff.mp h
          refine r_callS (pc := 68) (c_J6_bitCount_0f7a4 hN i4 μ hp40) yS_J6_bitCount_0f7a4 pJ6_bitCount_0f7a4 mL_X10_248 dX10_fewest_68 (Nat.le_of_ble_eq_true rfl) (Nat.le_of_ble_eq_true rfl) rfl (rK_i ?_)
          refine g_iload_n (pc := 71) dX10_fewest_71 rfl rfl ?_
          obtain ⟨p43, hp42, h⟩ := Option.bind_eq_some_iff.mp h
          refine r_callS (pc := 72) (c_J6_bitCount_0f7a4 hN i3 p41.2 hp42) yS_J6_bitCount_0f7a4 pJ6_bitCount_0f7a4 mL_X10_248 dX10_fewest_72 (Nat.le_of_ble_eq_true rfl) (Nat.le_of_ble_eq_true rfl) rfl (rK_i ?_)
          have key46 : ∀ x44 : Int32, x44 = (if p43.1 ≤ p41.1 then (0 : Int32) else (1 : Int32)) → RR κ N 7 iX10_fewest 83 [(0, .ref (κ 0 + 0)), (1, .int i1), (2, .int i2), (3, .int i3), (4, .int i4), (5, .int x16)] [.int x44] p43.2 Q := by
            intro x44 e45
            rw [lt_of e45] at h
            refine g_istore (pc := 83) (lv' := fun y => [(0, .ref (κ 0 + 0)), (1, .int i1), (2, .int i2), (3, .int i3), (4, .int i4), (5, .int x16), (6, .int y)]) dX10_fewest_83 (Nat.le_of_ble_eq_true rfl) (fun _ => rfl) (fun y47 e48 => ?_)
            rw [e48]
            refine g_iload (pc := 85) dX10_fewest_85 rfl ?_
            refine g_if_eq (pc := 87) 144 dX10_fewest_87 (by decide) (fun hc49 => ?_) (fun hc49 => ?_)
            · rw [if_pos hc49] at h
              refine g_iinc (pc := 144) (lv' := fun y => [(0, .ref (κ 0 + 0)), (1, .int i1), (2, .int i2), (3, .int i3), (4, .int y), (5, .int x16), (6, .int x44)]) dX10_fewest_144 rfl (Nat.le_of_ble_eq_true rfl) (fun _ => rfl) (fun x50 e51 => ?_)
              rw [lt_of e51] at h
              refine g_goto (pc := 147) 38 dX10_fewest_147 (by decide) ?_
              refine g_lv (lv' := [(0, .ref (κ 0 + 0)), (1, .int i1), (2, .int i2), (3, .int i3), (4, .int x50)]) rfl ?_
              exact ih _ _ _ _ h k
            · rw [if_neg hc49] at h
              refine g_iload (pc := 90) dX10_fewest_90 rfl ?_
              refine g_if_eq (pc := 92) 144 dX10_fewest_92 (by decide) (fun hc52 => ?_) (fun hc52 => ?_)
              · rw [if_pos hc52] at h
                refine g_iinc (pc := 144) (lv' := fun y => [(0, .ref (κ 0 + 0)), (1, .int i1), (2, .int i2), (3, .int i3), (4, .int y), (5, .int x16), (6, .int x44)]) dX10_fewest_144 rfl (Nat.le_of_ble_eq_true rfl) (fun _ => rfl) (fun x53 e54 => ?_)
                rw [lt_of e54] at h
                refine g_goto (pc := 147) 38 dX10_fewest_147 (by decide) ?_
                refine g_lv (lv' := [(0, .ref (κ 0 + 0)), (1, .int i1), (2, .int i2), (3, .int i3), (4, .int x53)]) rfl ?_
                exact ih _ _ _ _ h k
              · rw [if_neg hc52] at h
                refine g_aload_n (pc := 95) dX10_fewest_95 rfl rfl ?_
                refine gf_X10_57 (pc := 96) rfl dX10_fewest_96 (Nat.lt_of_lt_of_le (by decide) hN) kd_0 ?_
                refine g_iload (pc := 99) dX10_fewest_99 rfl ?_
                refine pf_X10_242 (pc := 101) rfl dX10_fewest_101 (Nat.lt_of_lt_of_le (by decide) hN) kd_97 (fun m55 e56 => ?_)
                rw [lt_of e56] at h
                refine g_aload_n (pc := 104) dX10_fewest_104 rfl rfl ?_
                refine gf_X10_57 (pc := 105) rfl dX10_fewest_105 (Nat.lt_of_lt_of_le (by decide) hN) kd_0 ?_
                refine g_aload_n (pc := 108) dX10_fewest_108 rfl rfl ?_
                refine gf_X10_33 (pc := 109) rfl dX10_fewest_109 (Nat.lt_of_lt_of_le (by decide) hN) kd_0 ?_
                refine gf_X10_211 (pc := 112) rfl dX10_fewest_112 (Nat.lt_of_lt_of_le (by decide) hN) kd_16 ?_
                refine g_aload_n (pc := 115) dX10_fewest_115 rfl rfl ?_
                refine gf_X10_33 (pc := 116) rfl dX10_fewest_116 (Nat.lt_of_lt_of_le (by decide) hN) kd_0 ?_
                refine gf_X10_198 (pc := 119) rfl dX10_fewest_119 (Nat.lt_of_lt_of_le (by decide) hN) kd_16 ?_
                refine g_iload_n (pc := 122) dX10_fewest_122 rfl rfl ?_
                obtain ⟨m58, hp57, h⟩ := Option.bind_eq_some_iff.mp h
                refine r_callV (ci := 2) (pc := 123) (c_X2_run hN (m55 16 1) (m55 16 2) i1 m55 hp57) yV_X2_run ⟨rfl, by decide⟩ pX2_run mL_X10_225 dX10_fewest_123 (Nat.le_of_ble_eq_true rfl) (Nat.le_of_ble_eq_true rfl) (Nat.lt_of_lt_of_le (by decide) hN) kd_97 rfl (rK_v ?_)
                refine g_aload_n (pc := 126) dX10_fewest_126 rfl rfl ?_
                refine gf_X10_57 (pc := 127) rfl dX10_fewest_127 (Nat.lt_of_lt_of_le (by decide) hN) kd_0 ?_
                refine gf_X10_253 (pc := 130) rfl dX10_fewest_130 (Nat.lt_of_lt_of_le (by decide) hN) kd_97 ?_
                refine g_iconst (pc := 133) (v := (-1 : Int32)) dX10_fewest_133 rfl ?_
                have key61 : ∀ x59 : Int32, x59 = (if (m58 97 6) = (-1 : Int32) then i3 else i4) → RR κ N 7 iX10_fewest 143 [(0, .ref (κ 0 + 0)), (1, .int i1), (2, .int i2), (3, .int i3), (4, .int i4), (5, .int x16), (6, .int x44)] [.int x59] m58 Q := by
                  intro x59 e60
                  rw [lt_of e60] at h
                  refine g_istore_n (pc := 143) (lv' := fun y => [(0, .ref (κ 0 + 0)), (1, .int i1), (2, .int i2), (3, .int y), (4, .int i4), (5, .int x16), (6, .int x44)]) dX10_fewest_143 rfl (Nat.le_of_ble_eq_true rfl) (fun _ => rfl) (fun y62 e63 => ?_)
                  rw [e63]
                  refine g_iinc (pc := 144) (lv' := fun y => [(0, .ref (κ 0 + 0)), (1, .int i1), (2, .int i2), (3, .int x59), (4, .int y), (5, .int x16), (6, .int x44)]) dX10_fewest_144 rfl (Nat.le_of_ble_eq_true rfl) (fun _ => rfl) (fun x64 e65 => ?_)
                  rw [lt_of e65] at h
                  refine g_goto (pc := 147) 38 dX10_fewest_147 (by decide) ?_
                  refine g_lv (lv' := [(0, .ref (κ 0 + 0)), (1, .int i1), (2, .int i2), (3, .int x59), (4, .int x64)]) rfl ?_
                  exact ih _ _ _ _ h k
                refine g_icmp_ne (pc := 134) 141 dX10_fewest_134 (by decide) (fun hc66 => ?_) (fun hc66 => ?_)
                · refine g_iload (pc := 141) dX10_fewest_141 rfl ?_
                  exact key61 _ (by rw [if_neg hc66])
                · refine g_iload_n (pc := 137) dX10_fewest_137 rfl rfl ?_
                  refine g_goto (pc := 138) 143 dX10_fewest_138 (by decide) ?_
                  exact key61 _ (by rw [if_pos hc66])
          refine g_icmp_ge (pc := 75) 82 dX10_fewest_75 (by decide) (fun hc67 => ?_) (fun hc67 => ?_)
          · refine g_iconst (pc := 82) (v := (0 : Int32)) dX10_fewest_82 rfl ?_
            exact key46 _ (by rw [if_pos hc67])
          · refine g_iconst (pc := 78) (v := (1 : Int32)) dX10_fewest_78 rfl ?_
            refine g_goto (pc := 79) 83 dX10_fewest_79 (by decide) ?_
            exact key46 _ (by rw [if_neg hc67])
      refine g_if_ne (pc := 51) 58 dX10_fewest_51 (by decide) (fun hc68 => ?_) (fun hc68 => ?_)
      · refine g_iconst (pc := 58) (v := (0 : Int32)) dX10_fewest_58 rfl ?_
        exact key18 _ (by rw [if_neg hc68])
      · refine g_iconst (pc := 54) (v := (1 : Int32)) dX10_fewest_54 rfl ?_
        refine g_goto (pc := 55) 59 dX10_fewest_55 (by decide) ?_
        exact key18 _ (by rw [if_pos hc68])
set_option maxRecDepth 100000 in
set_option maxHeartbeats 4000000 in
theorem c_X10_fewest {κ : Nat → Nat} {N : Nat} (hN : 140 ≤ N) (i1 : Int32)  (μ : gMem) {r : Int32} {μ' : gMem} (h : f_X10_fewest i1 μ = some (r, μ')) : CT2 κ N 7 yX10_fewest iX10_fewest [.ref (κ 0 + 0), .int i1] μ (qI r μ') := by
  refine CT2.of (by decide) rfl rfl (Nat.le_of_ble_eq_true rfl) ?_
  unfold f_X10_fewest at h
  show RR κ N 7 iX10_fewest 0 [(0, .ref (κ 0 + 0)), (1, .int i1)] [] μ _
  refine g_iload_n (pc := 0) dX10_fewest_0 rfl rfl ?_
  refine g_iconst (pc := 1) (v := (1 : Int32)) dX10_fewest_1 rfl ?_
  refine g_bipush (pc := 2) (v := (99 : Int32)) dX10_fewest_2 rfl ?_
  obtain ⟨p2, hp1, h⟩ := Option.bind_eq_some_iff.mp h
  refine r_callS (pc := 4) (c_X10_isOutside hN i1 (1 : Int32) (99 : Int32) μ hp1) yS_X10_isOutside pX10_isOutside mL_X10_83 dX10_fewest_4 (Nat.le_of_ble_eq_true rfl) (Nat.le_of_ble_eq_true rfl) rfl (rK_z (fun hz3 => ?_))
  refine g_if_eq (pc := 7) 13 dX10_fewest_7 (by decide) (fun hc4 => ?_) (fun hc4 => ?_)
  · rw [if_pos hc4] at h
    refine g_aload_n (pc := 13) dX10_fewest_13 rfl rfl ?_
    refine gf_X10_33 (pc := 14) rfl dX10_fewest_14 (Nat.lt_of_lt_of_le (by decide) hN) kd_0 ?_
    obtain ⟨p6, hp5, h⟩ := Option.bind_eq_some_iff.mp h
    refine r_callV (ci := 5) (pc := 17) (c_X5_workers hN 16 kd_16 p2.2 hp5) yV_X5_workers ⟨rfl, by decide⟩ pX5_workers mL_X10_245 dX10_fewest_17 (Nat.le_of_ble_eq_true rfl) (Nat.le_of_ble_eq_true rfl) (Nat.lt_of_lt_of_le (by decide) hN) kd_16 rfl (rK_i ?_)
    refine g_istore_n (pc := 20) (lv' := fun y => [(0, .ref (κ 0 + 0)), (1, .int i1), (2, .int y)]) dX10_fewest_20 rfl (Nat.le_of_ble_eq_true rfl) (fun _ => rfl) (fun x7 e8 => ?_)
    rw [lt_of e8] at h
    refine g_aload_n (pc := 21) dX10_fewest_21 rfl rfl ?_
    refine gf_X10_57 (pc := 22) rfl dX10_fewest_22 (Nat.lt_of_lt_of_le (by decide) hN) kd_0 ?_
    refine g_aload_n (pc := 25) dX10_fewest_25 rfl rfl ?_
    refine gf_X10_33 (pc := 26) rfl dX10_fewest_26 (Nat.lt_of_lt_of_le (by decide) hN) kd_0 ?_
    refine g_iload_n (pc := 29) dX10_fewest_29 rfl rfl ?_
    obtain ⟨m10, hp9, h⟩ := Option.bind_eq_some_iff.mp h
    refine r_callV (ci := 2) (pc := 30) (c_X2_takeAll hN 16 i1 kd_16 p6.2 hp9) yV_X2_takeAll ⟨rfl, by decide⟩ pX2_takeAll mL_X10_221 dX10_fewest_30 (Nat.le_of_ble_eq_true rfl) (Nat.le_of_ble_eq_true rfl) (Nat.lt_of_lt_of_le (by decide) hN) kd_97 rfl (rK_v ?_)
    refine g_iconst (pc := 33) (v := (-1 : Int32)) dX10_fewest_33 rfl ?_
    refine g_istore_n (pc := 34) (lv' := fun y => [(0, .ref (κ 0 + 0)), (1, .int i1), (2, .int x7), (3, .int y)]) dX10_fewest_34 rfl (Nat.le_of_ble_eq_true rfl) (fun _ => rfl) (fun y11 e12 => ?_)
    rw [e12]
    refine g_iconst (pc := 35) (v := (0 : Int32)) dX10_fewest_35 rfl ?_
    refine g_istore (pc := 36) (lv' := fun y => [(0, .ref (κ 0 + 0)), (1, .int i1), (2, .int x7), (3, .int (-1 : Int32)), (4, .int y)]) dX10_fewest_36 (Nat.le_of_ble_eq_true rfl) (fun _ => rfl) (fun y13 e14 => ?_)
    rw [e14]
    obtain ⟨p69, hp70, h⟩ := Option.bind_eq_some_iff.mp h
    refine cl_X10_fewest_38 hN i1 x7  gF (-1 : Int32) (0 : Int32) _ _ hp70 ?_
    refine g_iload_n (pc := 150) dX10_fewest_150 rfl rfl ?_
    cases h
    exact r_iret dX10_fewest_151 rfl rfl rfl
  · rw [if_neg hc4] at h
    refine g_bipush (pc := 10) (v := (-3 : Int32)) dX10_fewest_10 rfl ?_
    cases h
    exact r_iret dX10_fewest_12 rfl rfl rfl

def f_X10_together (i1 : Int32) (i2 : Int32) (μ : gMem) : Option (Int32 × gMem) :=
  if i2 = (-1 : Int32) then
  ((f_X10_isOutside i1 (1 : Int32) (40 : Int32) μ).bind (fun p3 =>
  if p3.1 = 0 then
  ((f_X1_search 16 i1 p3.2).bind (fun m7 =>
  if i2 = (-1 : Int32) then
  (some ((m7 106 6), m7))
else
  (if inb i2 5 = true then
  some ((m7 137 i2.toNatClampNeg), m7) else none)))
else
  (some ((-3 : Int32), p3.2))))
else
  ((f_X10_isUnknown i2 μ).bind (fun p11 =>
  if p11.1 = 0 then
  ((f_X10_isOutside i1 (1 : Int32) (40 : Int32) p11.2).bind (fun p15 =>
  if p15.1 = 0 then
  ((f_X1_search 16 i1 p15.2).bind (fun m19 =>
  if i2 = (-1 : Int32) then
  (some ((m19 106 6), m19))
else
  (if inb i2 5 = true then
  some ((m19 137 i2.toNatClampNeg), m19) else none)))
else
  (some ((-3 : Int32), p15.2))))
else
  (some ((-2 : Int32), p11.2))))
set_option maxRecDepth 100000 in
set_option maxHeartbeats 4000000 in
theorem c_X10_together {κ : Nat → Nat} {N : Nat} (hN : 140 ≤ N) (i1 : Int32) (i2 : Int32)  (μ : gMem) {r : Int32} {μ' : gMem} (h : f_X10_together i1 i2 μ = some (r, μ')) : CT2 κ N 11 yX10_together iX10_together [.ref (κ 0 + 0), .int i1, .int i2] μ (qI r μ') := by
  refine CT2.of (by decide) rfl rfl (Nat.le_of_ble_eq_true rfl) ?_
  unfold f_X10_together at h
  show RR κ N 11 iX10_together 0 [(0, .ref (κ 0 + 0)), (1, .int i1), (2, .int i2)] [] μ _
  refine g_iload_n (pc := 0) dX10_together_0 rfl rfl ?_
  refine g_iconst (pc := 1) (v := (-1 : Int32)) dX10_together_1 rfl ?_
  refine g_icmp_eq (pc := 2) 16 dX10_together_2 (by decide) (fun hc1 => ?_) (fun hc1 => ?_)
  · rw [if_pos hc1] at h
    refine g_iload_n (pc := 16) dX10_together_16 rfl rfl ?_
    refine g_iconst (pc := 17) (v := (1 : Int32)) dX10_together_17 rfl ?_
    refine g_bipush (pc := 18) (v := (40 : Int32)) dX10_together_18 rfl ?_
    obtain ⟨p3, hp2, h⟩ := Option.bind_eq_some_iff.mp h
    refine r_callS (pc := 20) (c_X10_isOutside hN i1 (1 : Int32) (40 : Int32) μ hp2) yS_X10_isOutside pX10_isOutside mL_X10_83 dX10_together_20 (Nat.le_of_ble_eq_true rfl) (Nat.le_of_ble_eq_true rfl) rfl (rK_z (fun hz4 => ?_))
    refine g_if_eq (pc := 23) 29 dX10_together_23 (by decide) (fun hc5 => ?_) (fun hc5 => ?_)
    · rw [if_pos hc5] at h
      refine g_aload_n (pc := 29) dX10_together_29 rfl rfl ?_
      refine gf_X10_64 (pc := 30) rfl dX10_together_30 (Nat.lt_of_lt_of_le (by decide) hN) kd_0 ?_
      refine g_aload_n (pc := 33) dX10_together_33 rfl rfl ?_
      refine gf_X10_33 (pc := 34) rfl dX10_together_34 (Nat.lt_of_lt_of_le (by decide) hN) kd_0 ?_
      refine g_iload_n (pc := 37) dX10_together_37 rfl rfl ?_
      obtain ⟨m7, hp6, h⟩ := Option.bind_eq_some_iff.mp h
      refine r_callV (ci := 1) (pc := 38) (c_X1_search hN 16 i1 kd_16 p3.2 hp6) yV_X1_search ⟨rfl, by decide⟩ pX1_search mL_X10_255 dX10_together_38 (Nat.le_of_ble_eq_true rfl) (Nat.le_of_ble_eq_true rfl) (Nat.lt_of_lt_of_le (by decide) hN) kd_106 rfl (rK_v ?_)
      refine g_iload_n (pc := 41) dX10_together_41 rfl rfl ?_
      refine g_iconst (pc := 42) (v := (-1 : Int32)) dX10_together_42 rfl ?_
      refine g_icmp_ne (pc := 43) 56 dX10_together_43 (by decide) (fun hc8 => ?_) (fun hc8 => ?_)
      · rw [if_neg hc8] at h
        refine g_aload_n (pc := 56) dX10_together_56 rfl rfl ?_
        refine gf_X10_64 (pc := 57) rfl dX10_together_57 (Nat.lt_of_lt_of_le (by decide) hN) kd_0 ?_
        refine gf_X10_261 (pc := 60) rfl dX10_together_60 (Nat.lt_of_lt_of_le (by decide) hN) kd_106 ?_
        refine g_iload_n (pc := 63) dX10_together_63 rfl rfl ?_
        obtain ⟨hg9, h⟩ := gd_some h
        refine r_iald (pc := 64) 5 dX10_together_64 (Nat.lt_of_lt_of_le (by decide) hN) kd_137 ln_137 hg9 ?_
        cases h
        exact r_iret dX10_together_65 rfl rfl rfl
      · rw [if_pos hc8] at h
        refine g_aload_n (pc := 46) dX10_together_46 rfl rfl ?_
        refine gf_X10_64 (pc := 47) rfl dX10_together_47 (Nat.lt_of_lt_of_le (by decide) hN) kd_0 ?_
        refine gf_X10_258 (pc := 50) rfl dX10_together_50 (Nat.lt_of_lt_of_le (by decide) hN) kd_106 ?_
        refine g_goto (pc := 53) 65 dX10_together_53 (by decide) ?_
        cases h
        exact r_iret dX10_together_65 rfl rfl rfl
    · rw [if_neg hc5] at h
      refine g_bipush (pc := 26) (v := (-3 : Int32)) dX10_together_26 rfl ?_
      cases h
      exact r_iret dX10_together_28 rfl rfl rfl
  · rw [if_neg hc1] at h
    refine g_aload_n (pc := 5) dX10_together_5 rfl rfl ?_
    refine g_iload_n (pc := 6) dX10_together_6 rfl rfl ?_
    obtain ⟨p11, hp10, h⟩ := Option.bind_eq_some_iff.mp h
    refine r_callV (ci := 9) (pc := 7) (c_X10_isUnknown hN i2 μ hp10) yV_X10_isUnknown ⟨rfl, by decide⟩ pX10_isUnknown mL_X10_124 dX10_together_7 (Nat.le_of_ble_eq_true rfl) (Nat.le_of_ble_eq_true rfl) (Nat.lt_of_lt_of_le (by decide) hN) kd_0 rfl (rK_z (fun hz12 => ?_))
    refine g_if_eq (pc := 10) 16 dX10_together_10 (by decide) (fun hc13 => ?_) (fun hc13 => ?_)
    · rw [if_pos hc13] at h
      refine g_iload_n (pc := 16) dX10_together_16 rfl rfl ?_
      refine g_iconst (pc := 17) (v := (1 : Int32)) dX10_together_17 rfl ?_
      refine g_bipush (pc := 18) (v := (40 : Int32)) dX10_together_18 rfl ?_
      obtain ⟨p15, hp14, h⟩ := Option.bind_eq_some_iff.mp h
      refine r_callS (pc := 20) (c_X10_isOutside hN i1 (1 : Int32) (40 : Int32) p11.2 hp14) yS_X10_isOutside pX10_isOutside mL_X10_83 dX10_together_20 (Nat.le_of_ble_eq_true rfl) (Nat.le_of_ble_eq_true rfl) rfl (rK_z (fun hz16 => ?_))
      refine g_if_eq (pc := 23) 29 dX10_together_23 (by decide) (fun hc17 => ?_) (fun hc17 => ?_)
      · rw [if_pos hc17] at h
        refine g_aload_n (pc := 29) dX10_together_29 rfl rfl ?_
        refine gf_X10_64 (pc := 30) rfl dX10_together_30 (Nat.lt_of_lt_of_le (by decide) hN) kd_0 ?_
        refine g_aload_n (pc := 33) dX10_together_33 rfl rfl ?_
        refine gf_X10_33 (pc := 34) rfl dX10_together_34 (Nat.lt_of_lt_of_le (by decide) hN) kd_0 ?_
        refine g_iload_n (pc := 37) dX10_together_37 rfl rfl ?_
        obtain ⟨m19, hp18, h⟩ := Option.bind_eq_some_iff.mp h
        refine r_callV (ci := 1) (pc := 38) (c_X1_search hN 16 i1 kd_16 p15.2 hp18) yV_X1_search ⟨rfl, by decide⟩ pX1_search mL_X10_255 dX10_together_38 (Nat.le_of_ble_eq_true rfl) (Nat.le_of_ble_eq_true rfl) (Nat.lt_of_lt_of_le (by decide) hN) kd_106 rfl (rK_v ?_)
        refine g_iload_n (pc := 41) dX10_together_41 rfl rfl ?_
        refine g_iconst (pc := 42) (v := (-1 : Int32)) dX10_together_42 rfl ?_
        refine g_icmp_ne (pc := 43) 56 dX10_together_43 (by decide) (fun hc20 => ?_) (fun hc20 => ?_)
        · rw [if_neg hc20] at h
          refine g_aload_n (pc := 56) dX10_together_56 rfl rfl ?_
          refine gf_X10_64 (pc := 57) rfl dX10_together_57 (Nat.lt_of_lt_of_le (by decide) hN) kd_0 ?_
          refine gf_X10_261 (pc := 60) rfl dX10_together_60 (Nat.lt_of_lt_of_le (by decide) hN) kd_106 ?_
          refine g_iload_n (pc := 63) dX10_together_63 rfl rfl ?_
          obtain ⟨hg21, h⟩ := gd_some h
          refine r_iald (pc := 64) 5 dX10_together_64 (Nat.lt_of_lt_of_le (by decide) hN) kd_137 ln_137 hg21 ?_
          cases h
          exact r_iret dX10_together_65 rfl rfl rfl
        · rw [if_pos hc20] at h
          refine g_aload_n (pc := 46) dX10_together_46 rfl rfl ?_
          refine gf_X10_64 (pc := 47) rfl dX10_together_47 (Nat.lt_of_lt_of_le (by decide) hN) kd_0 ?_
          refine gf_X10_258 (pc := 50) rfl dX10_together_50 (Nat.lt_of_lt_of_le (by decide) hN) kd_106 ?_
          refine g_goto (pc := 53) 65 dX10_together_53 (by decide) ?_
          cases h
          exact r_iret dX10_together_65 rfl rfl rfl
      · rw [if_neg hc17] at h
        refine g_bipush (pc := 26) (v := (-3 : Int32)) dX10_together_26 rfl ?_
        cases h
        exact r_iret dX10_together_28 rfl rfl rfl
    · rw [if_neg hc13] at h
      refine g_bipush (pc := 13) (v := (-2 : Int32)) dX10_together_13 rfl ?_
      cases h
      exact r_iret dX10_together_15 rfl rfl rfl

def l_X10_worked_46 (i1 : Int32) (i2 : Int32) : Nat → Int32 → Int32 → Int32 → Int32 → gMem → Option (Int32 × Int32 × Int32 × Int32 × gMem)
  | 0, _, _, _, _, _ => none
  | n + 1, i3, i4, i5, i6, μ =>
  if ((1 : Int32) <<< ((μ 1 1) &&& 31)) ≤ i6 then
  (some (i3, i4, i5, i6, μ))
else
  (lt (st μ 97 4 i6) (fun m20 =>
  (f_X2_run (0 : Int32) (m20 1 5) i2 m20).bind (fun m23 =>
  (f_X10_fitsSeen  m23).bind (fun p25 =>
  if p25.1 = 0 then
  (lt (i6 + Int32.ofInt 1) (fun x28 =>
  l_X10_worked_46 i1 i2 n i3 i4 i5 x28 p25.2))
else
  (lt (i3 + Int32.ofInt 1) (fun x30 =>
  lt (if i4 = (-1 : Int32) then i6 else i4) (fun x32 =>
  lt (i5 &&& i6) (fun x37 =>
  lt (i6 + Int32.ofInt 1) (fun x39 =>
  l_X10_worked_46 i1 i2 n x30 x32 x37 x39 p25.2)))))))))
def f_X10_worked (i1 : Int32) (μ : gMem) : Option (Int32 × gMem) :=
  (f_X10_isOutside i1 (0 : Int32) (2 : Int32) μ).bind (fun p2 =>
  if p2.1 = 0 then
  ((f_X10_latestSeen  p2.2).bind (fun p6 =>
  lt p6.1 (fun x7 =>
  (f_X2_takeBegun x7 p6.2).bind (fun m10 =>
  lt (((1 : Int32) <<< ((m10 1 1) &&& 31)) - (1 : Int32)) (fun x15 =>
  (l_X10_worked_46 i1 x7 gF (0 : Int32) (-1 : Int32) x15 (0 : Int32) m10).bind (fun p42 =>
  if i1 = (0 : Int32) then
  (some (p42.1, p42.2.2.2.2))
else
  (if i1 = (1 : Int32) then
  (some (p42.2.1, p42.2.2.2.2))
else
  (lt (if p42.1 = 0 then (0 : Int32) else p42.2.2.1) (fun x46 =>
  some (x46, p42.2.2.2.2))))))))))
else
  (some ((-3 : Int32), p2.2)))
set_option maxRecDepth 100000 in
set_option maxHeartbeats 4000000 in
theorem cl_X10_worked_46 {κ : Nat → Nat} {N : Nat} {Q : rQ} (hN : 140 ≤ N) (i1 : Int32) (i2 : Int32)  : ∀ (n : Nat) (i3 : Int32) (i4 : Int32) (i5 : Int32) (i6 : Int32) (μ : gMem) (p : Int32 × Int32 × Int32 × Int32 × gMem), l_X10_worked_46 i1 i2 n i3 i4 i5 i6 μ = some p → RR κ N 7 iX10_worked 123 [(0, .ref (κ 0 + 0)), (1, .int i1), (2, .int i2), (3, .int p.1), (4, .int p.2.1), (5, .int p.2.2.1), (6, .int p.2.2.2.1)] [] p.2.2.2.2 Q → RR κ N 7 iX10_worked 46 [(0, .ref (κ 0 + 0)), (1, .int i1), (2, .int i2), (3, .int i3), (4, .int i4), (5, .int i5), (6, .int i6)] [] μ Q := by
  intro n
  induction n with
  | zero =>
    intro i3 i4 i5 i6 μ p h k
    unfold l_X10_worked_46 at h
    cases h
  | succ n ih =>
    intro i3 i4 i5 i6 μ p h k
    unfold l_X10_worked_46 at h
    refine g_iload (pc := 46) dX10_worked_46 rfl ?_
    refine g_iconst (pc := 48) (v := (1 : Int32)) dX10_worked_48 rfl ?_
    refine g_aload_n (pc := 49) dX10_worked_49 rfl rfl ?_
    refine gf_X10_10 (pc := 50) rfl dX10_worked_50 (Nat.lt_of_lt_of_le (by decide) hN) kd_0 ?_
    refine gf_X10_94 (pc := 53) rfl dX10_worked_53 (Nat.lt_of_lt_of_le (by decide) hN) kd_1 ?_
    refine g_ishl (pc := 56) dX10_worked_56 ?_
    refine g_icmp_ge (pc := 57) 123 dX10_worked_57 (by decide) (fun hc19 => ?_) (fun hc19 => ?_)
    · rw [if_pos hc19] at h
      cases h
      exact k
    · rw [if_neg hc19] at h
      refine g_aload_n (pc := 60) dX10_worked_60 rfl rfl ?_
      refine gf_X10_57 (pc := 61) rfl dX10_worked_61 (Nat.lt_of_lt_of_le (by decide) hN) kd_0 ?_
      refine g_iload (pc := 64) dX10_worked_64 rfl ?_
      refine pf_X10_242 (pc := 66) rfl dX10_worked_66 (Nat.lt_of_lt_of_le (by decide) hN) kd_97 (fun m20 e21 => ?_)
      rw [lt_of e21] at h
      refine g_aload_n (pc := 69) dX10_worked_69 rfl rfl ?_
      refine gf_X10_57 (pc := 70) rfl dX10_worked_70 (Nat.lt_of_lt_of_le (by decide) hN) kd_0 ?_
      refine g_iconst (pc := 73) (v := (0 : Int32)) dX10_worked_73 rfl ?_
      refine g_aload_n (pc := 74) dX10_worked_74 rfl rfl ?_
      refine gf_X10_10 (pc := 75) rfl dX10_worked_75 (Nat.lt_of_lt_of_le (by decide) hN) kd_0 ?_
      refine gf_X10_75 (pc := 78) rfl dX10_worked_78 (Nat.lt_of_lt_of_le (by decide) hN) kd_1 ?_
      refine g_iload_n (pc := 81) dX10_worked_81 rfl rfl ?_
      obtain ⟨m23, hp22, h⟩ := Option.bind_eq_some_iff.mp h
      refine r_callV (ci := 2) (pc := 82) (c_X2_run hN (0 : Int32) (m20 1 5) i2 m20 hp22) yV_X2_run ⟨rfl, by decide⟩ pX2_run mL_X10_225 dX10_worked_82 (Nat.le_of_ble_eq_true rfl) (Nat.le_of_ble_eq_true rfl) (Nat.lt_of_lt_of_le (by decide) hN) kd_97 rfl (rK_v ?_)
      refine g_aload_n (pc := 85) dX10_worked_85 rfl rfl ?_
      obtain ⟨p25, hp24, h⟩ := Option.bind_eq_some_iff.mp h
      refine r_callV (ci := 9) (pc := 86) (c_X10_fitsSeen hN  m23 hp24) yV_X10_fitsSeen ⟨rfl, by decide⟩ pX10_fitsSeen mL_X10_270 dX10_worked_86 (Nat.le_of_ble_eq_true rfl) (Nat.le_of_ble_eq_true rfl) (Nat.lt_of_lt_of_le (by decide) hN) kd_0 rfl (rK_z (fun hz26 => ?_))
      refine g_if_eq (pc := 89) 117 dX10_worked_89 (by decide) (fun hc27 => ?_) (fun hc27 => ?_)
      · rw [if_pos hc27] at h
        refine g_iinc (pc := 117) (lv' := fun y => [(0, .ref (κ 0 + 0)), (1, .int i1), (2, .int i2), (3, .int i3), (4, .int i4), (5, .int i5), (6, .int y)]) dX10_worked_117 rfl (Nat.le_of_ble_eq_true rfl) (fun _ => rfl) (fun x28 e29 => ?_)
        rw [lt_of e29] at h
        refine g_goto (pc := 120) 46 dX10_worked_120 (by decide) ?_
        refine g_lv (lv' := [(0, .ref (κ 0 + 0)), (1, .int i1), (2, .int i2), (3, .int i3), (4, .int i4), (5, .int i5), (6, .int x28)]) rfl ?_
        exact ih _ _ _ _ _ _ h k
      · rw [if_neg hc27] at h
        refine g_iinc (pc := 92) (lv' := fun y => [(0, .ref (κ 0 + 0)), (1, .int i1), (2, .int i2), (3, .int y), (4, .int i4), (5, .int i5), (6, .int i6)]) dX10_worked_92 rfl (Nat.le_of_ble_eq_true rfl) (fun _ => rfl) (fun x30 e31 => ?_)
        rw [lt_of e31] at h
        refine g_iload (pc := 95) dX10_worked_95 rfl ?_
        refine g_iconst (pc := 97) (v := (-1 : Int32)) dX10_worked_97 rfl ?_
        have key34 : ∀ x32 : Int32, x32 = (if i4 = (-1 : Int32) then i6 else i4) → RR κ N 7 iX10_worked 108 [(0, .ref (κ 0 + 0)), (1, .int i1), (2, .int i2), (3, .int x30), (4, .int i4), (5, .int i5), (6, .int i6)] [.int x32] p25.2 Q := by
          intro x32 e33
          rw [lt_of e33] at h
          refine g_istore (pc := 108) (lv' := fun y => [(0, .ref (κ 0 + 0)), (1, .int i1), (2, .int i2), (3, .int x30), (4, .int y), (5, .int i5), (6, .int i6)]) dX10_worked_108 (Nat.le_of_ble_eq_true rfl) (fun _ => rfl) (fun y35 e36 => ?_)
          rw [e36]
          refine g_iload (pc := 110) dX10_worked_110 rfl ?_
          refine g_iload (pc := 112) dX10_worked_112 rfl ?_
          refine g_iand (pc := 114) dX10_worked_114 ?_
          refine g_istore (pc := 115) (lv' := fun y => [(0, .ref (κ 0 + 0)), (1, .int i1), (2, .int i2), (3, .int x30), (4, .int x32), (5, .int y), (6, .int i6)]) dX10_worked_115 (Nat.le_of_ble_eq_true rfl) (fun _ => rfl) (fun x37 e38 => ?_)
          rw [lt_of e38] at h
          refine g_iinc (pc := 117) (lv' := fun y => [(0, .ref (κ 0 + 0)), (1, .int i1), (2, .int i2), (3, .int x30), (4, .int x32), (5, .int x37), (6, .int y)]) dX10_worked_117 rfl (Nat.le_of_ble_eq_true rfl) (fun _ => rfl) (fun x39 e40 => ?_)
          rw [lt_of e40] at h
          refine g_goto (pc := 120) 46 dX10_worked_120 (by decide) ?_
          refine g_lv (lv' := [(0, .ref (κ 0 + 0)), (1, .int i1), (2, .int i2), (3, .int x30), (4, .int x32), (5, .int x37), (6, .int x39)]) rfl ?_
          exact ih _ _ _ _ _ _ h k
        refine g_icmp_ne (pc := 98) 106 dX10_worked_98 (by decide) (fun hc41 => ?_) (fun hc41 => ?_)
        · refine g_iload (pc := 106) dX10_worked_106 rfl ?_
          exact key34 _ (by rw [if_neg hc41])
        · refine g_iload (pc := 101) dX10_worked_101 rfl ?_
          refine g_goto (pc := 103) 108 dX10_worked_103 (by decide) ?_
          exact key34 _ (by rw [if_pos hc41])
set_option maxRecDepth 100000 in
set_option maxHeartbeats 4000000 in
theorem c_X10_worked {κ : Nat → Nat} {N : Nat} (hN : 140 ≤ N) (i1 : Int32)  (μ : gMem) {r : Int32} {μ' : gMem} (h : f_X10_worked i1 μ = some (r, μ')) : CT2 κ N 7 yX10_worked iX10_worked [.ref (κ 0 + 0), .int i1] μ (qI r μ') := by
  refine CT2.of (by decide) rfl rfl (Nat.le_of_ble_eq_true rfl) ?_
  unfold f_X10_worked at h
  show RR κ N 7 iX10_worked 0 [(0, .ref (κ 0 + 0)), (1, .int i1)] [] μ _
  refine g_iload_n (pc := 0) dX10_worked_0 rfl rfl ?_
  refine g_iconst (pc := 1) (v := (0 : Int32)) dX10_worked_1 rfl ?_
  refine g_iconst (pc := 2) (v := (2 : Int32)) dX10_worked_2 rfl ?_
  obtain ⟨p2, hp1, h⟩ := Option.bind_eq_some_iff.mp h
  refine r_callS (pc := 3) (c_X10_isOutside hN i1 (0 : Int32) (2 : Int32) μ hp1) yS_X10_isOutside pX10_isOutside mL_X10_83 dX10_worked_3 (Nat.le_of_ble_eq_true rfl) (Nat.le_of_ble_eq_true rfl) rfl (rK_z (fun hz3 => ?_))
  refine g_if_eq (pc := 6) 12 dX10_worked_6 (by decide) (fun hc4 => ?_) (fun hc4 => ?_)
  · rw [if_pos hc4] at h
    refine g_aload_n (pc := 12) dX10_worked_12 rfl rfl ?_
    obtain ⟨p6, hp5, h⟩ := Option.bind_eq_some_iff.mp h
    refine r_callV (ci := 9) (pc := 13) (c_X10_latestSeen hN  p2.2 hp5) yV_X10_latestSeen ⟨rfl, by decide⟩ pX10_latestSeen mL_X10_264 dX10_worked_13 (Nat.le_of_ble_eq_true rfl) (Nat.le_of_ble_eq_true rfl) (Nat.lt_of_lt_of_le (by decide) hN) kd_0 rfl (rK_i ?_)
    refine g_istore_n (pc := 16) (lv' := fun y => [(0, .ref (κ 0 + 0)), (1, .int i1), (2, .int y)]) dX10_worked_16 rfl (Nat.le_of_ble_eq_true rfl) (fun _ => rfl) (fun x7 e8 => ?_)
    rw [lt_of e8] at h
    refine g_aload_n (pc := 17) dX10_worked_17 rfl rfl ?_
    refine gf_X10_57 (pc := 18) rfl dX10_worked_18 (Nat.lt_of_lt_of_le (by decide) hN) kd_0 ?_
    refine g_iload_n (pc := 21) dX10_worked_21 rfl rfl ?_
    obtain ⟨m10, hp9, h⟩ := Option.bind_eq_some_iff.mp h
    refine r_callV (ci := 2) (pc := 22) (c_X2_takeBegun hN x7 p6.2 hp9) yV_X2_takeBegun ⟨rfl, by decide⟩ pX2_takeBegun mL_X10_267 dX10_worked_22 (Nat.le_of_ble_eq_true rfl) (Nat.le_of_ble_eq_true rfl) (Nat.lt_of_lt_of_le (by decide) hN) kd_97 rfl (rK_v ?_)
    refine g_iconst (pc := 25) (v := (0 : Int32)) dX10_worked_25 rfl ?_
    refine g_istore_n (pc := 26) (lv' := fun y => [(0, .ref (κ 0 + 0)), (1, .int i1), (2, .int x7), (3, .int y)]) dX10_worked_26 rfl (Nat.le_of_ble_eq_true rfl) (fun _ => rfl) (fun y11 e12 => ?_)
    rw [e12]
    refine g_iconst (pc := 27) (v := (-1 : Int32)) dX10_worked_27 rfl ?_
    refine g_istore (pc := 28) (lv' := fun y => [(0, .ref (κ 0 + 0)), (1, .int i1), (2, .int x7), (3, .int (0 : Int32)), (4, .int y)]) dX10_worked_28 (Nat.le_of_ble_eq_true rfl) (fun _ => rfl) (fun y13 e14 => ?_)
    rw [e14]
    refine g_iconst (pc := 30) (v := (1 : Int32)) dX10_worked_30 rfl ?_
    refine g_aload_n (pc := 31) dX10_worked_31 rfl rfl ?_
    refine gf_X10_10 (pc := 32) rfl dX10_worked_32 (Nat.lt_of_lt_of_le (by decide) hN) kd_0 ?_
    refine gf_X10_94 (pc := 35) rfl dX10_worked_35 (Nat.lt_of_lt_of_le (by decide) hN) kd_1 ?_
    refine g_ishl (pc := 38) dX10_worked_38 ?_
    refine g_iconst (pc := 39) (v := (1 : Int32)) dX10_worked_39 rfl ?_
    refine g_isub (pc := 40) dX10_worked_40 ?_
    refine g_istore (pc := 41) (lv' := fun y => [(0, .ref (κ 0 + 0)), (1, .int i1), (2, .int x7), (3, .int (0 : Int32)), (4, .int (-1 : Int32)), (5, .int y)]) dX10_worked_41 (Nat.le_of_ble_eq_true rfl) (fun _ => rfl) (fun x15 e16 => ?_)
    rw [lt_of e16] at h
    refine g_iconst (pc := 43) (v := (0 : Int32)) dX10_worked_43 rfl ?_
    refine g_istore (pc := 44) (lv' := fun y => [(0, .ref (κ 0 + 0)), (1, .int i1), (2, .int x7), (3, .int (0 : Int32)), (4, .int (-1 : Int32)), (5, .int x15), (6, .int y)]) dX10_worked_44 (Nat.le_of_ble_eq_true rfl) (fun _ => rfl) (fun y17 e18 => ?_)
    rw [e18]
    obtain ⟨p42, hp43, h⟩ := Option.bind_eq_some_iff.mp h
    refine cl_X10_worked_46 hN i1 x7  gF (0 : Int32) (-1 : Int32) x15 (0 : Int32) _ _ hp43 ?_
    refine g_iload_n (pc := 123) dX10_worked_123 rfl rfl ?_
    by_cases hc44 : i1 = (0 : Int32)
    · rw [if_pos hc44] at h
      refine g_lookup (pc := 124) (off := 28) 152 dX10_worked_124 (by decide) (by rw [hc44]; rfl) (by decide) ?_
      refine g_iload_n (pc := 152) dX10_worked_152 rfl rfl ?_
      cases h
      exact r_iret dX10_worked_153 rfl rfl rfl
    · rw [if_neg hc44] at h
      by_cases hc45 : i1 = (1 : Int32)
      · rw [if_pos hc45] at h
        refine g_lookup (pc := 124) (off := 30) 154 dX10_worked_124 (by decide) (by rw [hc45]; rfl) (by decide) ?_
        refine g_iload (pc := 154) dX10_worked_154 rfl ?_
        cases h
        exact r_iret dX10_worked_156 rfl rfl rfl
      · rw [if_neg hc45] at h
        refine g_lookup (pc := 124) (off := 33) 157 dX10_worked_124 (by decide) (by show Op.lookupswitch.offset _ _ _ = _; first | (rw [lv_osw hc44 (by decide), lv_osw hc45 (by decide)]; rfl) | (simp only [lv_osw hc44 (by decide), lv_osw hc45 (by decide)]; rfl)) (by decide) ?_
        refine g_iload_n (pc := 157) dX10_worked_157 rfl rfl ?_
        have key48 : ∀ x46 : Int32, x46 = (if p42.1 = 0 then (0 : Int32) else p42.2.2.1) → RR κ N 7 iX10_worked 167 [(0, .ref (κ 0 + 0)), (1, .int i1), (2, .int x7), (3, .int p42.1), (4, .int p42.2.1), (5, .int p42.2.2.1), (6, .int p42.2.2.2.1)] [.int x46] p42.2.2.2.2 (qI r μ') := by
          intro x46 e47
          rw [lt_of e47] at h
          cases h
          exact r_iret dX10_worked_167 rfl rfl rfl
        refine g_if_ne (pc := 158) 165 dX10_worked_158 (by decide) (fun hc49 => ?_) (fun hc49 => ?_)
        · refine g_iload (pc := 165) dX10_worked_165 rfl ?_
          exact key48 _ (by rw [if_neg hc49])
        · refine g_iconst (pc := 161) (v := (0 : Int32)) dX10_worked_161 rfl ?_
          refine g_goto (pc := 162) 167 dX10_worked_162 (by decide) ?_
          exact key48 _ (by rw [if_pos hc49])
  · rw [if_neg hc4] at h
    refine g_bipush (pc := 9) (v := (-3 : Int32)) dX10_worked_9 rfl ?_
    cases h
    exact r_iret dX10_worked_11 rfl rfl rfl

def f_X10_firstFull (i1 : Int32) (μ : gMem) : Option (Int32 × gMem) :=
  (f_X2_takeAll 16 (99 : Int32) μ).bind (fun m2 =>
  (f_X2_run (m2 16 1) i1 (99 : Int32) m2).bind (fun m4 =>
  some ((m4 97 6), m4)))
set_option maxRecDepth 100000 in
set_option maxHeartbeats 4000000 in
theorem c_X10_firstFull {κ : Nat → Nat} {N : Nat} (hN : 140 ≤ N) (i1 : Int32)  (μ : gMem) {r : Int32} {μ' : gMem} (h : f_X10_firstFull i1 μ = some (r, μ')) : CT2 κ N 7 yX10_firstFull iX10_firstFull [.ref (κ 0 + 0), .int i1] μ (qI r μ') := by
  refine CT2.of (by decide) rfl rfl (Nat.le_of_ble_eq_true rfl) ?_
  unfold f_X10_firstFull at h
  show RR κ N 7 iX10_firstFull 0 [(0, .ref (κ 0 + 0)), (1, .int i1)] [] μ _
  refine g_aload_n (pc := 0) dX10_firstFull_0 rfl rfl ?_
  refine gf_X10_57 (pc := 1) rfl dX10_firstFull_1 (Nat.lt_of_lt_of_le (by decide) hN) kd_0 ?_
  refine g_aload_n (pc := 4) dX10_firstFull_4 rfl rfl ?_
  refine gf_X10_33 (pc := 5) rfl dX10_firstFull_5 (Nat.lt_of_lt_of_le (by decide) hN) kd_0 ?_
  refine g_bipush (pc := 8) (v := (99 : Int32)) dX10_firstFull_8 rfl ?_
  obtain ⟨m2, hp1, h⟩ := Option.bind_eq_some_iff.mp h
  refine r_callV (ci := 2) (pc := 10) (c_X2_takeAll hN 16 (99 : Int32) kd_16 μ hp1) yV_X2_takeAll ⟨rfl, by decide⟩ pX2_takeAll mL_X10_221 dX10_firstFull_10 (Nat.le_of_ble_eq_true rfl) (Nat.le_of_ble_eq_true rfl) (Nat.lt_of_lt_of_le (by decide) hN) kd_97 rfl (rK_v ?_)
  refine g_aload_n (pc := 13) dX10_firstFull_13 rfl rfl ?_
  refine gf_X10_57 (pc := 14) rfl dX10_firstFull_14 (Nat.lt_of_lt_of_le (by decide) hN) kd_0 ?_
  refine g_aload_n (pc := 17) dX10_firstFull_17 rfl rfl ?_
  refine gf_X10_33 (pc := 18) rfl dX10_firstFull_18 (Nat.lt_of_lt_of_le (by decide) hN) kd_0 ?_
  refine gf_X10_211 (pc := 21) rfl dX10_firstFull_21 (Nat.lt_of_lt_of_le (by decide) hN) kd_16 ?_
  refine g_iload_n (pc := 24) dX10_firstFull_24 rfl rfl ?_
  refine g_bipush (pc := 25) (v := (99 : Int32)) dX10_firstFull_25 rfl ?_
  obtain ⟨m4, hp3, h⟩ := Option.bind_eq_some_iff.mp h
  refine r_callV (ci := 2) (pc := 27) (c_X2_run hN (m2 16 1) i1 (99 : Int32) m2 hp3) yV_X2_run ⟨rfl, by decide⟩ pX2_run mL_X10_225 dX10_firstFull_27 (Nat.le_of_ble_eq_true rfl) (Nat.le_of_ble_eq_true rfl) (Nat.lt_of_lt_of_le (by decide) hN) kd_97 rfl (rK_v ?_)
  refine g_aload_n (pc := 30) dX10_firstFull_30 rfl rfl ?_
  refine gf_X10_57 (pc := 31) rfl dX10_firstFull_31 (Nat.lt_of_lt_of_le (by decide) hN) kd_0 ?_
  refine gf_X10_253 (pc := 34) rfl dX10_firstFull_34 (Nat.lt_of_lt_of_le (by decide) hN) kd_97 ?_
  cases h
  exact r_iret dX10_firstFull_37 rfl rfl rfl

def f_X10_full  (μ : gMem) : Option (Int32 × gMem) :=
  (f_X10_firstFull (μ 16 2) μ).bind (fun p2 =>
  some (p2.1, p2.2))
set_option maxRecDepth 100000 in
set_option maxHeartbeats 4000000 in
theorem c_X10_full {κ : Nat → Nat} {N : Nat} (hN : 140 ≤ N)   (μ : gMem) {r : Int32} {μ' : gMem} (h : f_X10_full  μ = some (r, μ')) : CT2 κ N 8 yX10_full iX10_full [.ref (κ 0 + 0)] μ (qI r μ') := by
  refine CT2.of (by decide) rfl rfl (Nat.le_of_ble_eq_true rfl) ?_
  unfold f_X10_full at h
  show RR κ N 8 iX10_full 0 [(0, .ref (κ 0 + 0))] [] μ _
  refine g_aload_n (pc := 0) dX10_full_0 rfl rfl ?_
  refine g_aload_n (pc := 1) dX10_full_1 rfl rfl ?_
  refine gf_X10_33 (pc := 2) rfl dX10_full_2 (Nat.lt_of_lt_of_le (by decide) hN) kd_0 ?_
  refine gf_X10_198 (pc := 5) rfl dX10_full_5 (Nat.lt_of_lt_of_le (by decide) hN) kd_16 ?_
  obtain ⟨p2, hp1, h⟩ := Option.bind_eq_some_iff.mp h
  refine r_callV (ci := 9) (pc := 8) (c_X10_firstFull hN (μ 16 2) μ hp1) yV_X10_firstFull ⟨rfl, by decide⟩ pX10_firstFull mL_X10_235 dX10_full_8 (Nat.le_of_ble_eq_true rfl) (Nat.le_of_ble_eq_true rfl) (Nat.lt_of_lt_of_le (by decide) hN) kd_0 rfl (rK_i ?_)
  cases h
  exact r_iret dX10_full_11 rfl rfl rfl

def f_X10_pitch (i1 : Int32) (μ : gMem) : Option (Int32 × gMem) :=
  (f_X10_isOutside i1 (0 : Int32) (9 : Int32) μ).bind (fun p2 =>
  if p2.1 = 0 then
  ((f_X10_firstFull (if (0 : Int32) < ((p2.2 16 2) - i1) then ((p2.2 16 2) - i1) else (0 : Int32)) p2.2).bind (fun p6 =>
  some (p6.1, p6.2)))
else
  (some ((-3 : Int32), p2.2)))
set_option maxRecDepth 100000 in
set_option maxHeartbeats 4000000 in
theorem c_X10_pitch {κ : Nat → Nat} {N : Nat} (hN : 140 ≤ N) (i1 : Int32)  (μ : gMem) {r : Int32} {μ' : gMem} (h : f_X10_pitch i1 μ = some (r, μ')) : CT2 κ N 8 yX10_pitch iX10_pitch [.ref (κ 0 + 0), .int i1] μ (qI r μ') := by
  refine CT2.of (by decide) rfl rfl (Nat.le_of_ble_eq_true rfl) ?_
  unfold f_X10_pitch at h
  show RR κ N 8 iX10_pitch 0 [(0, .ref (κ 0 + 0)), (1, .int i1)] [] μ _
  refine g_iload_n (pc := 0) dX10_pitch_0 rfl rfl ?_
  refine g_iconst (pc := 1) (v := (0 : Int32)) dX10_pitch_1 rfl ?_
  refine g_bipush (pc := 2) (v := (9 : Int32)) dX10_pitch_2 rfl ?_
  obtain ⟨p2, hp1, h⟩ := Option.bind_eq_some_iff.mp h
  refine r_callS (pc := 4) (c_X10_isOutside hN i1 (0 : Int32) (9 : Int32) μ hp1) yS_X10_isOutside pX10_isOutside mL_X10_83 dX10_pitch_4 (Nat.le_of_ble_eq_true rfl) (Nat.le_of_ble_eq_true rfl) rfl (rK_z (fun hz3 => ?_))
  refine g_if_eq (pc := 7) 13 dX10_pitch_7 (by decide) (fun hc4 => ?_) (fun hc4 => ?_)
  · rw [if_pos hc4] at h
    refine g_aload_n (pc := 13) dX10_pitch_13 rfl rfl ?_
    refine g_iconst (pc := 14) (v := (0 : Int32)) dX10_pitch_14 rfl ?_
    refine g_aload_n (pc := 15) dX10_pitch_15 rfl rfl ?_
    refine gf_X10_33 (pc := 16) rfl dX10_pitch_16 (Nat.lt_of_lt_of_le (by decide) hN) kd_0 ?_
    refine gf_X10_198 (pc := 19) rfl dX10_pitch_19 (Nat.lt_of_lt_of_le (by decide) hN) kd_16 ?_
    refine g_iload_n (pc := 22) dX10_pitch_22 rfl rfl ?_
    refine g_isub (pc := 23) dX10_pitch_23 ?_
    refine g_mmax (pc := 24) dX10_pitch_24 mL_X10_199 mMax (Nat.le_of_ble_eq_true rfl) (by decide) ?_
    obtain ⟨p6, hp5, h⟩ := Option.bind_eq_some_iff.mp h
    refine r_callV (ci := 9) (pc := 27) (c_X10_firstFull hN (if (0 : Int32) < ((p2.2 16 2) - i1) then ((p2.2 16 2) - i1) else (0 : Int32)) p2.2 hp5) yV_X10_firstFull ⟨rfl, by decide⟩ pX10_firstFull mL_X10_235 dX10_pitch_27 (Nat.le_of_ble_eq_true rfl) (Nat.le_of_ble_eq_true rfl) (Nat.lt_of_lt_of_le (by decide) hN) kd_0 rfl (rK_i ?_)
    cases h
    exact r_iret dX10_pitch_30 rfl rfl rfl
  · rw [if_neg hc4] at h
    refine g_bipush (pc := 10) (v := (-3 : Int32)) dX10_pitch_10 rfl ?_
    cases h
    exact r_iret dX10_pitch_12 rfl rfl rfl

def f_X11_mossOf (i1 : Int32) (μ : gMem) : Option (Int32 × gMem) :=
  if inb ((25 : Int32) + i1) 35 = true then
  lt ((μ 142 ((25 : Int32) + i1).toNatClampNeg) - (μ 142 (30 : Int32).toNatClampNeg)) (fun x2 =>
  lt (if 0 ≤ x2 then x2 else (0 : Int32)) (fun x4 =>
  some (x4, μ))) else none
set_option maxRecDepth 100000 in
set_option maxHeartbeats 4000000 in
theorem c_X11_mossOf {κ : Nat → Nat} {N : Nat} (hN : 151 ≤ N) (i1 : Int32)  (μ : gMem) {r : Int32} {μ' : gMem} (h : f_X11_mossOf i1 μ = some (r, μ')) : CT2 κ N 1 yX11_mossOf iX11_mossOf [.ref (κ 0 + 140), .int i1] μ (qI r μ') := by
  refine CT2.of (by decide) rfl rfl (Nat.le_of_ble_eq_true rfl) ?_
  unfold f_X11_mossOf at h
  show RR κ N 1 iX11_mossOf 0 [(0, .ref (κ 0 + 140)), (1, .int i1)] [] μ _
  refine g_aload_n (pc := 0) dX11_mossOf_0 rfl rfl ?_
  refine gf_X11_13 (pc := 1) rfl dX11_mossOf_1 (Nat.lt_of_lt_of_le (by decide) hN) kd_140 ?_
  refine g_bipush (pc := 4) (v := (25 : Int32)) dX11_mossOf_4 rfl ?_
  refine g_iload_n (pc := 6) dX11_mossOf_6 rfl rfl ?_
  refine g_iadd (pc := 7) dX11_mossOf_7 ?_
  obtain ⟨hg1, h⟩ := gd_some h
  refine r_iald (pc := 8) 35 dX11_mossOf_8 (Nat.lt_of_lt_of_le (by decide) hN) kd_142 ln_142 hg1 ?_
  refine g_aload_n (pc := 9) dX11_mossOf_9 rfl rfl ?_
  refine gf_X11_13 (pc := 10) rfl dX11_mossOf_10 (Nat.lt_of_lt_of_le (by decide) hN) kd_140 ?_
  refine g_bipush (pc := 13) (v := (30 : Int32)) dX11_mossOf_13 rfl ?_
  refine r_iald (pc := 15) 35 dX11_mossOf_15 (Nat.lt_of_lt_of_le (by decide) hN) kd_142 ln_142 (by decide) ?_
  refine g_isub (pc := 16) dX11_mossOf_16 ?_
  refine g_istore_n (pc := 17) (lv' := fun y => [(0, .ref (κ 0 + 140)), (1, .int i1), (2, .int y)]) dX11_mossOf_17 rfl (Nat.le_of_ble_eq_true rfl) (fun _ => rfl) (fun x2 e3 => ?_)
  rw [lt_of e3] at h
  refine g_iload_n (pc := 18) dX11_mossOf_18 rfl rfl ?_
  have key6 : ∀ x4 : Int32, x4 = (if 0 ≤ x2 then x2 else (0 : Int32)) → RR κ N 1 iX11_mossOf 27 [(0, .ref (κ 0 + 140)), (1, .int i1), (2, .int x2)] [.int x4] μ (qI r μ') := by
    intro x4 e5
    rw [lt_of e5] at h
    cases h
    exact r_iret dX11_mossOf_27 rfl rfl rfl
  refine g_if_ge (pc := 19) 26 dX11_mossOf_19 (by decide) (fun hc7 => ?_) (fun hc7 => ?_)
  · refine g_iload_n (pc := 26) dX11_mossOf_26 rfl rfl ?_
    exact key6 _ (by rw [if_pos hc7])
  · refine g_iconst (pc := 22) (v := (0 : Int32)) dX11_mossOf_22 rfl ?_
    refine g_goto (pc := 23) 27 dX11_mossOf_23 (by decide) ?_
    exact key6 _ (by rw [if_neg hc7])

def f_X11_sister (i1 : Int32) (i2 : Int32) (μ : gMem) : Option (Int32 × gMem) :=
  (f_X11_isSister i1 μ).bind (fun p2 =>
  if p2.1 = 0 then
  (some ((-2 : Int32), p2.2))
else
  (if i2 = (0 : Int32) then
  ((f_X11_of i1 i2 p2.2).bind (fun p30 =>
  some (p30.1, p30.2)))
else
  (if i2 = (1 : Int32) then
  ((f_X11_of i1 i2 p2.2).bind (fun p28 =>
  some (p28.1, p28.2)))
else
  (if i2 = (2 : Int32) then
  ((f_X11_of i1 i2 p2.2).bind (fun p26 =>
  some (p26.1, p26.2)))
else
  (if i2 = (3 : Int32) then
  ((f_X11_of i1 i2 p2.2).bind (fun p24 =>
  some (p24.1, p24.2)))
else
  (if i2 = (4 : Int32) then
  ((f_X11_of i1 i2 p2.2).bind (fun p22 =>
  some (p22.1, p22.2)))
else
  (if i2 = (5 : Int32) then
  (if inb ((0 : Int32) + i1) 35 = true then
  some ((p2.2 142 ((0 : Int32) + i1).toNatClampNeg), p2.2) else none)
else
  (if i2 = (6 : Int32) then
  (if inb ((5 : Int32) + i1) 35 = true then
  some ((p2.2 142 ((5 : Int32) + i1).toNatClampNeg), p2.2) else none)
else
  (if i2 = (7 : Int32) then
  (if inb ((15 : Int32) + i1) 35 = true then
  some ((p2.2 142 ((15 : Int32) + i1).toNatClampNeg), p2.2) else none)
else
  (if i2 = (8 : Int32) then
  (if inb ((20 : Int32) + i1) 35 = true then
  some ((p2.2 142 ((20 : Int32) + i1).toNatClampNeg), p2.2) else none)
else
  (if i2 = (9 : Int32) then
  ((f_X11_mossOf i1 p2.2).bind (fun p16 =>
  some (p16.1, p16.2)))
else
  (some ((-3 : Int32), p2.2)))))))))))))
set_option maxRecDepth 100000 in
set_option maxHeartbeats 4000000 in
theorem c_X11_sister {κ : Nat → Nat} {N : Nat} (hN : 151 ≤ N) (i1 : Int32) (i2 : Int32)  (μ : gMem) {r : Int32} {μ' : gMem} (h : f_X11_sister i1 i2 μ = some (r, μ')) : CT2 κ N 3 yX11_sister iX11_sister [.ref (κ 0 + 140), .int i1, .int i2] μ (qI r μ') := by
  refine CT2.of (by decide) rfl rfl (Nat.le_of_ble_eq_true rfl) ?_
  unfold f_X11_sister at h
  show RR κ N 3 iX11_sister 0 [(0, .ref (κ 0 + 140)), (1, .int i1), (2, .int i2)] [] μ _
  refine g_aload_n (pc := 0) dX11_sister_0 rfl rfl ?_
  refine g_iload_n (pc := 1) dX11_sister_1 rfl rfl ?_
  obtain ⟨p2, hp1, h⟩ := Option.bind_eq_some_iff.mp h
  refine r_callV (ci := 10) (pc := 2) (c_X11_isSister hN i1 μ hp1) yV_X11_isSister ⟨rfl, by decide⟩ pX11_isSister mL_X11_139 dX11_sister_2 (Nat.le_of_ble_eq_true rfl) (Nat.le_of_ble_eq_true rfl) (Nat.lt_of_lt_of_le (by decide) hN) kd_140 rfl (rK_z (fun hz3 => ?_))
  refine g_if_ne (pc := 5) 11 dX11_sister_5 (by decide) (fun hc4 => ?_) (fun hc4 => ?_)
  · rw [if_neg hc4] at h
    refine g_iload_n (pc := 11) dX11_sister_11 rfl rfl ?_
    by_cases hc5 : i2 = (0 : Int32)
    · rw [if_pos hc5] at h
      refine g_tableIn (pc := 12) 68 dX11_sister_12 (by rw [hc5]; decide) (by rw [hc5]; decide) (by rw [hc5]; rfl) (by decide) ?_
      refine g_aload_n (pc := 68) dX11_sister_68 rfl rfl ?_
      refine g_iload_n (pc := 69) dX11_sister_69 rfl rfl ?_
      refine g_iload_n (pc := 70) dX11_sister_70 rfl rfl ?_
      obtain ⟨p30, hp29, h⟩ := Option.bind_eq_some_iff.mp h
      refine r_callV (ci := 10) (pc := 71) (c_X11_of hN i1 i2 p2.2 hp29) yV_X11_of ⟨rfl, by decide⟩ pX11_of mL_X11_133 dX11_sister_71 (Nat.le_of_ble_eq_true rfl) (Nat.le_of_ble_eq_true rfl) (Nat.lt_of_lt_of_le (by decide) hN) kd_140 rfl (rK_i ?_)
      cases h
      exact r_iret dX11_sister_74 rfl rfl rfl
    · rw [if_neg hc5] at h
      by_cases hc6 : i2 = (1 : Int32)
      · rw [if_pos hc6] at h
        refine g_tableIn (pc := 12) 68 dX11_sister_12 (by rw [hc6]; decide) (by rw [hc6]; decide) (by rw [hc6]; rfl) (by decide) ?_
        refine g_aload_n (pc := 68) dX11_sister_68 rfl rfl ?_
        refine g_iload_n (pc := 69) dX11_sister_69 rfl rfl ?_
        refine g_iload_n (pc := 70) dX11_sister_70 rfl rfl ?_
        obtain ⟨p28, hp27, h⟩ := Option.bind_eq_some_iff.mp h
        refine r_callV (ci := 10) (pc := 71) (c_X11_of hN i1 i2 p2.2 hp27) yV_X11_of ⟨rfl, by decide⟩ pX11_of mL_X11_133 dX11_sister_71 (Nat.le_of_ble_eq_true rfl) (Nat.le_of_ble_eq_true rfl) (Nat.lt_of_lt_of_le (by decide) hN) kd_140 rfl (rK_i ?_)
        cases h
        exact r_iret dX11_sister_74 rfl rfl rfl
      · rw [if_neg hc6] at h
        by_cases hc7 : i2 = (2 : Int32)
        · rw [if_pos hc7] at h
          refine g_tableIn (pc := 12) 68 dX11_sister_12 (by rw [hc7]; decide) (by rw [hc7]; decide) (by rw [hc7]; rfl) (by decide) ?_
          refine g_aload_n (pc := 68) dX11_sister_68 rfl rfl ?_
          refine g_iload_n (pc := 69) dX11_sister_69 rfl rfl ?_
          refine g_iload_n (pc := 70) dX11_sister_70 rfl rfl ?_
          obtain ⟨p26, hp25, h⟩ := Option.bind_eq_some_iff.mp h
          refine r_callV (ci := 10) (pc := 71) (c_X11_of hN i1 i2 p2.2 hp25) yV_X11_of ⟨rfl, by decide⟩ pX11_of mL_X11_133 dX11_sister_71 (Nat.le_of_ble_eq_true rfl) (Nat.le_of_ble_eq_true rfl) (Nat.lt_of_lt_of_le (by decide) hN) kd_140 rfl (rK_i ?_)
          cases h
          exact r_iret dX11_sister_74 rfl rfl rfl
        · rw [if_neg hc7] at h
          by_cases hc8 : i2 = (3 : Int32)
          · rw [if_pos hc8] at h
            refine g_tableIn (pc := 12) 68 dX11_sister_12 (by rw [hc8]; decide) (by rw [hc8]; decide) (by rw [hc8]; rfl) (by decide) ?_
            refine g_aload_n (pc := 68) dX11_sister_68 rfl rfl ?_
            refine g_iload_n (pc := 69) dX11_sister_69 rfl rfl ?_
            refine g_iload_n (pc := 70) dX11_sister_70 rfl rfl ?_
            obtain ⟨p24, hp23, h⟩ := Option.bind_eq_some_iff.mp h
            refine r_callV (ci := 10) (pc := 71) (c_X11_of hN i1 i2 p2.2 hp23) yV_X11_of ⟨rfl, by decide⟩ pX11_of mL_X11_133 dX11_sister_71 (Nat.le_of_ble_eq_true rfl) (Nat.le_of_ble_eq_true rfl) (Nat.lt_of_lt_of_le (by decide) hN) kd_140 rfl (rK_i ?_)
            cases h
            exact r_iret dX11_sister_74 rfl rfl rfl
          · rw [if_neg hc8] at h
            by_cases hc9 : i2 = (4 : Int32)
            · rw [if_pos hc9] at h
              refine g_tableIn (pc := 12) 68 dX11_sister_12 (by rw [hc9]; decide) (by rw [hc9]; decide) (by rw [hc9]; rfl) (by decide) ?_
              refine g_aload_n (pc := 68) dX11_sister_68 rfl rfl ?_
              refine g_iload_n (pc := 69) dX11_sister_69 rfl rfl ?_
              refine g_iload_n (pc := 70) dX11_sister_70 rfl rfl ?_
              obtain ⟨p22, hp21, h⟩ := Option.bind_eq_some_iff.mp h
              refine r_callV (ci := 10) (pc := 71) (c_X11_of hN i1 i2 p2.2 hp21) yV_X11_of ⟨rfl, by decide⟩ pX11_of mL_X11_133 dX11_sister_71 (Nat.le_of_ble_eq_true rfl) (Nat.le_of_ble_eq_true rfl) (Nat.lt_of_lt_of_le (by decide) hN) kd_140 rfl (rK_i ?_)
              cases h
              exact r_iret dX11_sister_74 rfl rfl rfl
            · rw [if_neg hc9] at h
              by_cases hc10 : i2 = (5 : Int32)
              · rw [if_pos hc10] at h
                refine g_tableIn (pc := 12) 75 dX11_sister_12 (by rw [hc10]; decide) (by rw [hc10]; decide) (by rw [hc10]; rfl) (by decide) ?_
                refine g_aload_n (pc := 75) dX11_sister_75 rfl rfl ?_
                refine gf_X11_13 (pc := 76) rfl dX11_sister_76 (Nat.lt_of_lt_of_le (by decide) hN) kd_140 ?_
                refine g_iconst (pc := 79) (v := (0 : Int32)) dX11_sister_79 rfl ?_
                refine g_iload_n (pc := 80) dX11_sister_80 rfl rfl ?_
                refine g_iadd (pc := 81) dX11_sister_81 ?_
                obtain ⟨hg20, h⟩ := gd_some h
                refine r_iald (pc := 82) 35 dX11_sister_82 (Nat.lt_of_lt_of_le (by decide) hN) kd_142 ln_142 hg20 ?_
                cases h
                exact r_iret dX11_sister_83 rfl rfl rfl
              · rw [if_neg hc10] at h
                by_cases hc11 : i2 = (6 : Int32)
                · rw [if_pos hc11] at h
                  refine g_tableIn (pc := 12) 84 dX11_sister_12 (by rw [hc11]; decide) (by rw [hc11]; decide) (by rw [hc11]; rfl) (by decide) ?_
                  refine g_aload_n (pc := 84) dX11_sister_84 rfl rfl ?_
                  refine gf_X11_13 (pc := 85) rfl dX11_sister_85 (Nat.lt_of_lt_of_le (by decide) hN) kd_140 ?_
                  refine g_iconst (pc := 88) (v := (5 : Int32)) dX11_sister_88 rfl ?_
                  refine g_iload_n (pc := 89) dX11_sister_89 rfl rfl ?_
                  refine g_iadd (pc := 90) dX11_sister_90 ?_
                  obtain ⟨hg19, h⟩ := gd_some h
                  refine r_iald (pc := 91) 35 dX11_sister_91 (Nat.lt_of_lt_of_le (by decide) hN) kd_142 ln_142 hg19 ?_
                  cases h
                  exact r_iret dX11_sister_92 rfl rfl rfl
                · rw [if_neg hc11] at h
                  by_cases hc12 : i2 = (7 : Int32)
                  · rw [if_pos hc12] at h
                    refine g_tableIn (pc := 12) 93 dX11_sister_12 (by rw [hc12]; decide) (by rw [hc12]; decide) (by rw [hc12]; rfl) (by decide) ?_
                    refine g_aload_n (pc := 93) dX11_sister_93 rfl rfl ?_
                    refine gf_X11_13 (pc := 94) rfl dX11_sister_94 (Nat.lt_of_lt_of_le (by decide) hN) kd_140 ?_
                    refine g_bipush (pc := 97) (v := (15 : Int32)) dX11_sister_97 rfl ?_
                    refine g_iload_n (pc := 99) dX11_sister_99 rfl rfl ?_
                    refine g_iadd (pc := 100) dX11_sister_100 ?_
                    obtain ⟨hg18, h⟩ := gd_some h
                    refine r_iald (pc := 101) 35 dX11_sister_101 (Nat.lt_of_lt_of_le (by decide) hN) kd_142 ln_142 hg18 ?_
                    cases h
                    exact r_iret dX11_sister_102 rfl rfl rfl
                  · rw [if_neg hc12] at h
                    by_cases hc13 : i2 = (8 : Int32)
                    · rw [if_pos hc13] at h
                      refine g_tableIn (pc := 12) 103 dX11_sister_12 (by rw [hc13]; decide) (by rw [hc13]; decide) (by rw [hc13]; rfl) (by decide) ?_
                      refine g_aload_n (pc := 103) dX11_sister_103 rfl rfl ?_
                      refine gf_X11_13 (pc := 104) rfl dX11_sister_104 (Nat.lt_of_lt_of_le (by decide) hN) kd_140 ?_
                      refine g_bipush (pc := 107) (v := (20 : Int32)) dX11_sister_107 rfl ?_
                      refine g_iload_n (pc := 109) dX11_sister_109 rfl rfl ?_
                      refine g_iadd (pc := 110) dX11_sister_110 ?_
                      obtain ⟨hg17, h⟩ := gd_some h
                      refine r_iald (pc := 111) 35 dX11_sister_111 (Nat.lt_of_lt_of_le (by decide) hN) kd_142 ln_142 hg17 ?_
                      cases h
                      exact r_iret dX11_sister_112 rfl rfl rfl
                    · rw [if_neg hc13] at h
                      by_cases hc14 : i2 = (9 : Int32)
                      · rw [if_pos hc14] at h
                        refine g_tableIn (pc := 12) 113 dX11_sister_12 (by rw [hc14]; decide) (by rw [hc14]; decide) (by rw [hc14]; rfl) (by decide) ?_
                        refine g_aload_n (pc := 113) dX11_sister_113 rfl rfl ?_
                        refine g_iload_n (pc := 114) dX11_sister_114 rfl rfl ?_
                        obtain ⟨p16, hp15, h⟩ := Option.bind_eq_some_iff.mp h
                        refine r_callV (ci := 10) (pc := 115) (c_X11_mossOf hN i1 p2.2 hp15) yV_X11_mossOf ⟨rfl, by decide⟩ pX11_mossOf mL_X11_142 dX11_sister_115 (Nat.le_of_ble_eq_true rfl) (Nat.le_of_ble_eq_true rfl) (Nat.lt_of_lt_of_le (by decide) hN) kd_140 rfl (rK_i ?_)
                        cases h
                        exact r_iret dX11_sister_118 rfl rfl rfl
                      · rw [if_neg hc14] at h
                        refine g_tableOut (pc := 12) 119 dX11_sister_12 (by have q0 := lv_neT hc5 (a := 0) (by decide); have q1 := lv_neT hc6 (a := 1) (by decide); have q2 := lv_neT hc7 (a := 2) (by decide); have q3 := lv_neT hc8 (a := 3) (by decide); have q4 := lv_neT hc9 (a := 4) (by decide); have q5 := lv_neT hc10 (a := 5) (by decide); have q6 := lv_neT hc11 (a := 6) (by decide); have q7 := lv_neT hc12 (a := 7) (by decide); have q8 := lv_neT hc13 (a := 8) (by decide); have q9 := lv_neT hc14 (a := 9) (by decide); omega) (by decide) ?_
                        refine g_bipush (pc := 119) (v := (-3 : Int32)) dX11_sister_119 rfl ?_
                        cases h
                        exact r_iret dX11_sister_121 rfl rfl rfl
  · rw [if_pos hc4] at h
    refine g_bipush (pc := 8) (v := (-2 : Int32)) dX11_sister_8 rfl ?_
    cases h
    exact r_iret dX11_sister_10 rfl rfl rfl

def f_X11_as (i1 : Int32) (i2 : Int32) (μ : gMem) : Option (Int32 × gMem) :=
  (f_X11_isSister i1 μ).bind (fun p2 =>
  if p2.1 = 0 then
  (some ((-2 : Int32), p2.2))
else
  ((f_X11_in i2.toInt64 (0 : Int64) (3 : Int64) p2.2).bind (fun p6 =>
  if p6.1 = 0 then
  (some ((-3 : Int32), p6.2))
else
  (if i2 < (2 : Int32) then
  ((f_X11_walkOf i1 p6.2).bind (fun p11 =>
  some (p11.1, p11.2)))
else
  ((f_X11_of i1 (0 : Int32) p6.2).bind (fun p13 =>
  if p13.1 = (i2 - (1 : Int32)) then
  ((f_X11_walkOf i1 p13.2).bind (fun p16 =>
  some (p16.1, p16.2)))
else
  (some ((-4 : Int32), p13.2))))))))
set_option maxRecDepth 100000 in
set_option maxHeartbeats 4000000 in
theorem c_X11_as {κ : Nat → Nat} {N : Nat} (hN : 151 ≤ N) (i1 : Int32) (i2 : Int32)  (μ : gMem) {r : Int32} {μ' : gMem} (h : f_X11_as i1 i2 μ = some (r, μ')) : CT2 κ N 3 yX11_as iX11_as [.ref (κ 0 + 140), .int i1, .int i2] μ (qI r μ') := by
  refine CT2.of (by decide) rfl rfl (Nat.le_of_ble_eq_true rfl) ?_
  unfold f_X11_as at h
  show RR κ N 3 iX11_as 0 [(0, .ref (κ 0 + 140)), (1, .int i1), (2, .int i2)] [] μ _
  refine g_aload_n (pc := 0) dX11_as_0 rfl rfl ?_
  refine g_iload_n (pc := 1) dX11_as_1 rfl rfl ?_
  obtain ⟨p2, hp1, h⟩ := Option.bind_eq_some_iff.mp h
  refine r_callV (ci := 10) (pc := 2) (c_X11_isSister hN i1 μ hp1) yV_X11_isSister ⟨rfl, by decide⟩ pX11_isSister mL_X11_139 dX11_as_2 (Nat.le_of_ble_eq_true rfl) (Nat.le_of_ble_eq_true rfl) (Nat.lt_of_lt_of_le (by decide) hN) kd_140 rfl (rK_z (fun hz3 => ?_))
  refine g_if_ne (pc := 5) 11 dX11_as_5 (by decide) (fun hc4 => ?_) (fun hc4 => ?_)
  · rw [if_neg hc4] at h
    refine g_iload_n (pc := 11) dX11_as_11 rfl rfl ?_
    refine g_i2l (pc := 12) dX11_as_12 ?_
    refine g_lconst (pc := 13) (v := (0 : Int64)) dX11_as_13 rfl ?_
    refine g_ldc2 (pc := 14) kL_X11_145 dX11_as_14 ?_
    obtain ⟨p6, hp5, h⟩ := Option.bind_eq_some_iff.mp h
    refine r_callS (pc := 17) (c_X11_in hN i2.toInt64 (0 : Int64) (3 : Int64) p2.2 hp5) yS_X11_in pX11_in mL_X11_49 dX11_as_17 (Nat.le_of_ble_eq_true rfl) (Nat.le_of_ble_eq_true rfl) rfl (rK_z (fun hz7 => ?_))
    refine g_if_ne (pc := 20) 26 dX11_as_20 (by decide) (fun hc8 => ?_) (fun hc8 => ?_)
    · rw [if_neg hc8] at h
      refine g_iload_n (pc := 26) dX11_as_26 rfl rfl ?_
      refine g_iconst (pc := 27) (v := (2 : Int32)) dX11_as_27 rfl ?_
      refine g_icmp_lt (pc := 28) 43 dX11_as_28 (by decide) (fun hc9 => ?_) (fun hc9 => ?_)
      · rw [if_pos hc9] at h
        refine g_aload_n (pc := 43) dX11_as_43 rfl rfl ?_
        refine g_iload_n (pc := 44) dX11_as_44 rfl rfl ?_
        obtain ⟨p11, hp10, h⟩ := Option.bind_eq_some_iff.mp h
        refine r_callV (ci := 10) (pc := 45) (c_X11_walkOf hN i1 p6.2 hp10) yV_X11_walkOf ⟨rfl, by decide⟩ pX11_walkOf mL_X11_147 dX11_as_45 (Nat.le_of_ble_eq_true rfl) (Nat.le_of_ble_eq_true rfl) (Nat.lt_of_lt_of_le (by decide) hN) kd_140 rfl (rK_i ?_)
        refine g_goto (pc := 48) 53 dX11_as_48 (by decide) ?_
        cases h
        exact r_iret dX11_as_53 rfl rfl rfl
      · rw [if_neg hc9] at h
        refine g_aload_n (pc := 31) dX11_as_31 rfl rfl ?_
        refine g_iload_n (pc := 32) dX11_as_32 rfl rfl ?_
        refine g_iconst (pc := 33) (v := (0 : Int32)) dX11_as_33 rfl ?_
        obtain ⟨p13, hp12, h⟩ := Option.bind_eq_some_iff.mp h
        refine r_callV (ci := 10) (pc := 34) (c_X11_of hN i1 (0 : Int32) p6.2 hp12) yV_X11_of ⟨rfl, by decide⟩ pX11_of mL_X11_133 dX11_as_34 (Nat.le_of_ble_eq_true rfl) (Nat.le_of_ble_eq_true rfl) (Nat.lt_of_lt_of_le (by decide) hN) kd_140 rfl (rK_i ?_)
        refine g_iload_n (pc := 37) dX11_as_37 rfl rfl ?_
        refine g_iconst (pc := 38) (v := (1 : Int32)) dX11_as_38 rfl ?_
        refine g_isub (pc := 39) dX11_as_39 ?_
        refine g_icmp_ne (pc := 40) 51 dX11_as_40 (by decide) (fun hc14 => ?_) (fun hc14 => ?_)
        · rw [if_neg hc14] at h
          refine g_bipush (pc := 51) (v := (-4 : Int32)) dX11_as_51 rfl ?_
          cases h
          exact r_iret dX11_as_53 rfl rfl rfl
        · rw [if_pos hc14] at h
          refine g_aload_n (pc := 43) dX11_as_43 rfl rfl ?_
          refine g_iload_n (pc := 44) dX11_as_44 rfl rfl ?_
          obtain ⟨p16, hp15, h⟩ := Option.bind_eq_some_iff.mp h
          refine r_callV (ci := 10) (pc := 45) (c_X11_walkOf hN i1 p13.2 hp15) yV_X11_walkOf ⟨rfl, by decide⟩ pX11_walkOf mL_X11_147 dX11_as_45 (Nat.le_of_ble_eq_true rfl) (Nat.le_of_ble_eq_true rfl) (Nat.lt_of_lt_of_le (by decide) hN) kd_140 rfl (rK_i ?_)
          refine g_goto (pc := 48) 53 dX11_as_48 (by decide) ?_
          cases h
          exact r_iret dX11_as_53 rfl rfl rfl
    · rw [if_pos hc8] at h
      refine g_bipush (pc := 23) (v := (-3 : Int32)) dX11_as_23 rfl ?_
      cases h
      exact r_iret dX11_as_25 rfl rfl rfl
  · rw [if_pos hc4] at h
    refine g_bipush (pc := 8) (v := (-2 : Int32)) dX11_as_8 rfl ?_
    cases h
    exact r_iret dX11_as_10 rfl rfl rfl

def f_X11_sieveAs (i1 : Int32) (i2 : Int32) (μ : gMem) : Option (Int32 × gMem) :=
  (f_X11_isSister i1 μ).bind (fun p2 =>
  if p2.1 = 0 then
  (some ((-2 : Int32), p2.2))
else
  ((f_X11_in i2.toInt64 (0 : Int64) (4 : Int64) p2.2).bind (fun p6 =>
  if p6.1 = 0 then
  (some ((-3 : Int32), p6.2))
else
  ((f_X11_of i1 (3 : Int32) p6.2).bind (fun p10 =>
  lt p10.1 (fun x11 =>
  if i2 = 0 then
  ((f_X11_dripOf i1 p10.2).bind (fun p17 =>
  some (p17.1, p17.2)))
else
  (if i2 = (x11 + (1 : Int32)) then
  ((f_X11_dripOf i1 p10.2).bind (fun p23 =>
  some (p23.1, p23.2)))
else
  (if (3 : Int32) ≤ x11 then
  (some ((-4 : Int32), p10.2))
else
  (lt (if (x11 + (1 : Int32)) < i2 then (0 : Int32) else (1 : Int32)) (fun x29 =>
  if x29 = 0 then
  (some ((-4 : Int32), p10.2))
else
  ((f_X11_dripOf i1 p10.2).bind (fun p36 =>
  some (p36.1, p36.2)))))))))))))
set_option maxRecDepth 100000 in
set_option maxHeartbeats 4000000 in
theorem c_X11_sieveAs {κ : Nat → Nat} {N : Nat} (hN : 151 ≤ N) (i1 : Int32) (i2 : Int32)  (μ : gMem) {r : Int32} {μ' : gMem} (h : f_X11_sieveAs i1 i2 μ = some (r, μ')) : CT2 κ N 3 yX11_sieveAs iX11_sieveAs [.ref (κ 0 + 140), .int i1, .int i2] μ (qI r μ') := by
  refine CT2.of (by decide) rfl rfl (Nat.le_of_ble_eq_true rfl) ?_
  unfold f_X11_sieveAs at h
  show RR κ N 3 iX11_sieveAs 0 [(0, .ref (κ 0 + 140)), (1, .int i1), (2, .int i2)] [] μ _
  refine g_aload_n (pc := 0) dX11_sieveAs_0 rfl rfl ?_
  refine g_iload_n (pc := 1) dX11_sieveAs_1 rfl rfl ?_
  obtain ⟨p2, hp1, h⟩ := Option.bind_eq_some_iff.mp h
  refine r_callV (ci := 10) (pc := 2) (c_X11_isSister hN i1 μ hp1) yV_X11_isSister ⟨rfl, by decide⟩ pX11_isSister mL_X11_139 dX11_sieveAs_2 (Nat.le_of_ble_eq_true rfl) (Nat.le_of_ble_eq_true rfl) (Nat.lt_of_lt_of_le (by decide) hN) kd_140 rfl (rK_z (fun hz3 => ?_))
  refine g_if_ne (pc := 5) 11 dX11_sieveAs_5 (by decide) (fun hc4 => ?_) (fun hc4 => ?_)
  · rw [if_neg hc4] at h
    refine g_iload_n (pc := 11) dX11_sieveAs_11 rfl rfl ?_
    refine g_i2l (pc := 12) dX11_sieveAs_12 ?_
    refine g_lconst (pc := 13) (v := (0 : Int64)) dX11_sieveAs_13 rfl ?_
    refine g_ldc2 (pc := 14) kL_X11_150 dX11_sieveAs_14 ?_
    obtain ⟨p6, hp5, h⟩ := Option.bind_eq_some_iff.mp h
    refine r_callS (pc := 17) (c_X11_in hN i2.toInt64 (0 : Int64) (4 : Int64) p2.2 hp5) yS_X11_in pX11_in mL_X11_49 dX11_sieveAs_17 (Nat.le_of_ble_eq_true rfl) (Nat.le_of_ble_eq_true rfl) rfl (rK_z (fun hz7 => ?_))
    refine g_if_ne (pc := 20) 26 dX11_sieveAs_20 (by decide) (fun hc8 => ?_) (fun hc8 => ?_)
    · rw [if_neg hc8] at h
      refine g_aload_n (pc := 26) dX11_sieveAs_26 rfl rfl ?_
      refine g_iload_n (pc := 27) dX11_sieveAs_27 rfl rfl ?_
      refine g_iconst (pc := 28) (v := (3 : Int32)) dX11_sieveAs_28 rfl ?_
      obtain ⟨p10, hp9, h⟩ := Option.bind_eq_some_iff.mp h
      refine r_callV (ci := 10) (pc := 29) (c_X11_of hN i1 (3 : Int32) p6.2 hp9) yV_X11_of ⟨rfl, by decide⟩ pX11_of mL_X11_133 dX11_sieveAs_29 (Nat.le_of_ble_eq_true rfl) (Nat.le_of_ble_eq_true rfl) (Nat.lt_of_lt_of_le (by decide) hN) kd_140 rfl (rK_i ?_)
      refine g_istore_n (pc := 32) (lv' := fun y => [(0, .ref (κ 0 + 140)), (1, .int i1), (2, .int i2), (3, .int y)]) dX11_sieveAs_32 rfl (Nat.le_of_ble_eq_true rfl) (fun _ => rfl) (fun x11 e12 => ?_)
      rw [lt_of e12] at h
      refine g_iload_n (pc := 33) dX11_sieveAs_33 rfl rfl ?_
      refine g_if_eq (pc := 34) 56 dX11_sieveAs_34 (by decide) (fun hc13 => ?_) (fun hc13 => ?_)
      · rw [if_pos hc13] at h
        refine g_iconst (pc := 56) (v := (1 : Int32)) dX11_sieveAs_56 rfl ?_
        refine g_goto (pc := 57) 61 dX11_sieveAs_57 (by decide) ?_
        refine g_istore (pc := 61) (lv' := fun y => [(0, .ref (κ 0 + 140)), (1, .int i1), (2, .int i2), (3, .int x11), (4, .int y)]) dX11_sieveAs_61 (Nat.le_of_ble_eq_true rfl) (fun _ => rfl) (fun y14 e15 => ?_)
        rw [e15]
        refine g_iload (pc := 63) dX11_sieveAs_63 rfl ?_
        refine g_if_eq (pc := 65) 76 dX11_sieveAs_65 (by decide) (fun z18 => absurd z18 (by decide)) (fun _ => ?_)
        refine g_aload_n (pc := 68) dX11_sieveAs_68 rfl rfl ?_
        refine g_iload_n (pc := 69) dX11_sieveAs_69 rfl rfl ?_
        obtain ⟨p17, hp16, h⟩ := Option.bind_eq_some_iff.mp h
        refine r_callV (ci := 10) (pc := 70) (c_X11_dripOf hN i1 p10.2 hp16) yV_X11_dripOf ⟨rfl, by decide⟩ pX11_dripOf mL_X11_136 dX11_sieveAs_70 (Nat.le_of_ble_eq_true rfl) (Nat.le_of_ble_eq_true rfl) (Nat.lt_of_lt_of_le (by decide) hN) kd_140 rfl (rK_i ?_)
        refine g_goto (pc := 73) 78 dX11_sieveAs_73 (by decide) ?_
        cases h
        exact r_iret dX11_sieveAs_78 rfl rfl rfl
      · rw [if_neg hc13] at h
        refine g_iload_n (pc := 37) dX11_sieveAs_37 rfl rfl ?_
        refine g_iload_n (pc := 38) dX11_sieveAs_38 rfl rfl ?_
        refine g_iconst (pc := 39) (v := (1 : Int32)) dX11_sieveAs_39 rfl ?_
        refine g_iadd (pc := 40) dX11_sieveAs_40 ?_
        refine g_icmp_eq (pc := 41) 56 dX11_sieveAs_41 (by decide) (fun hc19 => ?_) (fun hc19 => ?_)
        · rw [if_pos hc19] at h
          refine g_iconst (pc := 56) (v := (1 : Int32)) dX11_sieveAs_56 rfl ?_
          refine g_goto (pc := 57) 61 dX11_sieveAs_57 (by decide) ?_
          refine g_istore (pc := 61) (lv' := fun y => [(0, .ref (κ 0 + 140)), (1, .int i1), (2, .int i2), (3, .int x11), (4, .int y)]) dX11_sieveAs_61 (Nat.le_of_ble_eq_true rfl) (fun _ => rfl) (fun y20 e21 => ?_)
          rw [e21]
          refine g_iload (pc := 63) dX11_sieveAs_63 rfl ?_
          refine g_if_eq (pc := 65) 76 dX11_sieveAs_65 (by decide) (fun z24 => absurd z24 (by decide)) (fun _ => ?_)
          refine g_aload_n (pc := 68) dX11_sieveAs_68 rfl rfl ?_
          refine g_iload_n (pc := 69) dX11_sieveAs_69 rfl rfl ?_
          obtain ⟨p23, hp22, h⟩ := Option.bind_eq_some_iff.mp h
          refine r_callV (ci := 10) (pc := 70) (c_X11_dripOf hN i1 p10.2 hp22) yV_X11_dripOf ⟨rfl, by decide⟩ pX11_dripOf mL_X11_136 dX11_sieveAs_70 (Nat.le_of_ble_eq_true rfl) (Nat.le_of_ble_eq_true rfl) (Nat.lt_of_lt_of_le (by decide) hN) kd_140 rfl (rK_i ?_)
          refine g_goto (pc := 73) 78 dX11_sieveAs_73 (by decide) ?_
          cases h
          exact r_iret dX11_sieveAs_78 rfl rfl rfl
        · rw [if_neg hc19] at h
          refine g_iload_n (pc := 44) dX11_sieveAs_44 rfl rfl ?_
          refine g_iconst (pc := 45) (v := (3 : Int32)) dX11_sieveAs_45 rfl ?_
          refine g_icmp_ge (pc := 46) 60 dX11_sieveAs_46 (by decide) (fun hc25 => ?_) (fun hc25 => ?_)
          · rw [if_pos hc25] at h
            refine g_iconst (pc := 60) (v := (0 : Int32)) dX11_sieveAs_60 rfl ?_
            refine g_istore (pc := 61) (lv' := fun y => [(0, .ref (κ 0 + 140)), (1, .int i1), (2, .int i2), (3, .int x11), (4, .int y)]) dX11_sieveAs_61 (Nat.le_of_ble_eq_true rfl) (fun _ => rfl) (fun y26 e27 => ?_)
            rw [e27]
            refine g_iload (pc := 63) dX11_sieveAs_63 rfl ?_
            refine g_if_eq (pc := 65) 76 dX11_sieveAs_65 (by decide) (fun _ => ?_) (fun z28 => absurd z28 (by decide))
            refine g_bipush (pc := 76) (v := (-4 : Int32)) dX11_sieveAs_76 rfl ?_
            cases h
            exact r_iret dX11_sieveAs_78 rfl rfl rfl
          · rw [if_neg hc25] at h
            refine g_iload_n (pc := 49) dX11_sieveAs_49 rfl rfl ?_
            refine g_iload_n (pc := 50) dX11_sieveAs_50 rfl rfl ?_
            refine g_iconst (pc := 51) (v := (1 : Int32)) dX11_sieveAs_51 rfl ?_
            refine g_iadd (pc := 52) dX11_sieveAs_52 ?_
            have key31 : ∀ x29 : Int32, x29 = (if (x11 + (1 : Int32)) < i2 then (0 : Int32) else (1 : Int32)) → RR κ N 3 iX11_sieveAs 61 [(0, .ref (κ 0 + 140)), (1, .int i1), (2, .int i2), (3, .int x11)] [.int x29] p10.2 (qI r μ') := by
              intro x29 e30
              rw [lt_of e30] at h
              refine g_istore (pc := 61) (lv' := fun y => [(0, .ref (κ 0 + 140)), (1, .int i1), (2, .int i2), (3, .int x11), (4, .int y)]) dX11_sieveAs_61 (Nat.le_of_ble_eq_true rfl) (fun _ => rfl) (fun y32 e33 => ?_)
              rw [e33]
              refine g_iload (pc := 63) dX11_sieveAs_63 rfl ?_
              refine g_if_eq (pc := 65) 76 dX11_sieveAs_65 (by decide) (fun hc34 => ?_) (fun hc34 => ?_)
              · rw [if_pos hc34] at h
                refine g_bipush (pc := 76) (v := (-4 : Int32)) dX11_sieveAs_76 rfl ?_
                cases h
                exact r_iret dX11_sieveAs_78 rfl rfl rfl
              · rw [if_neg hc34] at h
                refine g_aload_n (pc := 68) dX11_sieveAs_68 rfl rfl ?_
                refine g_iload_n (pc := 69) dX11_sieveAs_69 rfl rfl ?_
                obtain ⟨p36, hp35, h⟩ := Option.bind_eq_some_iff.mp h
                refine r_callV (ci := 10) (pc := 70) (c_X11_dripOf hN i1 p10.2 hp35) yV_X11_dripOf ⟨rfl, by decide⟩ pX11_dripOf mL_X11_136 dX11_sieveAs_70 (Nat.le_of_ble_eq_true rfl) (Nat.le_of_ble_eq_true rfl) (Nat.lt_of_lt_of_le (by decide) hN) kd_140 rfl (rK_i ?_)
                refine g_goto (pc := 73) 78 dX11_sieveAs_73 (by decide) ?_
                cases h
                exact r_iret dX11_sieveAs_78 rfl rfl rfl
            refine g_icmp_gt (pc := 53) 60 dX11_sieveAs_53 (by decide) (fun hc37 => ?_) (fun hc37 => ?_)
            · refine g_iconst (pc := 60) (v := (0 : Int32)) dX11_sieveAs_60 rfl ?_
              exact key31 _ (by rw [if_pos hc37])
            · refine g_iconst (pc := 56) (v := (1 : Int32)) dX11_sieveAs_56 rfl ?_
              refine g_goto (pc := 57) 61 dX11_sieveAs_57 (by decide) ?_
              exact key31 _ (by rw [if_neg hc37])
    · rw [if_pos hc8] at h
      refine g_bipush (pc := 23) (v := (-3 : Int32)) dX11_sieveAs_23 rfl ?_
      cases h
      exact r_iret dX11_sieveAs_25 rfl rfl rfl
  · rw [if_pos hc4] at h
    refine g_bipush (pc := 8) (v := (-2 : Int32)) dX11_sieveAs_8 rfl ?_
    cases h
    exact r_iret dX11_sieveAs_10 rfl rfl rfl

def f_X11_draws (i1 : Int32) (μ : gMem) : Option (gMem) :=
  if inb ((0 : Int32) + i1) 35 = true then
  lt (st μ 142 ((0 : Int32) + i1).toNatClampNeg (1 : Int32)) (fun m1 =>
  (f_X11_walkOf i1 m1).bind (fun p5 =>
  if inb ((5 : Int32) + i1) 35 = true then
  lt (st p5.2 142 ((5 : Int32) + i1).toNatClampNeg p5.1) (fun m6 =>
  if inb ((10 : Int32) + i1) 35 = true then
  lt (st m6 142 ((10 : Int32) + i1).toNatClampNeg (m6 142 ((5 : Int32) + i1).toNatClampNeg)) (fun m9 =>
  (f_X11_of i1 (2 : Int32) m9).bind (fun p13 =>
  if inb ((15 : Int32) + i1) 35 = true then
  lt (st p13.2 142 ((15 : Int32) + i1).toNatClampNeg p13.1) (fun m14 =>
  some m14) else none)) else none) else none)) else none
set_option maxRecDepth 100000 in
set_option maxHeartbeats 4000000 in
theorem c_X11_draws {κ : Nat → Nat} {N : Nat} (hN : 151 ≤ N) (i1 : Int32)  (μ : gMem) {μ' : gMem} (h : f_X11_draws i1 μ = some μ') : CT2 κ N 3 yX11_draws iX11_draws [.ref (κ 0 + 140), .int i1] μ (qV μ') := by
  refine CT2.of (by decide) rfl rfl (Nat.le_of_ble_eq_true rfl) ?_
  unfold f_X11_draws at h
  show RR κ N 3 iX11_draws 0 [(0, .ref (κ 0 + 140)), (1, .int i1)] [] μ _
  refine g_aload_n (pc := 0) dX11_draws_0 rfl rfl ?_
  refine gf_X11_13 (pc := 1) rfl dX11_draws_1 (Nat.lt_of_lt_of_le (by decide) hN) kd_140 ?_
  refine g_iconst (pc := 4) (v := (0 : Int32)) dX11_draws_4 rfl ?_
  refine g_iload_n (pc := 5) dX11_draws_5 rfl rfl ?_
  refine g_iadd (pc := 6) dX11_draws_6 ?_
  refine g_iconst (pc := 7) (v := (1 : Int32)) dX11_draws_7 rfl ?_
  obtain ⟨hg3, h⟩ := gd_some h
  refine r_iast (pc := 8) 35 dX11_draws_8 (Nat.lt_of_lt_of_le (by decide) hN) kd_142 ln_142 hg3 (fun m1 e2 => ?_)
  rw [lt_of e2] at h
  refine g_aload_n (pc := 9) dX11_draws_9 rfl rfl ?_
  refine gf_X11_13 (pc := 10) rfl dX11_draws_10 (Nat.lt_of_lt_of_le (by decide) hN) kd_140 ?_
  refine g_iconst (pc := 13) (v := (5 : Int32)) dX11_draws_13 rfl ?_
  refine g_iload_n (pc := 14) dX11_draws_14 rfl rfl ?_
  refine g_iadd (pc := 15) dX11_draws_15 ?_
  refine g_aload_n (pc := 16) dX11_draws_16 rfl rfl ?_
  refine g_iload_n (pc := 17) dX11_draws_17 rfl rfl ?_
  obtain ⟨p5, hp4, h⟩ := Option.bind_eq_some_iff.mp h
  refine r_callV (ci := 10) (pc := 18) (c_X11_walkOf hN i1 m1 hp4) yV_X11_walkOf ⟨rfl, by decide⟩ pX11_walkOf mL_X11_147 dX11_draws_18 (Nat.le_of_ble_eq_true rfl) (Nat.le_of_ble_eq_true rfl) (Nat.lt_of_lt_of_le (by decide) hN) kd_140 rfl (rK_i ?_)
  obtain ⟨hg8, h⟩ := gd_some h
  refine r_iast (pc := 21) 35 dX11_draws_21 (Nat.lt_of_lt_of_le (by decide) hN) kd_142 ln_142 hg8 (fun m6 e7 => ?_)
  rw [lt_of e7] at h
  refine g_aload_n (pc := 22) dX11_draws_22 rfl rfl ?_
  refine gf_X11_13 (pc := 23) rfl dX11_draws_23 (Nat.lt_of_lt_of_le (by decide) hN) kd_140 ?_
  refine g_bipush (pc := 26) (v := (10 : Int32)) dX11_draws_26 rfl ?_
  refine g_iload_n (pc := 28) dX11_draws_28 rfl rfl ?_
  refine g_iadd (pc := 29) dX11_draws_29 ?_
  refine g_aload_n (pc := 30) dX11_draws_30 rfl rfl ?_
  refine gf_X11_13 (pc := 31) rfl dX11_draws_31 (Nat.lt_of_lt_of_le (by decide) hN) kd_140 ?_
  refine g_iconst (pc := 34) (v := (5 : Int32)) dX11_draws_34 rfl ?_
  refine g_iload_n (pc := 35) dX11_draws_35 rfl rfl ?_
  refine g_iadd (pc := 36) dX11_draws_36 ?_
  refine r_iald (pc := 37) 35 dX11_draws_37 (Nat.lt_of_lt_of_le (by decide) hN) kd_142 ln_142 hg8 ?_
  obtain ⟨hg11, h⟩ := gd_some h
  refine r_iast (pc := 38) 35 dX11_draws_38 (Nat.lt_of_lt_of_le (by decide) hN) kd_142 ln_142 hg11 (fun m9 e10 => ?_)
  rw [lt_of e10] at h
  refine g_aload_n (pc := 39) dX11_draws_39 rfl rfl ?_
  refine gf_X11_13 (pc := 40) rfl dX11_draws_40 (Nat.lt_of_lt_of_le (by decide) hN) kd_140 ?_
  refine g_bipush (pc := 43) (v := (15 : Int32)) dX11_draws_43 rfl ?_
  refine g_iload_n (pc := 45) dX11_draws_45 rfl rfl ?_
  refine g_iadd (pc := 46) dX11_draws_46 ?_
  refine g_aload_n (pc := 47) dX11_draws_47 rfl rfl ?_
  refine g_iload_n (pc := 48) dX11_draws_48 rfl rfl ?_
  refine g_iconst (pc := 49) (v := (2 : Int32)) dX11_draws_49 rfl ?_
  obtain ⟨p13, hp12, h⟩ := Option.bind_eq_some_iff.mp h
  refine r_callV (ci := 10) (pc := 50) (c_X11_of hN i1 (2 : Int32) m9 hp12) yV_X11_of ⟨rfl, by decide⟩ pX11_of mL_X11_133 dX11_draws_50 (Nat.le_of_ble_eq_true rfl) (Nat.le_of_ble_eq_true rfl) (Nat.lt_of_lt_of_le (by decide) hN) kd_140 rfl (rK_i ?_)
  obtain ⟨hg16, h⟩ := gd_some h
  refine r_iast (pc := 53) 35 dX11_draws_53 (Nat.lt_of_lt_of_le (by decide) hN) kd_142 ln_142 hg16 (fun m14 e15 => ?_)
  rw [lt_of e15] at h
  cases h
  exact r_vret dX11_draws_54 rfl rfl

def f_X11_restNow (i1 : Int32) (μ : gMem) : Option (gMem) :=
  if inb ((0 : Int32) + i1) 35 = true then
  lt (st μ 142 ((0 : Int32) + i1).toNatClampNeg (0 : Int32)) (fun m1 =>
  if inb ((5 : Int32) + i1) 35 = true then
  lt (st m1 142 ((5 : Int32) + i1).toNatClampNeg (0 : Int32)) (fun m4 =>
  if inb ((15 : Int32) + i1) 35 = true then
  lt (st m4 142 ((15 : Int32) + i1).toNatClampNeg (0 : Int32)) (fun m7 =>
  some m7) else none) else none) else none
set_option maxRecDepth 100000 in
set_option maxHeartbeats 4000000 in
theorem c_X11_restNow {κ : Nat → Nat} {N : Nat} (hN : 151 ≤ N) (i1 : Int32)  (μ : gMem) {μ' : gMem} (h : f_X11_restNow i1 μ = some μ') : CT2 κ N 1 yX11_restNow iX11_restNow [.ref (κ 0 + 140), .int i1] μ (qV μ') := by
  refine CT2.of (by decide) rfl rfl (Nat.le_of_ble_eq_true rfl) ?_
  unfold f_X11_restNow at h
  show RR κ N 1 iX11_restNow 0 [(0, .ref (κ 0 + 140)), (1, .int i1)] [] μ _
  refine g_aload_n (pc := 0) dX11_restNow_0 rfl rfl ?_
  refine gf_X11_13 (pc := 1) rfl dX11_restNow_1 (Nat.lt_of_lt_of_le (by decide) hN) kd_140 ?_
  refine g_iconst (pc := 4) (v := (0 : Int32)) dX11_restNow_4 rfl ?_
  refine g_iload_n (pc := 5) dX11_restNow_5 rfl rfl ?_
  refine g_iadd (pc := 6) dX11_restNow_6 ?_
  refine g_iconst (pc := 7) (v := (0 : Int32)) dX11_restNow_7 rfl ?_
  obtain ⟨hg3, h⟩ := gd_some h
  refine r_iast (pc := 8) 35 dX11_restNow_8 (Nat.lt_of_lt_of_le (by decide) hN) kd_142 ln_142 hg3 (fun m1 e2 => ?_)
  rw [lt_of e2] at h
  refine g_aload_n (pc := 9) dX11_restNow_9 rfl rfl ?_
  refine gf_X11_13 (pc := 10) rfl dX11_restNow_10 (Nat.lt_of_lt_of_le (by decide) hN) kd_140 ?_
  refine g_iconst (pc := 13) (v := (5 : Int32)) dX11_restNow_13 rfl ?_
  refine g_iload_n (pc := 14) dX11_restNow_14 rfl rfl ?_
  refine g_iadd (pc := 15) dX11_restNow_15 ?_
  refine g_iconst (pc := 16) (v := (0 : Int32)) dX11_restNow_16 rfl ?_
  obtain ⟨hg6, h⟩ := gd_some h
  refine r_iast (pc := 17) 35 dX11_restNow_17 (Nat.lt_of_lt_of_le (by decide) hN) kd_142 ln_142 hg6 (fun m4 e5 => ?_)
  rw [lt_of e5] at h
  refine g_aload_n (pc := 18) dX11_restNow_18 rfl rfl ?_
  refine gf_X11_13 (pc := 19) rfl dX11_restNow_19 (Nat.lt_of_lt_of_le (by decide) hN) kd_140 ?_
  refine g_bipush (pc := 22) (v := (15 : Int32)) dX11_restNow_22 rfl ?_
  refine g_iload_n (pc := 24) dX11_restNow_24 rfl rfl ?_
  refine g_iadd (pc := 25) dX11_restNow_25 ?_
  refine g_iconst (pc := 26) (v := (0 : Int32)) dX11_restNow_26 rfl ?_
  obtain ⟨hg9, h⟩ := gd_some h
  refine r_iast (pc := 27) 35 dX11_restNow_27 (Nat.lt_of_lt_of_le (by decide) hN) kd_142 ln_142 hg9 (fun m7 e8 => ?_)
  rw [lt_of e8] at h
  cases h
  exact r_vret dX11_restNow_28 rfl rfl

def f_X11_step (i1 : Int32) (μ : gMem) : Option (Int32 × gMem) :=
  if inb ((0 : Int32) + i1) 35 = true then
  lt (μ 142 ((0 : Int32) + i1).toNatClampNeg) (fun x2 =>
  if x2 = 0 then
  (some ((0 : Int32), μ))
else
  (if inb ((5 : Int32) + i1) 35 = true then
  lt (st μ 142 ((5 : Int32) + i1).toNatClampNeg ((μ 142 ((5 : Int32) + i1).toNatClampNeg) - (1 : Int32))) (fun m6 =>
  if x2 = (1 : Int32) then
  (if inb ((15 : Int32) + i1) 35 = true then
  (f_X11_dripNow i1 m6).bind (fun p34 =>
  lt ((m6 142 ((15 : Int32) + i1).toNatClampNeg) - p34.1) (fun x35 =>
  lt (if 0 ≤ x35 then x35 else (0 : Int32)) (fun x37 =>
  lt (st p34.2 142 ((15 : Int32) + i1).toNatClampNeg x37) (fun m40 =>
  if (m40 142 ((5 : Int32) + i1).toNatClampNeg) ≤ 0 then
  (if x2 = (2 : Int32) then
  (if inb ((20 : Int32) + i1) 35 = true then
  lt (st m40 142 ((20 : Int32) + i1).toNatClampNeg ((m40 142 ((20 : Int32) + i1).toNatClampNeg) + (1 : Int32))) (fun m60 =>
  (f_X11_draws i1 m60).bind (fun m63 =>
  some ((0 : Int32), m63))) else none)
else
  (lt (m40 142 ((15 : Int32) + i1).toNatClampNeg) (fun x44 =>
  lt (st m40 142 ((15 : Int32) + i1).toNatClampNeg (0 : Int32)) (fun m46 =>
  lt (st m46 142 ((0 : Int32) + i1).toNatClampNeg (2 : Int32)) (fun m48 =>
  if inb ((10 : Int32) + i1) 35 = true then
  (f_X11_of i1 (0 : Int32) m48).bind (fun p52 =>
  lt (if p52.1 = (2 : Int32) then (2 : Int32) else (0 : Int32)) (fun x53 =>
  lt (st p52.2 142 ((5 : Int32) + i1).toNatClampNeg ((m48 142 ((10 : Int32) + i1).toNatClampNeg) + x53)) (fun m56 =>
  some (x44, m56)))) else none)))))
else
  (some ((0 : Int32), m40)))))) else none)
else
  (if (m6 142 ((5 : Int32) + i1).toNatClampNeg) ≤ 0 then
  (if x2 = (2 : Int32) then
  (if inb ((20 : Int32) + i1) 35 = true then
  lt (st m6 142 ((20 : Int32) + i1).toNatClampNeg ((m6 142 ((20 : Int32) + i1).toNatClampNeg) + (1 : Int32))) (fun m28 =>
  (f_X11_draws i1 m28).bind (fun m31 =>
  some ((0 : Int32), m31))) else none)
else
  (if inb ((15 : Int32) + i1) 35 = true then
  lt (m6 142 ((15 : Int32) + i1).toNatClampNeg) (fun x12 =>
  lt (st m6 142 ((15 : Int32) + i1).toNatClampNeg (0 : Int32)) (fun m14 =>
  lt (st m14 142 ((0 : Int32) + i1).toNatClampNeg (2 : Int32)) (fun m16 =>
  if inb ((10 : Int32) + i1) 35 = true then
  (f_X11_of i1 (0 : Int32) m16).bind (fun p20 =>
  lt (if p20.1 = (2 : Int32) then (2 : Int32) else (0 : Int32)) (fun x21 =>
  lt (st p20.2 142 ((5 : Int32) + i1).toNatClampNeg ((m16 142 ((10 : Int32) + i1).toNatClampNeg) + x21)) (fun m24 =>
  some (x12, m24)))) else none))) else none))
else
  (some ((0 : Int32), m6)))) else none)) else none
set_option maxRecDepth 100000 in
set_option maxHeartbeats 4000000 in
theorem c_X11_step {κ : Nat → Nat} {N : Nat} (hN : 151 ≤ N) (i1 : Int32)  (μ : gMem) {r : Int32} {μ' : gMem} (h : f_X11_step i1 μ = some (r, μ')) : CT2 κ N 4 yX11_step iX11_step [.ref (κ 0 + 140), .int i1] μ (qI r μ') := by
  refine CT2.of (by decide) rfl rfl (Nat.le_of_ble_eq_true rfl) ?_
  unfold f_X11_step at h
  show RR κ N 4 iX11_step 0 [(0, .ref (κ 0 + 140)), (1, .int i1)] [] μ _
  refine g_aload_n (pc := 0) dX11_step_0 rfl rfl ?_
  refine gf_X11_13 (pc := 1) rfl dX11_step_1 (Nat.lt_of_lt_of_le (by decide) hN) kd_140 ?_
  refine g_iconst (pc := 4) (v := (0 : Int32)) dX11_step_4 rfl ?_
  refine g_iload_n (pc := 5) dX11_step_5 rfl rfl ?_
  refine g_iadd (pc := 6) dX11_step_6 ?_
  obtain ⟨hg1, h⟩ := gd_some h
  refine r_iald (pc := 7) 35 dX11_step_7 (Nat.lt_of_lt_of_le (by decide) hN) kd_142 ln_142 hg1 ?_
  refine g_istore_n (pc := 8) (lv' := fun y => [(0, .ref (κ 0 + 140)), (1, .int i1), (2, .int y)]) dX11_step_8 rfl (Nat.le_of_ble_eq_true rfl) (fun _ => rfl) (fun x2 e3 => ?_)
  rw [lt_of e3] at h
  refine g_iload_n (pc := 9) dX11_step_9 rfl rfl ?_
  refine g_if_ne (pc := 10) 15 dX11_step_10 (by decide) (fun hc4 => ?_) (fun hc4 => ?_)
  · rw [if_neg hc4] at h
    refine g_aload_n (pc := 15) dX11_step_15 rfl rfl ?_
    refine gf_X11_13 (pc := 16) rfl dX11_step_16 (Nat.lt_of_lt_of_le (by decide) hN) kd_140 ?_
    refine g_iconst (pc := 19) (v := (5 : Int32)) dX11_step_19 rfl ?_
    refine g_iload_n (pc := 20) dX11_step_20 rfl rfl ?_
    refine g_iadd (pc := 21) dX11_step_21 ?_
    refine g_dup2 (pc := 22) dX11_step_22 rfl rfl ?_
    obtain ⟨hg5, h⟩ := gd_some h
    refine r_iald (pc := 23) 35 dX11_step_23 (Nat.lt_of_lt_of_le (by decide) hN) kd_142 ln_142 hg5 ?_
    refine g_iconst (pc := 24) (v := (1 : Int32)) dX11_step_24 rfl ?_
    refine g_isub (pc := 25) dX11_step_25 ?_
    refine r_iast (pc := 26) 35 dX11_step_26 (Nat.lt_of_lt_of_le (by decide) hN) kd_142 ln_142 hg5 (fun m6 e7 => ?_)
    rw [lt_of e7] at h
    refine g_iload_n (pc := 27) dX11_step_27 rfl rfl ?_
    refine g_iconst (pc := 28) (v := (1 : Int32)) dX11_step_28 rfl ?_
    refine g_icmp_ne (pc := 29) 66 dX11_step_29 (by decide) (fun hc8 => ?_) (fun hc8 => ?_)
    · rw [if_neg hc8] at h
      refine g_aload_n (pc := 66) dX11_step_66 rfl rfl ?_
      refine gf_X11_13 (pc := 67) rfl dX11_step_67 (Nat.lt_of_lt_of_le (by decide) hN) kd_140 ?_
      refine g_iconst (pc := 70) (v := (5 : Int32)) dX11_step_70 rfl ?_
      refine g_iload_n (pc := 71) dX11_step_71 rfl rfl ?_
      refine g_iadd (pc := 72) dX11_step_72 ?_
      refine r_iald (pc := 73) 35 dX11_step_73 (Nat.lt_of_lt_of_le (by decide) hN) kd_142 ln_142 hg5 ?_
      refine g_if_le (pc := 74) 79 dX11_step_74 (by decide) (fun hc9 => ?_) (fun hc9 => ?_)
      · rw [if_pos hc9] at h
        refine g_iload_n (pc := 79) dX11_step_79 rfl rfl ?_
        refine g_iconst (pc := 80) (v := (2 : Int32)) dX11_step_80 rfl ?_
        refine g_icmp_ne (pc := 81) 104 dX11_step_81 (by decide) (fun hc10 => ?_) (fun hc10 => ?_)
        · rw [if_neg hc10] at h
          refine g_aload_n (pc := 104) dX11_step_104 rfl rfl ?_
          refine gf_X11_13 (pc := 105) rfl dX11_step_105 (Nat.lt_of_lt_of_le (by decide) hN) kd_140 ?_
          refine g_bipush (pc := 108) (v := (15 : Int32)) dX11_step_108 rfl ?_
          refine g_iload_n (pc := 110) dX11_step_110 rfl rfl ?_
          refine g_iadd (pc := 111) dX11_step_111 ?_
          obtain ⟨hg11, h⟩ := gd_some h
          refine r_iald (pc := 112) 35 dX11_step_112 (Nat.lt_of_lt_of_le (by decide) hN) kd_142 ln_142 hg11 ?_
          refine g_istore_n (pc := 113) (lv' := fun y => [(0, .ref (κ 0 + 140)), (1, .int i1), (2, .int x2), (3, .int y)]) dX11_step_113 rfl (Nat.le_of_ble_eq_true rfl) (fun _ => rfl) (fun x12 e13 => ?_)
          rw [lt_of e13] at h
          refine g_aload_n (pc := 114) dX11_step_114 rfl rfl ?_
          refine gf_X11_13 (pc := 115) rfl dX11_step_115 (Nat.lt_of_lt_of_le (by decide) hN) kd_140 ?_
          refine g_bipush (pc := 118) (v := (15 : Int32)) dX11_step_118 rfl ?_
          refine g_iload_n (pc := 120) dX11_step_120 rfl rfl ?_
          refine g_iadd (pc := 121) dX11_step_121 ?_
          refine g_iconst (pc := 122) (v := (0 : Int32)) dX11_step_122 rfl ?_
          refine r_iast (pc := 123) 35 dX11_step_123 (Nat.lt_of_lt_of_le (by decide) hN) kd_142 ln_142 hg11 (fun m14 e15 => ?_)
          rw [lt_of e15] at h
          refine g_aload_n (pc := 124) dX11_step_124 rfl rfl ?_
          refine gf_X11_13 (pc := 125) rfl dX11_step_125 (Nat.lt_of_lt_of_le (by decide) hN) kd_140 ?_
          refine g_iconst (pc := 128) (v := (0 : Int32)) dX11_step_128 rfl ?_
          refine g_iload_n (pc := 129) dX11_step_129 rfl rfl ?_
          refine g_iadd (pc := 130) dX11_step_130 ?_
          refine g_iconst (pc := 131) (v := (2 : Int32)) dX11_step_131 rfl ?_
          refine r_iast (pc := 132) 35 dX11_step_132 (Nat.lt_of_lt_of_le (by decide) hN) kd_142 ln_142 hg1 (fun m16 e17 => ?_)
          rw [lt_of e17] at h
          refine g_aload_n (pc := 133) dX11_step_133 rfl rfl ?_
          refine gf_X11_13 (pc := 134) rfl dX11_step_134 (Nat.lt_of_lt_of_le (by decide) hN) kd_140 ?_
          refine g_iconst (pc := 137) (v := (5 : Int32)) dX11_step_137 rfl ?_
          refine g_iload_n (pc := 138) dX11_step_138 rfl rfl ?_
          refine g_iadd (pc := 139) dX11_step_139 ?_
          refine g_aload_n (pc := 140) dX11_step_140 rfl rfl ?_
          refine gf_X11_13 (pc := 141) rfl dX11_step_141 (Nat.lt_of_lt_of_le (by decide) hN) kd_140 ?_
          refine g_bipush (pc := 144) (v := (10 : Int32)) dX11_step_144 rfl ?_
          refine g_iload_n (pc := 146) dX11_step_146 rfl rfl ?_
          refine g_iadd (pc := 147) dX11_step_147 ?_
          obtain ⟨hg18, h⟩ := gd_some h
          refine r_iald (pc := 148) 35 dX11_step_148 (Nat.lt_of_lt_of_le (by decide) hN) kd_142 ln_142 hg18 ?_
          refine g_aload_n (pc := 149) dX11_step_149 rfl rfl ?_
          refine g_iload_n (pc := 150) dX11_step_150 rfl rfl ?_
          refine g_iconst (pc := 151) (v := (0 : Int32)) dX11_step_151 rfl ?_
          obtain ⟨p20, hp19, h⟩ := Option.bind_eq_some_iff.mp h
          refine r_callV (ci := 10) (pc := 152) (c_X11_of hN i1 (0 : Int32) m16 hp19) yV_X11_of ⟨rfl, by decide⟩ pX11_of mL_X11_133 dX11_step_152 (Nat.le_of_ble_eq_true rfl) (Nat.le_of_ble_eq_true rfl) (Nat.lt_of_lt_of_le (by decide) hN) kd_140 rfl (rK_i ?_)
          refine g_iconst (pc := 155) (v := (2 : Int32)) dX11_step_155 rfl ?_
          have key23 : ∀ x21 : Int32, x21 = (if p20.1 = (2 : Int32) then (2 : Int32) else (0 : Int32)) → RR κ N 4 iX11_step 164 [(0, .ref (κ 0 + 140)), (1, .int i1), (2, .int x2), (3, .int x12)] [.int x21, .int (m16 142 ((10 : Int32) + i1).toNatClampNeg), .int ((5 : Int32) + i1), .ref (κ 0 + 142)] p20.2 (qI r μ') := by
            intro x21 e22
            rw [lt_of e22] at h
            refine g_iadd (pc := 164) dX11_step_164 ?_
            refine r_iast (pc := 165) 35 dX11_step_165 (Nat.lt_of_lt_of_le (by decide) hN) kd_142 ln_142 hg5 (fun m24 e25 => ?_)
            rw [lt_of e25] at h
            refine g_iload_n (pc := 166) dX11_step_166 rfl rfl ?_
            cases h
            exact r_iret dX11_step_167 rfl rfl rfl
          refine g_icmp_ne (pc := 156) 163 dX11_step_156 (by decide) (fun hc26 => ?_) (fun hc26 => ?_)
          · refine g_iconst (pc := 163) (v := (0 : Int32)) dX11_step_163 rfl ?_
            exact key23 _ (by rw [if_neg hc26])
          · refine g_iconst (pc := 159) (v := (2 : Int32)) dX11_step_159 rfl ?_
            refine g_goto (pc := 160) 164 dX11_step_160 (by decide) ?_
            exact key23 _ (by rw [if_pos hc26])
        · rw [if_pos hc10] at h
          refine g_aload_n (pc := 84) dX11_step_84 rfl rfl ?_
          refine gf_X11_13 (pc := 85) rfl dX11_step_85 (Nat.lt_of_lt_of_le (by decide) hN) kd_140 ?_
          refine g_bipush (pc := 88) (v := (20 : Int32)) dX11_step_88 rfl ?_
          refine g_iload_n (pc := 90) dX11_step_90 rfl rfl ?_
          refine g_iadd (pc := 91) dX11_step_91 ?_
          refine g_dup2 (pc := 92) dX11_step_92 rfl rfl ?_
          obtain ⟨hg27, h⟩ := gd_some h
          refine r_iald (pc := 93) 35 dX11_step_93 (Nat.lt_of_lt_of_le (by decide) hN) kd_142 ln_142 hg27 ?_
          refine g_iconst (pc := 94) (v := (1 : Int32)) dX11_step_94 rfl ?_
          refine g_iadd (pc := 95) dX11_step_95 ?_
          refine r_iast (pc := 96) 35 dX11_step_96 (Nat.lt_of_lt_of_le (by decide) hN) kd_142 ln_142 hg27 (fun m28 e29 => ?_)
          rw [lt_of e29] at h
          refine g_aload_n (pc := 97) dX11_step_97 rfl rfl ?_
          refine g_iload_n (pc := 98) dX11_step_98 rfl rfl ?_
          obtain ⟨m31, hp30, h⟩ := Option.bind_eq_some_iff.mp h
          refine r_callV (ci := 10) (pc := 99) (c_X11_draws hN i1 m28 hp30) yV_X11_draws ⟨rfl, by decide⟩ pX11_draws mL_X11_155 dX11_step_99 (Nat.le_of_ble_eq_true rfl) (Nat.le_of_ble_eq_true rfl) (Nat.lt_of_lt_of_le (by decide) hN) kd_140 rfl (rK_v ?_)
          refine g_iconst (pc := 102) (v := (0 : Int32)) dX11_step_102 rfl ?_
          cases h
          exact r_iret dX11_step_103 rfl rfl rfl
      · rw [if_neg hc9] at h
        refine g_iconst (pc := 77) (v := (0 : Int32)) dX11_step_77 rfl ?_
        cases h
        exact r_iret dX11_step_78 rfl rfl rfl
    · rw [if_pos hc8] at h
      refine g_aload_n (pc := 32) dX11_step_32 rfl rfl ?_
      refine gf_X11_13 (pc := 33) rfl dX11_step_33 (Nat.lt_of_lt_of_le (by decide) hN) kd_140 ?_
      refine g_bipush (pc := 36) (v := (15 : Int32)) dX11_step_36 rfl ?_
      refine g_iload_n (pc := 38) dX11_step_38 rfl rfl ?_
      refine g_iadd (pc := 39) dX11_step_39 ?_
      obtain ⟨hg32, h⟩ := gd_some h
      refine r_iald (pc := 40) 35 dX11_step_40 (Nat.lt_of_lt_of_le (by decide) hN) kd_142 ln_142 hg32 ?_
      refine g_aload_n (pc := 41) dX11_step_41 rfl rfl ?_
      refine g_iload_n (pc := 42) dX11_step_42 rfl rfl ?_
      obtain ⟨p34, hp33, h⟩ := Option.bind_eq_some_iff.mp h
      refine r_callV (ci := 10) (pc := 43) (c_X11_dripNow hN i1 m6 hp33) yV_X11_dripNow ⟨rfl, by decide⟩ pX11_dripNow mL_X11_152 dX11_step_43 (Nat.le_of_ble_eq_true rfl) (Nat.le_of_ble_eq_true rfl) (Nat.lt_of_lt_of_le (by decide) hN) kd_140 rfl (rK_i ?_)
      refine g_isub (pc := 46) dX11_step_46 ?_
      refine g_istore_n (pc := 47) (lv' := fun y => [(0, .ref (κ 0 + 140)), (1, .int i1), (2, .int x2), (3, .int y)]) dX11_step_47 rfl (Nat.le_of_ble_eq_true rfl) (fun _ => rfl) (fun x35 e36 => ?_)
      rw [lt_of e36] at h
      refine g_aload_n (pc := 48) dX11_step_48 rfl rfl ?_
      refine gf_X11_13 (pc := 49) rfl dX11_step_49 (Nat.lt_of_lt_of_le (by decide) hN) kd_140 ?_
      refine g_bipush (pc := 52) (v := (15 : Int32)) dX11_step_52 rfl ?_
      refine g_iload_n (pc := 54) dX11_step_54 rfl rfl ?_
      refine g_iadd (pc := 55) dX11_step_55 ?_
      refine g_iload_n (pc := 56) dX11_step_56 rfl rfl ?_
      have key39 : ∀ x37 : Int32, x37 = (if 0 ≤ x35 then x35 else (0 : Int32)) → RR κ N 4 iX11_step 65 [(0, .ref (κ 0 + 140)), (1, .int i1), (2, .int x2), (3, .int x35)] [.int x37, .int ((15 : Int32) + i1), .ref (κ 0 + 142)] p34.2 (qI r μ') := by
        intro x37 e38
        rw [lt_of e38] at h
        refine r_iast (pc := 65) 35 dX11_step_65 (Nat.lt_of_lt_of_le (by decide) hN) kd_142 ln_142 hg32 (fun m40 e41 => ?_)
        rw [lt_of e41] at h
        refine g_aload_n (pc := 66) dX11_step_66 rfl rfl ?_
        refine gf_X11_13 (pc := 67) rfl dX11_step_67 (Nat.lt_of_lt_of_le (by decide) hN) kd_140 ?_
        refine g_iconst (pc := 70) (v := (5 : Int32)) dX11_step_70 rfl ?_
        refine g_iload_n (pc := 71) dX11_step_71 rfl rfl ?_
        refine g_iadd (pc := 72) dX11_step_72 ?_
        refine r_iald (pc := 73) 35 dX11_step_73 (Nat.lt_of_lt_of_le (by decide) hN) kd_142 ln_142 hg5 ?_
        refine g_if_le (pc := 74) 79 dX11_step_74 (by decide) (fun hc42 => ?_) (fun hc42 => ?_)
        · rw [if_pos hc42] at h
          refine g_iload_n (pc := 79) dX11_step_79 rfl rfl ?_
          refine g_iconst (pc := 80) (v := (2 : Int32)) dX11_step_80 rfl ?_
          refine g_icmp_ne (pc := 81) 104 dX11_step_81 (by decide) (fun hc43 => ?_) (fun hc43 => ?_)
          · rw [if_neg hc43] at h
            refine g_aload_n (pc := 104) dX11_step_104 rfl rfl ?_
            refine gf_X11_13 (pc := 105) rfl dX11_step_105 (Nat.lt_of_lt_of_le (by decide) hN) kd_140 ?_
            refine g_bipush (pc := 108) (v := (15 : Int32)) dX11_step_108 rfl ?_
            refine g_iload_n (pc := 110) dX11_step_110 rfl rfl ?_
            refine g_iadd (pc := 111) dX11_step_111 ?_
            refine r_iald (pc := 112) 35 dX11_step_112 (Nat.lt_of_lt_of_le (by decide) hN) kd_142 ln_142 hg32 ?_
            refine g_istore_n (pc := 113) (lv' := fun y => [(0, .ref (κ 0 + 140)), (1, .int i1), (2, .int x2), (3, .int y)]) dX11_step_113 rfl (Nat.le_of_ble_eq_true rfl) (fun _ => rfl) (fun x44 e45 => ?_)
            rw [lt_of e45] at h
            refine g_aload_n (pc := 114) dX11_step_114 rfl rfl ?_
            refine gf_X11_13 (pc := 115) rfl dX11_step_115 (Nat.lt_of_lt_of_le (by decide) hN) kd_140 ?_
            refine g_bipush (pc := 118) (v := (15 : Int32)) dX11_step_118 rfl ?_
            refine g_iload_n (pc := 120) dX11_step_120 rfl rfl ?_
            refine g_iadd (pc := 121) dX11_step_121 ?_
            refine g_iconst (pc := 122) (v := (0 : Int32)) dX11_step_122 rfl ?_
            refine r_iast (pc := 123) 35 dX11_step_123 (Nat.lt_of_lt_of_le (by decide) hN) kd_142 ln_142 hg32 (fun m46 e47 => ?_)
            rw [lt_of e47] at h
            refine g_aload_n (pc := 124) dX11_step_124 rfl rfl ?_
            refine gf_X11_13 (pc := 125) rfl dX11_step_125 (Nat.lt_of_lt_of_le (by decide) hN) kd_140 ?_
            refine g_iconst (pc := 128) (v := (0 : Int32)) dX11_step_128 rfl ?_
            refine g_iload_n (pc := 129) dX11_step_129 rfl rfl ?_
            refine g_iadd (pc := 130) dX11_step_130 ?_
            refine g_iconst (pc := 131) (v := (2 : Int32)) dX11_step_131 rfl ?_
            refine r_iast (pc := 132) 35 dX11_step_132 (Nat.lt_of_lt_of_le (by decide) hN) kd_142 ln_142 hg1 (fun m48 e49 => ?_)
            rw [lt_of e49] at h
            refine g_aload_n (pc := 133) dX11_step_133 rfl rfl ?_
            refine gf_X11_13 (pc := 134) rfl dX11_step_134 (Nat.lt_of_lt_of_le (by decide) hN) kd_140 ?_
            refine g_iconst (pc := 137) (v := (5 : Int32)) dX11_step_137 rfl ?_
            refine g_iload_n (pc := 138) dX11_step_138 rfl rfl ?_
            refine g_iadd (pc := 139) dX11_step_139 ?_
            refine g_aload_n (pc := 140) dX11_step_140 rfl rfl ?_
            refine gf_X11_13 (pc := 141) rfl dX11_step_141 (Nat.lt_of_lt_of_le (by decide) hN) kd_140 ?_
            refine g_bipush (pc := 144) (v := (10 : Int32)) dX11_step_144 rfl ?_
            refine g_iload_n (pc := 146) dX11_step_146 rfl rfl ?_
            refine g_iadd (pc := 147) dX11_step_147 ?_
            obtain ⟨hg50, h⟩ := gd_some h
            refine r_iald (pc := 148) 35 dX11_step_148 (Nat.lt_of_lt_of_le (by decide) hN) kd_142 ln_142 hg50 ?_
            refine g_aload_n (pc := 149) dX11_step_149 rfl rfl ?_
            refine g_iload_n (pc := 150) dX11_step_150 rfl rfl ?_
            refine g_iconst (pc := 151) (v := (0 : Int32)) dX11_step_151 rfl ?_
            obtain ⟨p52, hp51, h⟩ := Option.bind_eq_some_iff.mp h
            refine r_callV (ci := 10) (pc := 152) (c_X11_of hN i1 (0 : Int32) m48 hp51) yV_X11_of ⟨rfl, by decide⟩ pX11_of mL_X11_133 dX11_step_152 (Nat.le_of_ble_eq_true rfl) (Nat.le_of_ble_eq_true rfl) (Nat.lt_of_lt_of_le (by decide) hN) kd_140 rfl (rK_i ?_)
            refine g_iconst (pc := 155) (v := (2 : Int32)) dX11_step_155 rfl ?_
            have key55 : ∀ x53 : Int32, x53 = (if p52.1 = (2 : Int32) then (2 : Int32) else (0 : Int32)) → RR κ N 4 iX11_step 164 [(0, .ref (κ 0 + 140)), (1, .int i1), (2, .int x2), (3, .int x44)] [.int x53, .int (m48 142 ((10 : Int32) + i1).toNatClampNeg), .int ((5 : Int32) + i1), .ref (κ 0 + 142)] p52.2 (qI r μ') := by
              intro x53 e54
              rw [lt_of e54] at h
              refine g_iadd (pc := 164) dX11_step_164 ?_
              refine r_iast (pc := 165) 35 dX11_step_165 (Nat.lt_of_lt_of_le (by decide) hN) kd_142 ln_142 hg5 (fun m56 e57 => ?_)
              rw [lt_of e57] at h
              refine g_iload_n (pc := 166) dX11_step_166 rfl rfl ?_
              cases h
              exact r_iret dX11_step_167 rfl rfl rfl
            refine g_icmp_ne (pc := 156) 163 dX11_step_156 (by decide) (fun hc58 => ?_) (fun hc58 => ?_)
            · refine g_iconst (pc := 163) (v := (0 : Int32)) dX11_step_163 rfl ?_
              exact key55 _ (by rw [if_neg hc58])
            · refine g_iconst (pc := 159) (v := (2 : Int32)) dX11_step_159 rfl ?_
              refine g_goto (pc := 160) 164 dX11_step_160 (by decide) ?_
              exact key55 _ (by rw [if_pos hc58])
          · rw [if_pos hc43] at h
            refine g_aload_n (pc := 84) dX11_step_84 rfl rfl ?_
            refine gf_X11_13 (pc := 85) rfl dX11_step_85 (Nat.lt_of_lt_of_le (by decide) hN) kd_140 ?_
            refine g_bipush (pc := 88) (v := (20 : Int32)) dX11_step_88 rfl ?_
            refine g_iload_n (pc := 90) dX11_step_90 rfl rfl ?_
            refine g_iadd (pc := 91) dX11_step_91 ?_
            refine g_dup2 (pc := 92) dX11_step_92 rfl rfl ?_
            obtain ⟨hg59, h⟩ := gd_some h
            refine r_iald (pc := 93) 35 dX11_step_93 (Nat.lt_of_lt_of_le (by decide) hN) kd_142 ln_142 hg59 ?_
            refine g_iconst (pc := 94) (v := (1 : Int32)) dX11_step_94 rfl ?_
            refine g_iadd (pc := 95) dX11_step_95 ?_
            refine r_iast (pc := 96) 35 dX11_step_96 (Nat.lt_of_lt_of_le (by decide) hN) kd_142 ln_142 hg59 (fun m60 e61 => ?_)
            rw [lt_of e61] at h
            refine g_aload_n (pc := 97) dX11_step_97 rfl rfl ?_
            refine g_iload_n (pc := 98) dX11_step_98 rfl rfl ?_
            obtain ⟨m63, hp62, h⟩ := Option.bind_eq_some_iff.mp h
            refine r_callV (ci := 10) (pc := 99) (c_X11_draws hN i1 m60 hp62) yV_X11_draws ⟨rfl, by decide⟩ pX11_draws mL_X11_155 dX11_step_99 (Nat.le_of_ble_eq_true rfl) (Nat.le_of_ble_eq_true rfl) (Nat.lt_of_lt_of_le (by decide) hN) kd_140 rfl (rK_v ?_)
            refine g_iconst (pc := 102) (v := (0 : Int32)) dX11_step_102 rfl ?_
            cases h
            exact r_iret dX11_step_103 rfl rfl rfl
        · rw [if_neg hc42] at h
          refine g_iconst (pc := 77) (v := (0 : Int32)) dX11_step_77 rfl ?_
          cases h
          exact r_iret dX11_step_78 rfl rfl rfl
      refine g_if_ge (pc := 57) 64 dX11_step_57 (by decide) (fun hc64 => ?_) (fun hc64 => ?_)
      · refine g_iload_n (pc := 64) dX11_step_64 rfl rfl ?_
        exact key39 _ (by rw [if_pos hc64])
      · refine g_iconst (pc := 60) (v := (0 : Int32)) dX11_step_60 rfl ?_
        refine g_goto (pc := 61) 65 dX11_step_61 (by decide) ?_
        exact key39 _ (by rw [if_neg hc64])
  · rw [if_pos hc4] at h
    refine g_iconst (pc := 13) (v := (0 : Int32)) dX11_step_13 rfl ?_
    cases h
    exact r_iret dX11_step_14 rfl rfl rfl

def l_X11_oneMinute_4  : Nat → Int32 → Int32 → gMem → Option (Int32 × Int32 × gMem)
  | 0, _, _, _ => none
  | n + 1, i1, i2, μ =>
  if (μ 140 1) ≤ i2 then
  (some (i1, i2, μ))
else
  ((f_X11_step i2 μ).bind (fun p7 =>
  lt (i1 + p7.1) (fun x8 =>
  lt (i2 + Int32.ofInt 1) (fun x10 =>
  l_X11_oneMinute_4 n x8 x10 p7.2))))
def f_X11_oneMinute  (μ : gMem) : Option (Int32 × gMem) :=
  (l_X11_oneMinute_4 gF (0 : Int32) (0 : Int32) μ).bind (fun p12 =>
  lt (st p12.2.2 142 (34 : Int32).toNatClampNeg ((p12.2.2 142 (34 : Int32).toNatClampNeg) + p12.1)) (fun m14 =>
  lt ((m14 142 (31 : Int32).toNatClampNeg) + p12.1) (fun x16 =>
  lt (if x16 ≤ (m14 141 (0 : Int32).toNatClampNeg) then x16 else (m14 141 (0 : Int32).toNatClampNeg)) (fun x18 =>
  lt (if x18 = (m14 141 (0 : Int32).toNatClampNeg) then (1 : Int32) else (0 : Int32)) (fun x23 =>
  lt (st m14 142 (33 : Int32).toNatClampNeg ((m14 142 (33 : Int32).toNatClampNeg) + x23)) (fun m26 =>
  lt (st m26 142 (31 : Int32).toNatClampNeg (x18 - (((x18 * (m26 142 (32 : Int32).toNatClampNeg)) + (19 : Int32)) / (20 : Int32)))) (fun m28 =>
  lt (st m28 142 (30 : Int32).toNatClampNeg ((m28 142 (30 : Int32).toNatClampNeg) + (1 : Int32))) (fun m30 =>
  some (x18, m30)))))))))
set_option maxRecDepth 100000 in
set_option maxHeartbeats 4000000 in
theorem cl_X11_oneMinute_4 {κ : Nat → Nat} {N : Nat} {Q : rQ} (hN : 151 ≤ N)   : ∀ (n : Nat) (i1 : Int32) (i2 : Int32) (μ : gMem) (p : Int32 × Int32 × gMem), l_X11_oneMinute_4 n i1 i2 μ = some p → RR κ N 5 iX11_oneMinute 26 [(0, .ref (κ 0 + 140)), (1, .int p.1), (2, .int p.2.1)] [] p.2.2 Q → RR κ N 5 iX11_oneMinute 4 [(0, .ref (κ 0 + 140)), (1, .int i1), (2, .int i2)] [] μ Q := by
  intro n
  induction n with
  | zero =>
    intro i1 i2 μ p h k
    unfold l_X11_oneMinute_4 at h
    cases h
  | succ n ih =>
    intro i1 i2 μ p h k
    unfold l_X11_oneMinute_4 at h
    refine g_iload_n (pc := 4) dX11_oneMinute_4 rfl rfl ?_
    refine g_aload_n (pc := 5) dX11_oneMinute_5 rfl rfl ?_
    refine gf_X11_45 (pc := 6) rfl dX11_oneMinute_6 (Nat.lt_of_lt_of_le (by decide) hN) kd_140 ?_
    refine g_icmp_ge (pc := 9) 26 dX11_oneMinute_9 (by decide) (fun hc5 => ?_) (fun hc5 => ?_)
    · rw [if_pos hc5] at h
      cases h
      exact k
    · rw [if_neg hc5] at h
      refine g_iload_n (pc := 12) dX11_oneMinute_12 rfl rfl ?_
      refine g_aload_n (pc := 13) dX11_oneMinute_13 rfl rfl ?_
      refine g_iload_n (pc := 14) dX11_oneMinute_14 rfl rfl ?_
      obtain ⟨p7, hp6, h⟩ := Option.bind_eq_some_iff.mp h
      refine r_callV (ci := 10) (pc := 15) (c_X11_step hN i2 μ hp6) yV_X11_step ⟨rfl, by decide⟩ pX11_step mL_X11_159 dX11_oneMinute_15 (Nat.le_of_ble_eq_true rfl) (Nat.le_of_ble_eq_true rfl) (Nat.lt_of_lt_of_le (by decide) hN) kd_140 rfl (rK_i ?_)
      refine g_iadd (pc := 18) dX11_oneMinute_18 ?_
      refine g_istore_n (pc := 19) (lv' := fun y => [(0, .ref (κ 0 + 140)), (1, .int y), (2, .int i2)]) dX11_oneMinute_19 rfl (Nat.le_of_ble_eq_true rfl) (fun _ => rfl) (fun x8 e9 => ?_)
      rw [lt_of e9] at h
      refine g_iinc (pc := 20) (lv' := fun y => [(0, .ref (κ 0 + 140)), (1, .int x8), (2, .int y)]) dX11_oneMinute_20 rfl (Nat.le_of_ble_eq_true rfl) (fun _ => rfl) (fun x10 e11 => ?_)
      rw [lt_of e11] at h
      refine g_goto (pc := 23) 4 dX11_oneMinute_23 (by decide) ?_
      refine g_lv (lv' := [(0, .ref (κ 0 + 140)), (1, .int x8), (2, .int x10)]) rfl ?_
      exact ih _ _ _ _ h k
set_option maxRecDepth 100000 in
set_option maxHeartbeats 4000000 in
theorem c_X11_oneMinute {κ : Nat → Nat} {N : Nat} (hN : 151 ≤ N)   (μ : gMem) {r : Int32} {μ' : gMem} (h : f_X11_oneMinute  μ = some (r, μ')) : CT2 κ N 5 yX11_oneMinute iX11_oneMinute [.ref (κ 0 + 140)] μ (qI r μ') := by
  refine CT2.of (by decide) rfl rfl (Nat.le_of_ble_eq_true rfl) ?_
  unfold f_X11_oneMinute at h
  show RR κ N 5 iX11_oneMinute 0 [(0, .ref (κ 0 + 140))] [] μ _
  refine g_iconst (pc := 0) (v := (0 : Int32)) dX11_oneMinute_0 rfl ?_
  refine g_istore_n (pc := 1) (lv' := fun y => [(0, .ref (κ 0 + 140)), (1, .int y)]) dX11_oneMinute_1 rfl (Nat.le_of_ble_eq_true rfl) (fun _ => rfl) (fun y1 e2 => ?_)
  rw [e2]
  refine g_iconst (pc := 2) (v := (0 : Int32)) dX11_oneMinute_2 rfl ?_
  refine g_istore_n (pc := 3) (lv' := fun y => [(0, .ref (κ 0 + 140)), (1, .int (0 : Int32)), (2, .int y)]) dX11_oneMinute_3 rfl (Nat.le_of_ble_eq_true rfl) (fun _ => rfl) (fun y3 e4 => ?_)
  rw [e4]
  obtain ⟨p12, hp13, h⟩ := Option.bind_eq_some_iff.mp h
  refine cl_X11_oneMinute_4 hN   gF (0 : Int32) (0 : Int32) _ _ hp13 ?_
  refine g_aload_n (pc := 26) dX11_oneMinute_26 rfl rfl ?_
  refine gf_X11_13 (pc := 27) rfl dX11_oneMinute_27 (Nat.lt_of_lt_of_le (by decide) hN) kd_140 ?_
  refine g_bipush (pc := 30) (v := (34 : Int32)) dX11_oneMinute_30 rfl ?_
  refine g_dup2 (pc := 32) dX11_oneMinute_32 rfl rfl ?_
  refine r_iald (pc := 33) 35 dX11_oneMinute_33 (Nat.lt_of_lt_of_le (by decide) hN) kd_142 ln_142 (by decide) ?_
  refine g_iload_n (pc := 34) dX11_oneMinute_34 rfl rfl ?_
  refine g_iadd (pc := 35) dX11_oneMinute_35 ?_
  refine r_iast (pc := 36) 35 dX11_oneMinute_36 (Nat.lt_of_lt_of_le (by decide) hN) kd_142 ln_142 (by decide) (fun m14 e15 => ?_)
  rw [lt_of e15] at h
  refine g_aload_n (pc := 37) dX11_oneMinute_37 rfl rfl ?_
  refine gf_X11_13 (pc := 38) rfl dX11_oneMinute_38 (Nat.lt_of_lt_of_le (by decide) hN) kd_140 ?_
  refine g_bipush (pc := 41) (v := (31 : Int32)) dX11_oneMinute_41 rfl ?_
  refine r_iald (pc := 43) 35 dX11_oneMinute_43 (Nat.lt_of_lt_of_le (by decide) hN) kd_142 ln_142 (by decide) ?_
  refine g_iload_n (pc := 44) dX11_oneMinute_44 rfl rfl ?_
  refine g_iadd (pc := 45) dX11_oneMinute_45 ?_
  refine g_istore_n (pc := 46) (lv' := fun y => [(0, .ref (κ 0 + 140)), (1, .int p12.1), (2, .int y)]) dX11_oneMinute_46 rfl (Nat.le_of_ble_eq_true rfl) (fun _ => rfl) (fun x16 e17 => ?_)
  rw [lt_of e17] at h
  refine g_iload_n (pc := 47) dX11_oneMinute_47 rfl rfl ?_
  refine g_aload_n (pc := 48) dX11_oneMinute_48 rfl rfl ?_
  refine gf_X11_7 (pc := 49) rfl dX11_oneMinute_49 (Nat.lt_of_lt_of_le (by decide) hN) kd_140 ?_
  refine g_iconst (pc := 52) (v := (0 : Int32)) dX11_oneMinute_52 rfl ?_
  refine r_iald (pc := 53) 31 dX11_oneMinute_53 (Nat.lt_of_lt_of_le (by decide) hN) kd_141 ln_141 (by decide) ?_
  have key20 : ∀ x18 : Int32, x18 = (if x16 ≤ (m14 141 (0 : Int32).toNatClampNeg) then x16 else (m14 141 (0 : Int32).toNatClampNeg)) → RR κ N 5 iX11_oneMinute 67 [(0, .ref (κ 0 + 140)), (1, .int p12.1), (2, .int x16)] [.int x18] m14 (qI r μ') := by
    intro x18 e19
    rw [lt_of e19] at h
    refine g_istore_n (pc := 67) (lv' := fun y => [(0, .ref (κ 0 + 140)), (1, .int p12.1), (2, .int y)]) dX11_oneMinute_67 rfl (Nat.le_of_ble_eq_true rfl) (fun _ => rfl) (fun y21 e22 => ?_)
    rw [e22]
    refine g_aload_n (pc := 68) dX11_oneMinute_68 rfl rfl ?_
    refine gf_X11_13 (pc := 69) rfl dX11_oneMinute_69 (Nat.lt_of_lt_of_le (by decide) hN) kd_140 ?_
    refine g_bipush (pc := 72) (v := (33 : Int32)) dX11_oneMinute_72 rfl ?_
    refine g_dup2 (pc := 74) dX11_oneMinute_74 rfl rfl ?_
    refine r_iald (pc := 75) 35 dX11_oneMinute_75 (Nat.lt_of_lt_of_le (by decide) hN) kd_142 ln_142 (by decide) ?_
    refine g_iload_n (pc := 76) dX11_oneMinute_76 rfl rfl ?_
    refine g_aload_n (pc := 77) dX11_oneMinute_77 rfl rfl ?_
    refine gf_X11_7 (pc := 78) rfl dX11_oneMinute_78 (Nat.lt_of_lt_of_le (by decide) hN) kd_140 ?_
    refine g_iconst (pc := 81) (v := (0 : Int32)) dX11_oneMinute_81 rfl ?_
    refine r_iald (pc := 82) 31 dX11_oneMinute_82 (Nat.lt_of_lt_of_le (by decide) hN) kd_141 ln_141 (by decide) ?_
    have key25 : ∀ x23 : Int32, x23 = (if x18 = (m14 141 (0 : Int32).toNatClampNeg) then (1 : Int32) else (0 : Int32)) → RR κ N 5 iX11_oneMinute 91 [(0, .ref (κ 0 + 140)), (1, .int p12.1), (2, .int x18)] [.int x23, .int (m14 142 (33 : Int32).toNatClampNeg), .int (33 : Int32), .ref (κ 0 + 142)] m14 (qI r μ') := by
      intro x23 e24
      rw [lt_of e24] at h
      refine g_iadd (pc := 91) dX11_oneMinute_91 ?_
      refine r_iast (pc := 92) 35 dX11_oneMinute_92 (Nat.lt_of_lt_of_le (by decide) hN) kd_142 ln_142 (by decide) (fun m26 e27 => ?_)
      rw [lt_of e27] at h
      refine g_aload_n (pc := 93) dX11_oneMinute_93 rfl rfl ?_
      refine gf_X11_13 (pc := 94) rfl dX11_oneMinute_94 (Nat.lt_of_lt_of_le (by decide) hN) kd_140 ?_
      refine g_bipush (pc := 97) (v := (31 : Int32)) dX11_oneMinute_97 rfl ?_
      refine g_iload_n (pc := 99) dX11_oneMinute_99 rfl rfl ?_
      refine g_iload_n (pc := 100) dX11_oneMinute_100 rfl rfl ?_
      refine g_aload_n (pc := 101) dX11_oneMinute_101 rfl rfl ?_
      refine gf_X11_13 (pc := 102) rfl dX11_oneMinute_102 (Nat.lt_of_lt_of_le (by decide) hN) kd_140 ?_
      refine g_bipush (pc := 105) (v := (32 : Int32)) dX11_oneMinute_105 rfl ?_
      refine r_iald (pc := 107) 35 dX11_oneMinute_107 (Nat.lt_of_lt_of_le (by decide) hN) kd_142 ln_142 (by decide) ?_
      refine g_imul (pc := 108) dX11_oneMinute_108 ?_
      refine g_bipush (pc := 109) (v := (19 : Int32)) dX11_oneMinute_109 rfl ?_
      refine g_iadd (pc := 111) dX11_oneMinute_111 ?_
      refine g_bipush (pc := 112) (v := (20 : Int32)) dX11_oneMinute_112 rfl ?_
      refine g_idiv (pc := 114) dX11_oneMinute_114 (by decide) ?_
      refine g_isub (pc := 115) dX11_oneMinute_115 ?_
      refine r_iast (pc := 116) 35 dX11_oneMinute_116 (Nat.lt_of_lt_of_le (by decide) hN) kd_142 ln_142 (by decide) (fun m28 e29 => ?_)
      rw [lt_of e29] at h
      refine g_aload_n (pc := 117) dX11_oneMinute_117 rfl rfl ?_
      refine gf_X11_13 (pc := 118) rfl dX11_oneMinute_118 (Nat.lt_of_lt_of_le (by decide) hN) kd_140 ?_
      refine g_bipush (pc := 121) (v := (30 : Int32)) dX11_oneMinute_121 rfl ?_
      refine g_dup2 (pc := 123) dX11_oneMinute_123 rfl rfl ?_
      refine r_iald (pc := 124) 35 dX11_oneMinute_124 (Nat.lt_of_lt_of_le (by decide) hN) kd_142 ln_142 (by decide) ?_
      refine g_iconst (pc := 125) (v := (1 : Int32)) dX11_oneMinute_125 rfl ?_
      refine g_iadd (pc := 126) dX11_oneMinute_126 ?_
      refine r_iast (pc := 127) 35 dX11_oneMinute_127 (Nat.lt_of_lt_of_le (by decide) hN) kd_142 ln_142 (by decide) (fun m30 e31 => ?_)
      rw [lt_of e31] at h
      refine g_iload_n (pc := 128) dX11_oneMinute_128 rfl rfl ?_
      cases h
      exact r_iret dX11_oneMinute_129 rfl rfl rfl
    refine g_icmp_ne (pc := 83) 90 dX11_oneMinute_83 (by decide) (fun hc32 => ?_) (fun hc32 => ?_)
    · refine g_iconst (pc := 90) (v := (0 : Int32)) dX11_oneMinute_90 rfl ?_
      exact key25 _ (by rw [if_neg hc32])
    · refine g_iconst (pc := 86) (v := (1 : Int32)) dX11_oneMinute_86 rfl ?_
      refine g_goto (pc := 87) 91 dX11_oneMinute_87 (by decide) ?_
      exact key25 _ (by rw [if_pos hc32])
  refine g_icmp_le (pc := 54) 66 dX11_oneMinute_54 (by decide) (fun hc33 => ?_) (fun hc33 => ?_)
  · refine g_iload_n (pc := 66) dX11_oneMinute_66 rfl rfl ?_
    exact key20 _ (by rw [if_pos hc33])
  · refine g_aload_n (pc := 57) dX11_oneMinute_57 rfl rfl ?_
    refine gf_X11_7 (pc := 58) rfl dX11_oneMinute_58 (Nat.lt_of_lt_of_le (by decide) hN) kd_140 ?_
    refine g_iconst (pc := 61) (v := (0 : Int32)) dX11_oneMinute_61 rfl ?_
    refine r_iald (pc := 62) 31 dX11_oneMinute_62 (Nat.lt_of_lt_of_le (by decide) hN) kd_141 ln_141 (by decide) ?_
    refine g_goto (pc := 63) 67 dX11_oneMinute_63 (by decide) ?_
    exact key20 _ (by rw [if_neg hc33])

set_option maxRecDepth 100000 in
set_option maxHeartbeats 1000000 in
theorem k_X4_loop {κ : Nat → Nat} {w : gWd} {μ : gMem} {Q : gQ} {cr sr : Nat} (hz : ∀ q, 24 ≤ q → q < 81 → μ q = fun _ => 0)
    (k : G κ 3 iX4_init 40 [(0, .ref (κ 0 + 23)), (1, .int (nI 8))] [] 81 (xW κ 23 w μ 4 [.ref (κ 0 + 24), .int 0, .int 0]) cr sr Q) : ∀ (r s : Nat), s + r = 8 → G κ 3 iX4_init 15 [(0, .ref (κ 0 + 23)), (1, .int (nI s))] [] (25 + 7 * s) (va_up (xW κ 23 w μ 4 [.ref (κ 0 + 24), .int 0, .int 0]) 24 (.inl (κ 32, 8, .inr (.inr (.inr (.inr (prt κ 24 s))))))) (cr + 7 * r) (sr + 36 * r) Q := by
  have hro : ∀ j, rfA 24 j = 25 + 7 * j := fun j => by unfold rfA; rw [kd_24, if_pos rfl]
  intro r
  induction r with
  | zero =>
    intro s hs
    have e5 : s = 8 := by omega
    subst e5
    refine g_iload_n (pc := 15) dX4_init_15 rfl rfl ?_
    refine g_bipush (pc := 16) (v := (8 : Int32)) dX4_init_16 rfl ?_
    refine g_icmp_ge (pc := 18) 40 dX4_init_18 (by decide) (fun _ => ?_) (fun hc => absurd (by decide) hc)
    refine g_wc (fun q hq => ?_) k
    by_cases h1 : q = 24
    · subst h1
      rw [up_eq, xW_hi (by decide), wOf_row kd_24 (by decide) (by decide) ln_24]
    · rw [up_ne h1]
  | succ r ih =>
    intro s hs
    have hs5 : s < 8 := by omega
    have hks : kd (25 + 7 * s) = 5 := kd_past hs5
    have ih' := ih (s + 1) (by omega)
    refine g_room (cr' := cr + 7 * r + 7) (sr' := sr + 36 * r + 36) (by omega) (by omega) ?_
    refine g_iload_n (pc := 15) dX4_init_15 rfl rfl ?_
    refine g_bipush (pc := 16) (v := (8 : Int32)) dX4_init_16 rfl ?_
    refine g_icmp_ge (pc := 18) 40 dX4_init_18 (by decide) (fun hc => absurd hc (nI_ge (b := 8) hs5 (by decide))) (fun _ => ?_)
    refine g_aload_n (pc := 21) dX4_init_21 rfl rfl ?_
    refine g_get (pc := 22) 0 dX4_init_22 gC4 wF_X4_11 (by omega) (by rw [up_ne (by omega), xW_at]) (by decide) rfl ?_
    refine g_iload_n (pc := 25) dX4_init_25 rfl rfl ?_
    refine g_new (pc := 26) (cr := cr + 7 * r + 6) (sr := sr + 36 * r + 30) (fs := [.int 0, .int 0, .int 0, .int 0, .int 0, .null]) dX4_init_26 gC5 cK_X4_9 nK_X5 (fun j hj => by match j, hj with | 0, _ | 1, _ | 2, _ | 3, _ | 4, _ | 5, _ => rfl) ?_
    refine g_dup (pc := 29) dX4_init_29 rfl ?_
    refine g_callI (pc := 30) (As := []) (k_X5_init (a := 25 + 7 * s) (μ := μ) hks up_eq (fun q h1 h2 => hz q (by omega) (by omega))) dX4_init_30 yI_X5_init mL_X4_17 (Nat.le_of_ble_eq_true rfl) pX5_init (Nat.le_of_ble_eq_true rfl) (by omega) (by omega) (fun v n' w' h => ?_)
    obtain ⟨rfl, rfl, h⟩ := h
    refine g_room (cr' := cr + 7 * r) (sr' := sr + 36 * r) (by omega) (by omega) ?_
    refine g_wc h ?_
    refine g_aast (pc := 33) (t0 := 2) (a := 24) (b := 25 + 7 * s) (ci := 5) (r := (RX5, TX5, 6)) dX4_init_33 (by omega) (by unfold pw; rw [if_pos (by omega), up_ne (by omega), up_eq]) rfl (by omega) (by unfold pw; rw [if_neg (by omega)]; exact wOf_obj hks (by decide)) rfl (vp_in_nI hs5 (by decide)) ?_
    refine g_iinc (pc := 34) (fun y => [(0, .ref (κ 0 + 23)), (1, .int y)]) dX4_init_34 rfl (Nat.le_of_ble_eq_true rfl) (fun _ => rfl) (fun y ey => ?_)
    refine g_goto (pc := 37) 15 dX4_init_37 (by decide) ?_
    rw [show y = nI (s + 1) by rw [ey]; exact nI_inc s, cl5 (show s < 1000 by omega)]
    refine g_wc (fun q hq => ?_) ih'
    by_cases h1 : q = 24
    · subst h1
      rw [up_eq, up_eq, prt_up (hro s)]
    · rw [up_ne h1, up_ne h1]
      unfold pw
      by_cases h2 : q < 25 + 7 * s
      · rw [if_pos h2, up_ne (by omega), up_ne h1]
      · rw [if_neg h2, xW_hi (by omega)]
set_option maxHeartbeats 2000000 in
theorem k_X4_init {κ : Nat → Nat} {w : gWd} {μ : gMem} (hwa : w 23 = .inr (4, [.null, .int 0, .int 0])) (hz : ∀ q, 23 ≤ q → q < 81 → μ q = fun _ => 0) : CT κ 3 yX4_init iX4_init [.ref (κ 0 + 23)] 24 w 57 296 (qD 81 (pw κ 23 w μ)) := by
  have hfs : ([.ref (κ 0 + 24), .int 0, .int 0] : List Value) = gFs κ μ 23 4 := by
    show _ = ([.ref (κ 0 + 24), .int (μ 23 1), .int (μ 23 2)] : List Value)
    rw [hz 23 (by omega) (by omega)]
  refine CT.of (by decide) rfl rfl (Nat.le_of_ble_eq_true rfl) ?_
  show G κ 3 iX4_init 0 [(0, .ref (κ 0 + 23))] [] 24 w 57 296 _
  refine g_wc (xW_start (κ := κ) (μ := μ) hwa) ?_
  refine g_aload_n (pc := 0) dX4_init_0 rfl rfl ?_
  refine g_objInit (pc := 1) dX4_init_1 mL_X4_3 mObj (Nat.le_of_ble_eq_true rfl) (Nat.le_of_ble_eq_true rfl) ?_
  refine g_aload_n (pc := 4) dX4_init_4 rfl rfl ?_
  refine g_bipush (pc := 5) (v := (8 : Int32)) dX4_init_5 rfl ?_
  refine g_anew (pc := 7) (n := 24) (t0 := 2) (cr := 56) (sr := 288) 8 "SieveTub$Scene" dX4_init_7 rfl cK_X4_9 (fun U h => h.2.2.2.2.1) (by decide) rfl (by decide) ?_
  refine g_putF (pc := 10) 0 dX4_init_10 gC4 wF_X4_11 (by decide) (by rw [up_ne (by decide), xW_at]) (by decide) rfl rfl rfl rfl rfl (Nat.le_of_ble_eq_true rfl) ?_
  refine g_iconst (pc := 13) (v := (0 : Int32)) dX4_init_13 rfl ?_
  refine g_istore_n (pc := 14) (fun y => [(0, .ref (κ 0 + 23)), (1, .int y)]) dX4_init_14 rfl (Nat.le_of_ble_eq_true rfl) (fun _ => rfl) (fun y ey => ?_)
  rw [show y = nI 0 from ey]
  refine g_wc (fun q hq => ?_) (k_X4_loop (w := w) (μ := μ) (cr := 0) (sr := 0) (fun q h1 h2 => hz q (by omega) h2) (g_vret dX4_init_40 rfl ⟨rfl, rfl, fun q hq => by rw [xW_end kd_23 (by decide) hfs]⟩) 8 0 rfl)
  by_cases h1 : q = 23
  · subst h1
    rw [up_eq, up_ne (by decide), xW_at]
    rfl
  · rw [up_ne h1]
    by_cases h2 : q = 24
    · subst h2
      rw [up_eq, up_eq, prt_0]
    · rw [up_ne h2, up_ne h2, xW_lo (by omega), xW_lo (by omega)]
set_option maxRecDepth 100000 in
set_option maxHeartbeats 1000000 in
theorem k_X10_loop {κ : Nat → Nat} {w : gWd} {μ : gMem} {Q : gQ} {cr sr : Nat} (hz : ∀ q, 81 ≤ q → q < 96 → μ q = fun _ => 0)
    (k : G κ 4 iX10_init 93 [(0, .ref (κ 0 + 0)), (1, .int (nI 2))] [] 96 (xW κ 0 w μ 9 [.ref (κ 0 + 1), .ref (κ 0 + 8), .ref (κ 0 + 10), .ref (κ 0 + 16), .ref (κ 0 + 23), .ref (κ 0 + 81), .null, .null, .null, .null, .null, .int 0]) cr sr Q) : ∀ (r s : Nat), s + r = 2 → G κ 4 iX10_init 69 [(0, .ref (κ 0 + 0)), (1, .int (nI s))] [] (82 + 7 * s) (va_up (xW κ 0 w μ 9 [.ref (κ 0 + 1), .ref (κ 0 + 8), .ref (κ 0 + 10), .ref (κ 0 + 16), .ref (κ 0 + 23), .ref (κ 0 + 81), .null, .null, .null, .null, .null, .int 0]) 81 (.inl (κ 32, 2, .inr (.inr (.inr (.inr (prt κ 81 s))))))) (cr + 7 * r) (sr + 36 * r) Q := by
  have hro : ∀ j, rfA 81 j = 82 + 7 * j := fun j => by unfold rfA; rw [kd_81, if_pos rfl]
  intro r
  induction r with
  | zero =>
    intro s hs
    have e5 : s = 2 := by omega
    subst e5
    refine g_iload_n (pc := 69) dX10_init_69 rfl rfl ?_
    refine g_iconst (pc := 70) (v := (2 : Int32)) dX10_init_70 rfl ?_
    refine g_icmp_ge (pc := 71) 93 dX10_init_71 (by decide) (fun _ => ?_) (fun hc => absurd (by decide) hc)
    refine g_wc (fun q hq => ?_) k
    by_cases h1 : q = 81
    · subst h1
      rw [up_eq, xW_hi (by decide), wOf_row kd_81 (by decide) (by decide) ln_81]
    · rw [up_ne h1]
  | succ r ih =>
    intro s hs
    have hs5 : s < 2 := by omega
    have hks : kd (82 + 7 * s) = 5 := kd_kept hs5
    have ih' := ih (s + 1) (by omega)
    refine g_room (cr' := cr + 7 * r + 7) (sr' := sr + 36 * r + 36) (by omega) (by omega) ?_
    refine g_iload_n (pc := 69) dX10_init_69 rfl rfl ?_
    refine g_iconst (pc := 70) (v := (2 : Int32)) dX10_init_70 rfl ?_
    refine g_icmp_ge (pc := 71) 93 dX10_init_71 (by decide) (fun hc => absurd hc (nI_ge (b := 2) hs5 (by decide))) (fun _ => ?_)
    refine g_aload_n (pc := 74) dX10_init_74 rfl rfl ?_
    refine g_get (pc := 75) 5 dX10_init_75 gC9 wF_X10_44 (by omega) (by rw [up_ne (by omega), xW_at]) (by decide) rfl ?_
    refine g_iload_n (pc := 78) dX10_init_78 rfl rfl ?_
    refine g_new (pc := 79) (cr := cr + 7 * r + 6) (sr := sr + 36 * r + 30) (fs := [.int 0, .int 0, .int 0, .int 0, .int 0, .null]) dX10_init_79 gC5 cK_X10_30 nK_X5 (fun j hj => by match j, hj with | 0, _ | 1, _ | 2, _ | 3, _ | 4, _ | 5, _ => rfl) ?_
    refine g_dup (pc := 82) dX10_init_82 rfl ?_
    refine g_callI (pc := 83) (As := []) (k_X5_init (a := 82 + 7 * s) (μ := μ) hks up_eq (fun q h1 h2 => hz q (by omega) (by omega))) dX10_init_83 yI_X5_init mL_X10_32 (Nat.le_of_ble_eq_true rfl) pX5_init (Nat.le_of_ble_eq_true rfl) (by omega) (by omega) (fun v n' w' h => ?_)
    obtain ⟨rfl, rfl, h⟩ := h
    refine g_room (cr' := cr + 7 * r) (sr' := sr + 36 * r) (by omega) (by omega) ?_
    refine g_wc h ?_
    refine g_aast (pc := 86) (t0 := 2) (a := 81) (b := 82 + 7 * s) (ci := 5) (r := (RX5, TX5, 6)) dX10_init_86 (by omega) (by unfold pw; rw [if_pos (by omega), up_ne (by omega), up_eq]) rfl (by omega) (by unfold pw; rw [if_neg (by omega)]; exact wOf_obj hks (by decide)) rfl (vp_in_nI hs5 (by decide)) ?_
    refine g_iinc (pc := 87) (fun y => [(0, .ref (κ 0 + 0)), (1, .int y)]) dX10_init_87 rfl (Nat.le_of_ble_eq_true rfl) (fun _ => rfl) (fun y ey => ?_)
    refine g_goto (pc := 90) 69 dX10_init_90 (by decide) ?_
    rw [show y = nI (s + 1) by rw [ey]; exact nI_inc s, cl5 (show s < 1000 by omega)]
    refine g_wc (fun q hq => ?_) ih'
    by_cases h1 : q = 81
    · subst h1
      rw [up_eq, up_eq, prt_up (hro s)]
    · rw [up_ne h1, up_ne h1]
      unfold pw
      by_cases h2 : q < 82 + 7 * s
      · rw [if_pos h2, up_ne (by omega), up_ne h1]
      · rw [if_neg h2, xW_hi (by omega)]
def I0 (μ : gMem) : Prop := cSc μ 16 (0, 0, 2, 0, 0) (fun _ => z5) ∧ ∀ q, q ≠ 16 → (q < 18 ∨ 23 ≤ q) → μ q = tT Zm q
set_option maxRecDepth 100000 in
set_option maxHeartbeats 4000000 in
theorem k_X10_init {κ : Nat → Nat} {w : gWd} (hwa : w 0 = .inr (9, [.null, .null, .null, .null, .null, .null, .null, .null, .null, .null, .null, .int 0])) : CT κ 4 yX10_init iX10_init [.ref (κ 0 + 0)] 1 w 139 2404 (fun v n' w' => v = none ∧ n' = 140 ∧ ∃ μ, w' = wOf κ μ ∧ I0 μ) := by
  have hz : ∀ q, 2 ≤ q → q < 151 → tT Zm q = fun _ => 0 := fun q h _ => tT_z (by omega)
  obtain ⟨μS, hS1, hS2, hS3⟩ := c_anew5 16 2 (tT Zm)
  generalize hμ : tT Zm = μ at hz hS1 hS2 hS3
  refine CT.of (by decide) rfl rfl (Nat.le_of_ble_eq_true rfl) ?_
  show G κ 4 iX10_init 0 [(0, .ref (κ 0 + 0))] [] 1 w 139 2404 _
  refine g_wc (xW_start (κ := κ) (μ := μ) hwa) ?_
  refine g_aload_n (pc := 0) dX10_init_0 rfl rfl ?_
  refine g_objInit (pc := 1) dX10_init_1 mL_X10_1 mObj (Nat.le_of_ble_eq_true rfl) (Nat.le_of_ble_eq_true rfl) ?_
  refine g_aload_n (pc := 4) dX10_init_4 rfl rfl ?_
  refine g_new (pc := 5) (n := 1) (cr := 138) (sr := 2396) (fs := [.null, .int 0, .int 0, .int 0, .int 0, .int 0, .int 0, .int 0]) dX10_init_5 gC7 cK_X10_7 nK_X7 (fun j hj => by match j, hj with | 0, _ | 1, _ | 2, _ | 3, _ | 4, _ | 5, _ | 6, _ | 7, _ => rfl) ?_
  refine g_dup (pc := 8) dX10_init_8 rfl ?_
  refine g_callI (pc := 9) (As := []) (cr := 138) (sr := 2396) (k_X7_init (μ := Zm) up_eq (fun q _ _ => rfl)) dX10_init_9 yI_X7_init mL_X10_9 (Nat.le_of_ble_eq_true rfl) pX7_init (Nat.le_of_ble_eq_true rfl) (by decide) (by decide) (fun v n' w' h => ?_)
  obtain ⟨rfl, rfl, h⟩ := h
  rw [hμ] at h
  refine g_room (cr' := 132) (sr' := 2366) (by decide) (by decide) ?_
  refine g_wc (fun q hq => (h q hq).trans (xW_sub (by decide))) ?_
  refine x_putF (pc := 12) 0 dX10_init_12 gC9 wF_X10_10 (by decide) (by decide) rfl rfl rfl rfl rfl (Nat.le_of_ble_eq_true rfl) (fs' := [.ref (κ 0 + 1), .null, .null, .null, .null, .null, .null, .null, .null, .null, .null, .int 0]) rfl ?_
  refine g_aload_n (pc := 15) dX10_init_15 rfl rfl ?_
  refine g_new (pc := 16) (n := 8) (cr := 131) (sr := 2361) (fs := [.null, .int 0, .int 0, .int 0, .int 0]) dX10_init_16 gC3 cK_X10_16 nK_X3 (fun j hj => by match j, hj with | 0, _ | 1, _ | 2, _ | 3, _ | 4, _ => rfl) ?_
  refine g_dup (pc := 19) dX10_init_19 rfl ?_
  refine g_callI (pc := 20) (As := []) (cr := 131) (sr := 2361) (k_X3_init (μ := μ) up_eq (fun q h1 h2 => hz q (by omega) (by omega))) dX10_init_20 yI_X3_init mL_X10_18 (Nat.le_of_ble_eq_true rfl) pX3_init (Nat.le_of_ble_eq_true rfl) (by decide) (by decide) (fun v n' w' h => ?_)
  obtain ⟨rfl, rfl, h⟩ := h
  refine g_room (cr' := 130) (sr' := 2201) (by decide) (by decide) ?_
  refine g_wc (fun q hq => (h q hq).trans (xW_sub (by decide))) ?_
  refine x_putF (pc := 23) 1 dX10_init_23 gC9 wF_X10_19 (by decide) (by decide) rfl rfl rfl rfl rfl (Nat.le_of_ble_eq_true rfl) (fs' := [.ref (κ 0 + 1), .ref (κ 0 + 8), .null, .null, .null, .null, .null, .null, .null, .null, .null, .int 0]) rfl ?_
  refine g_aload_n (pc := 26) dX10_init_26 rfl rfl ?_
  refine g_new (pc := 27) (n := 10) (cr := 129) (sr := 2194) (fs := [.null, .null, .null, .null, .null, .int 0, .int 0]) dX10_init_27 gC0 cK_X10_23 nK_X0 (fun j hj => by match j, hj with | 0, _ | 1, _ | 2, _ | 3, _ | 4, _ | 5, _ | 6, _ => rfl) ?_
  refine g_dup (pc := 30) dX10_init_30 rfl ?_
  refine g_callI (pc := 31) (As := []) (cr := 129) (sr := 2194) (k_X0_init (μ := μ) up_eq (fun q h1 h2 => hz q (by omega) (by omega))) dX10_init_31 yI_X0_init mL_X10_25 (Nat.le_of_ble_eq_true rfl) pX0_init (Nat.le_of_ble_eq_true rfl) (by decide) (by decide) (fun v n' w' h => ?_)
  obtain ⟨rfl, rfl, h⟩ := h
  refine g_room (cr' := 124) (sr' := 2126) (by decide) (by decide) ?_
  refine g_wc (fun q hq => (h q hq).trans (xW_sub (by decide))) ?_
  refine x_putF (pc := 34) 2 dX10_init_34 gC9 wF_X10_26 (by decide) (by decide) rfl rfl rfl rfl rfl (Nat.le_of_ble_eq_true rfl) (fs' := [.ref (κ 0 + 1), .ref (κ 0 + 8), .ref (κ 0 + 10), .null, .null, .null, .null, .null, .null, .null, .null, .int 0]) rfl ?_
  refine g_aload_n (pc := 37) dX10_init_37 rfl rfl ?_
  refine g_new (pc := 38) (n := 16) (cr := 123) (sr := 2120) (fs := [.int 0, .int 0, .int 0, .int 0, .int 0, .null]) dX10_init_38 gC5 cK_X10_30 nK_X5 (fun j hj => by match j, hj with | 0, _ | 1, _ | 2, _ | 3, _ | 4, _ | 5, _ => rfl) ?_
  refine g_dup (pc := 41) dX10_init_41 rfl ?_
  refine g_callI (pc := 42) (As := []) (cr := 123) (sr := 2120) (k_X5_init (a := 16) (μ := μ) kd_16 up_eq (fun q h1 h2 => hz q (by omega) (by omega))) dX10_init_42 yI_X5_init mL_X10_32 (Nat.le_of_ble_eq_true rfl) pX5_init (Nat.le_of_ble_eq_true rfl) (by decide) (by decide) (fun v n' w' h => ?_)
  obtain ⟨rfl, rfl, h⟩ := h
  refine g_room (cr' := 117) (sr' := 2090) (by decide) (by decide) ?_
  refine g_wc (fun q hq => (h q hq).trans (xW_sub (by decide))) ?_
  refine x_putF (pc := 45) 3 dX10_init_45 gC9 wF_X10_33 (by decide) (by decide) rfl rfl rfl rfl rfl (Nat.le_of_ble_eq_true rfl) (fs' := [.ref (κ 0 + 1), .ref (κ 0 + 8), .ref (κ 0 + 10), .ref (κ 0 + 16), .null, .null, .null, .null, .null, .null, .null, .int 0]) rfl ?_
  refine g_aload_n (pc := 48) dX10_init_48 rfl rfl ?_
  refine g_new (pc := 49) (n := 23) (cr := 116) (sr := 2087) (fs := [.null, .int 0, .int 0]) dX10_init_49 gC4 cK_X10_37 nK_X4 (fun j hj => by match j, hj with | 0, _ | 1, _ | 2, _ => rfl) ?_
  refine g_dup (pc := 52) dX10_init_52 rfl ?_
  refine g_callI (pc := 53) (As := []) (cr := 116) (sr := 2087) (k_X4_init (μ := μ) up_eq (fun q h1 h2 => hz q (by omega) (by omega))) dX10_init_53 yI_X4_init mL_X10_39 (Nat.le_of_ble_eq_true rfl) pX4_init (Nat.le_of_ble_eq_true rfl) (by decide) (by decide) (fun v n' w' h => ?_)
  obtain ⟨rfl, rfl, h⟩ := h
  refine g_room (cr' := 59) (sr' := 1791) (by decide) (by decide) ?_
  refine g_wc (fun q hq => (h q hq).trans (xW_sub (by decide))) ?_
  refine x_putF (pc := 56) 4 dX10_init_56 gC9 wF_X10_40 (by decide) (by decide) rfl rfl rfl rfl rfl (Nat.le_of_ble_eq_true rfl) (fs' := [.ref (κ 0 + 1), .ref (κ 0 + 8), .ref (κ 0 + 10), .ref (κ 0 + 16), .ref (κ 0 + 23), .null, .null, .null, .null, .null, .null, .int 0]) rfl ?_
  refine g_aload_n (pc := 59) dX10_init_59 rfl rfl ?_
  refine g_iconst (pc := 60) (v := (2 : Int32)) dX10_init_60 rfl ?_
  refine g_anew (pc := 61) (n := 81) (t0 := 2) (cr := 58) (sr := 1789) 2 "SieveTub$Scene" dX10_init_61 rfl cK_X10_30 (fun U h => h.2.2.2.2.1) (by decide) rfl (by decide) ?_
  refine g_putF (pc := 64) 5 dX10_init_64 gC9 wF_X10_44 (by decide) (by rw [up_ne (by decide), xW_at]) (by decide) rfl rfl rfl rfl rfl (Nat.le_of_ble_eq_true rfl) ?_
  refine g_iconst (pc := 67) (v := (0 : Int32)) dX10_init_67 rfl ?_
  refine g_istore_n (pc := 68) (fun y => [(0, .ref (κ 0 + 0)), (1, .int y)]) dX10_init_68 rfl (Nat.le_of_ble_eq_true rfl) (fun _ => rfl) (fun y ey => ?_)
  rw [show y = nI 0 from ey]
  refine g_wc (w' := va_up (xW κ 0 w μ 9 [.ref (κ 0 + 1), .ref (κ 0 + 8), .ref (κ 0 + 10), .ref (κ 0 + 16), .ref (κ 0 + 23), .ref (κ 0 + 81), .null, .null, .null, .null, .null, .int 0]) 81 (.inl (κ 32, 2, .inr (.inr (.inr (.inr (prt κ 81 0))))))) (fun q hq => ?_) (k_X10_loop (w := w) (μ := μ) (cr := 44) (sr := 1717) (fun q h1 h2 => hz q (by omega) (by omega)) ?_ 2 0 rfl)
  · by_cases h1 : q = 0
    · subst h1
      rw [up_eq, up_ne (by decide), xW_at]
      rfl
    · rw [up_ne h1]
      by_cases h2 : q = 81
      · subst h2
        rw [up_eq, up_eq, prt_0]
      · rw [up_ne h2, up_ne h2, xW_hi (by omega), xW_hi (by omega)]
  refine g_aload_n (pc := 93) dX10_init_93 rfl rfl ?_
  refine g_iconst (pc := 94) (v := (2 : Int32)) dX10_init_94 rfl ?_
  refine x_bool (pc := 95) (n := 96) (cr := 43) (sr := 1715) 2 dX10_init_95 aK_bool (by decide) rfl (by decide) (by decide) kd_96 ln_96 (hz 96 (by omega) (by omega)) ?_
  refine x_putF (pc := 97) 6 dX10_init_97 gC9 wF_X10_48 (by decide) (by decide) rfl rfl rfl rfl rfl (Nat.le_of_ble_eq_true rfl) (fs' := [.ref (κ 0 + 1), .ref (κ 0 + 8), .ref (κ 0 + 10), .ref (κ 0 + 16), .ref (κ 0 + 23), .ref (κ 0 + 81), .ref (κ 0 + 96), .null, .null, .null, .null, .int 0]) rfl ?_
  refine g_aload_n (pc := 100) dX10_init_100 rfl rfl ?_
  refine g_new (pc := 101) (n := 97) (cr := 42) (sr := 1708) (fs := [.null, .null, .null, .null, .int 0, .int 0, .int 0]) dX10_init_101 gC2 cK_X10_52 nK_X2 (fun j hj => by match j, hj with | 0, _ | 1, _ | 2, _ | 3, _ | 4, _ | 5, _ | 6, _ => rfl) ?_
  refine g_dup (pc := 104) dX10_init_104 rfl ?_
  refine g_aload_n (pc := 105) dX10_init_105 rfl rfl ?_
  refine g_get (pc := 106) 0 dX10_init_106 gC9 wF_X10_10 (by decide) (by rw [up_ne (by decide), xW_at]) (by decide) rfl ?_
  refine g_callI (pc := 109) (As := [.ref (κ 0 + 1)]) (cr := 42) (sr := 1708) (k_X2_init (μ := μ) up_eq (fun q h1 h2 => hz q (by omega) (by omega))) dX10_init_109 yI_X2_init mL_X10_54 (Nat.le_of_ble_eq_true rfl) pX2_init (Nat.le_of_ble_eq_true rfl) (by decide) (by decide) (fun v n' w' h => ?_)
  obtain ⟨rfl, rfl, h⟩ := h
  refine g_room (cr' := 34) (sr' := 1103) (by decide) (by decide) ?_
  refine g_wc (fun q hq => (h q hq).trans (xW_sub (by decide))) ?_
  refine x_putF (pc := 112) 7 dX10_init_112 gC9 wF_X10_57 (by decide) (by decide) rfl rfl rfl rfl rfl (Nat.le_of_ble_eq_true rfl) (fs' := [.ref (κ 0 + 1), .ref (κ 0 + 8), .ref (κ 0 + 10), .ref (κ 0 + 16), .ref (κ 0 + 23), .ref (κ 0 + 81), .ref (κ 0 + 96), .ref (κ 0 + 97), .null, .null, .null, .int 0]) rfl ?_
  refine g_aload_n (pc := 115) dX10_init_115 rfl rfl ?_
  refine g_new (pc := 116) (n := 106) (cr := 33) (sr := 1093) (fs := [.null, .null, .null, .null, .null, .null, .int 0, .int 0, .int 0, .int 0]) dX10_init_116 gC1 cK_X10_61 nK_X1 (fun j hj => by match j, hj with | 0, _ | 1, _ | 2, _ | 3, _ | 4, _ | 5, _ | 6, _ | 7, _ | 8, _ | 9, _ => rfl) ?_
  refine g_dup (pc := 119) dX10_init_119 rfl ?_
  refine g_aload_n (pc := 120) dX10_init_120 rfl rfl ?_
  refine g_get (pc := 121) 0 dX10_init_121 gC9 wF_X10_10 (by decide) (by rw [up_ne (by decide), xW_at]) (by decide) rfl ?_
  refine g_callI (pc := 124) (As := [.ref (κ 0 + 1)]) (cr := 33) (sr := 1093) (k_X1_init (μ := μ) up_eq (fun q h1 h2 => hz q (by omega) (by omega))) dX10_init_124 yI_X1_init mL_X10_63 (Nat.le_of_ble_eq_true rfl) pX1_init (Nat.le_of_ble_eq_true rfl) (by decide) (by decide) (fun v n' w' h => ?_)
  obtain ⟨rfl, rfl, h⟩ := h
  refine g_room (cr' := 2) (sr' := 12) (by decide) (by decide) ?_
  refine g_wc (fun q hq => (h q hq).trans (xW_sub (by decide))) ?_
  refine x_putF (pc := 127) 8 dX10_init_127 gC9 wF_X10_64 (by decide) (by decide) rfl rfl rfl rfl rfl (Nat.le_of_ble_eq_true rfl) (fs' := [.ref (κ 0 + 1), .ref (κ 0 + 8), .ref (κ 0 + 10), .ref (κ 0 + 16), .ref (κ 0 + 23), .ref (κ 0 + 81), .ref (κ 0 + 96), .ref (κ 0 + 97), .ref (κ 0 + 106), .null, .null, .int 0]) rfl ?_
  refine g_aload_n (pc := 130) dX10_init_130 rfl rfl ?_
  refine g_bipush (pc := 131) (v := (6 : Int32)) dX10_init_131 rfl ?_
  refine x_int (pc := 133) (n := 138) (cr := 1) (sr := 6) 6 dX10_init_133 aK_int (by decide) rfl (by decide) (by decide) kd_138 ln_138 (hz 138 (by omega) (by omega)) ?_
  refine x_putF (pc := 135) 9 dX10_init_135 gC9 wF_X10_68 (by decide) (by decide) rfl rfl rfl rfl rfl (Nat.le_of_ble_eq_true rfl) (fs' := [.ref (κ 0 + 1), .ref (κ 0 + 8), .ref (κ 0 + 10), .ref (κ 0 + 16), .ref (κ 0 + 23), .ref (κ 0 + 81), .ref (κ 0 + 96), .ref (κ 0 + 97), .ref (κ 0 + 106), .ref (κ 0 + 138), .null, .int 0]) rfl ?_
  refine g_aload_n (pc := 138) dX10_init_138 rfl rfl ?_
  refine g_bipush (pc := 139) (v := (6 : Int32)) dX10_init_139 rfl ?_
  refine x_int (pc := 141) (n := 139) (cr := 0) (sr := 0) 6 dX10_init_141 aK_int (by decide) rfl (by decide) (by decide) kd_139 ln_139 (hz 139 (by omega) (by omega)) ?_
  refine x_putF (pc := 143) 10 dX10_init_143 gC9 wF_X10_72 (by decide) (by decide) rfl rfl rfl rfl rfl (Nat.le_of_ble_eq_true rfl) (fs' := [.ref (κ 0 + 1), .ref (κ 0 + 8), .ref (κ 0 + 10), .ref (κ 0 + 16), .ref (κ 0 + 23), .ref (κ 0 + 81), .ref (κ 0 + 96), .ref (κ 0 + 97), .ref (κ 0 + 106), .ref (κ 0 + 138), .ref (κ 0 + 139), .int 0]) rfl ?_
  refine g_wc (w' := wOf κ μ) (fun q hq => ?_) ?_
  · by_cases h1 : q = 0
    · subst h1
      rw [xW_at, wOf_obj kd_0 (by decide), ← hμ]
      rfl
    · rw [xW_hi (by omega)]
  refine g_aload_n (pc := 146) dX10_init_146 rfl rfl ?_
  refine g_get (pc := 147) 3 dX10_init_147 gC9 wF_X10_33 (by decide) (wOf_obj kd_0 (by decide)) (by decide) rfl ?_
  refine g_aload_n (pc := 150) dX10_init_150 rfl rfl ?_
  refine g_get (pc := 151) 0 dX10_init_151 gC9 wF_X10_10 (by decide) (wOf_obj kd_0 (by decide)) (by decide) rfl ?_
  refine g_get (pc := 154) 5 (v := .int 2) dX10_init_154 gC7 wF_X10_75 (by decide) (wOf_obj kd_1 (by decide)) (by decide) (by rw [← hμ]; rfl) ?_
  refine g_callV (pc := 157) (As := [.int 2]) (b := 16) (ci := 5) (c_X5_startAnew (Nat.le_refl 140) 16 2 kd_16 μ hS1) dX10_init_157 yV_X5_startAnew mL_X10_79 (by decide) (wOf_obj kd_16 (by decide)) rfl (Nat.le_of_ble_eq_true rfl) pX5_startAnew (Nat.le_of_ble_eq_true rfl) (Nat.zero_le _) (Nat.zero_le _) (fun v n' w' h => ?_)
  obtain ⟨m, rfl, rfl, rfl, rfl⟩ := h
  exact g_vret (pc := 160) dX10_init_160 rfl ⟨rfl, rfl, _, rfl, hS2, fun q h1 h2 => by rw [hμ]; exact hS3 q h1 h2⟩

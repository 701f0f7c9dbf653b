theorem nK_X0 : Cond.instantiable RX0 7 ∈ lw_g ∧ Cond.initialized RX0 ∈ lw_g := ⟨lw_g_of 188 (by decide +kernel) rfl, lw_g_of 52 (by decide +kernel) rfl⟩
theorem nK_X1 : Cond.instantiable RX1 10 ∈ lw_g ∧ Cond.initialized RX1 ∈ lw_g := ⟨lw_g_of 359 (by decide +kernel) rfl, lw_g_of 59 (by decide +kernel) rfl⟩
theorem nK_X2 : Cond.instantiable RX2 7 ∈ lw_g ∧ Cond.initialized RX2 ∈ lw_g := ⟨lw_g_of 322 (by decide +kernel) rfl, lw_g_of 58 (by decide +kernel) rfl⟩
theorem nK_X3 : Cond.instantiable RX3 5 ∈ lw_g ∧ Cond.initialized RX3 ∈ lw_g := ⟨lw_g_of 162 (by decide +kernel) rfl, lw_g_of 51 (by decide +kernel) rfl⟩
theorem nK_X4 : Cond.instantiable RX4 3 ∈ lw_g ∧ Cond.initialized RX4 ∈ lw_g := ⟨lw_g_of 302 (by decide +kernel) rfl, lw_g_of 57 (by decide +kernel) rfl⟩
theorem nK_X5 : Cond.instantiable RX5 6 ∈ lw_g ∧ Cond.initialized RX5 ∈ lw_g := ⟨lw_g_of 234 (by decide +kernel) rfl, lw_g_of 55 (by decide +kernel) rfl⟩
theorem nK_X6 : Cond.instantiable RX6 5 ∈ lw_g ∧ Cond.initialized RX6 ∈ lw_g := ⟨lw_g_of 84 (by decide +kernel) rfl, lw_g_of 50 (by decide +kernel) rfl⟩
theorem nK_X7 : Cond.instantiable RX7 8 ∈ lw_g ∧ Cond.initialized RX7 ∈ lw_g := ⟨lw_g_of 77 (by decide +kernel) rfl, lw_g_of 49 (by decide +kernel) rfl⟩
theorem nK_X8 : Cond.instantiable RX8 5 ∈ lw_g ∧ Cond.initialized RX8 ∈ lw_g := ⟨lw_g_of 241 (by decide +kernel) rfl, lw_g_of 56 (by decide +kernel) rfl⟩
theorem nK_X10 : Cond.instantiable RX10 12 ∈ lw_g ∧ Cond.initialized RX10 ∈ lw_g := ⟨lw_g_of 69 (by decide +kernel) rfl, lw_g_of 48 (by decide +kernel) rfl⟩
theorem nK_X11 : Cond.instantiable RX11 20 ∈ lw_g ∧ Cond.initialized RX11 ∈ lw_g := ⟨lw_g_of 845 (by decide +kernel) rfl, lw_g_of 60 (by decide +kernel) rfl⟩
theorem aK_int : Cond.arrayClass .int ∈ lw_g := lw_g_of 186 (by decide +kernel) rfl
theorem aK_bool : Cond.arrayClass .boolean ∈ lw_g := lw_g_of 357 (by decide +kernel) rfl
theorem mL_X9_46 : Cond.methodLink RX9 46 ⟨"[LSieveTub$Word;", "clone", "()Ljava/lang/Object;"⟩ ∈ lw_g := lw_g_of 198 (by decide +kernel) rfl
theorem wClo : Cond.sameMethod "[LSieveTub$Word;" "java/lang/Object" "clone" "()Ljava/lang/Object;" ∈ lw_g ∧ Cond.native ⟨"java/lang/Object", "clone", "()Ljava/lang/Object;"⟩ ∈ lw_g ∧ Cond.instanceMethod ⟨"java/lang/Object", "clone", "()Ljava/lang/Object;"⟩ ∈ lw_g ∧ Cond.selects "[LSieveTub$Word;" ⟨"[LSieveTub$Word;", "clone", "()Ljava/lang/Object;"⟩ ⟨"java/lang/Object", "clone", "()Ljava/lang/Object;"⟩ ∈ lw_g := ⟨lw_g_of 199 (by decide +kernel) rfl, lw_g_of 200 (by decide +kernel) rfl, lw_g_of 201 (by decide +kernel) rfl, lw_g_of 202 (by decide +kernel) rfl⟩
theorem k_X8_init {κ : Nat → Nat} {n : Nat} {w : gWd} {b : Nat} : CT κ 1 yX8_init iX8_init [.ref b] n w 0 0 (fun v n' w' => v = none ∧ n' = n ∧ w' = w) := by
  refine CT.of (by decide) rfl rfl (Nat.le_of_ble_eq_true rfl) ?_
  show G κ 1 iX8_init 0 [(0, .ref b)] [] n w 0 0 _
  refine g_aload_n (pc := 0) dX8_init_0 rfl rfl ?_
  refine g_objInit (pc := 1) dX8_init_1 mL_X8_3 mObj (Nat.le_of_ble_eq_true rfl) (Nat.le_of_ble_eq_true rfl) ?_
  exact g_vret (pc := 4) dX8_init_4 rfl ⟨rfl, rfl, rfl⟩
theorem k_X6_init {κ : Nat → Nat} {n : Nat} {w : gWd} {b : Nat} : CT κ 1 yX6_init iX6_init [.ref b] n w 0 0 (fun v n' w' => v = none ∧ n' = n ∧ w' = w) := by
  refine CT.of (by decide) rfl rfl (Nat.le_of_ble_eq_true rfl) ?_
  show G κ 1 iX6_init 0 [(0, .ref b)] [] n w 0 0 _
  refine g_aload_n (pc := 0) dX6_init_0 rfl rfl ?_
  refine g_objInit (pc := 1) dX6_init_1 mL_X6_3 mObj (Nat.le_of_ble_eq_true rfl) (Nat.le_of_ble_eq_true rfl) ?_
  exact g_vret (pc := 4) dX6_init_4 rfl ⟨rfl, rfl, rfl⟩
theorem k_X9_values {κ : Nat → Nat} {n : Nat} {w : gWd} : CT κ 1 yX9_values iX9_values [] n w 1 12 (fun v n' w' => v = some (.ref (κ 0 + n)) ∧ n' = n + 1 ∧ w' = va_up w n (.inl (κ 36, xWd κ))) := by
  refine CT.of (by decide) rfl rfl (Nat.le_of_ble_eq_true rfl) ?_
  show G κ 1 iX9_values 0 [] [] n w 1 12 _
  refine g_gets (pc := 0) dX9_values_0 (fun _ _ z => z.2.2.1.1) wF_X9_42 ?_
  refine g_clone (pc := 3) (cr := 0) (sr := 0) dX9_values_3 mL_X9_46 wClo (Nat.le_of_ble_eq_true rfl) (Nat.le_of_ble_eq_true rfl) ?_
  refine g_castW (pc := 6) dX9_values_6 cK_X9_47 (by omega) up_eq ?_
  exact g_aret (pc := 9) dX9_values_9 rfl (Or.inr ⟨_, rfl⟩) ⟨rfl, rfl, rfl⟩
set_option maxHeartbeats 1000000 in
theorem k_X5_loop {κ : Nat → Nat} {a : Nat} {w : gWd} {μ : gMem} {Q : gQ} (ha : kd a = 5) (k1 : kd (a + 1) = 24) (k2 : ln (a + 1) = 5) (k3 : ∀ j, j < 5 → kd (a + 2 + j) = 8) (hz : ∀ q, a ≤ q → q < a + 7 → μ q = fun _ => 0)
    (k : G κ 2 iX5_init 38 [(0, .ref (κ 0 + a)), (1, .int (nI 5))] [] (a + 7) (pw κ a w μ) 0 0 Q) : ∀ (r s : Nat), s + r = 5 → G κ 2 iX5_init 14 [(0, .ref (κ 0 + a)), (1, .int (nI s))] [] (a + 2 + s) (va_up (xW κ a w μ 5 [.int 0, .int 0, .int 0, .int 0, .int 0, .ref (κ 0 + (a + 1))]) (a + 1) (.inl (κ 34, 5, .inr (.inr (.inr (.inr (prt κ (a + 1) s))))))) r (5 * r) Q := by
  have hro : ∀ j, rfA (a + 1) j = a + 2 + j := fun j => by unfold rfA; rw [k1, if_neg (by decide)] <;> (try omega)
  have hfs : ([.int 0, .int 0, .int 0, .int 0, .int 0, .ref (κ 0 + (a + 1))] : List Value) = gFs κ μ a 5 := by
    show _ = ([.int (μ a 0), .int (μ a 1), .int (μ a 2), .int (μ a 3), .int (μ a 4), .ref (κ 0 + (a + 1))] : List Value)
    rw [hz a (by omega) (by omega)]
  intro r
  induction r with
  | zero =>
    intro s hs
    have e5 : s = 5 := by omega
    subst e5
    refine g_iload_n (pc := 14) dX5_init_14 rfl rfl ?_
    refine g_iconst (pc := 15) (v := (5 : Int32)) dX5_init_15 rfl ?_
    refine g_icmp_ge (pc := 16) 38 dX5_init_16 (by decide) (fun _ => ?_) (fun hc => absurd (by decide) hc)
    refine g_wc (fun q hq => ?_) k
    by_cases h1 : q = a + 1
    · subst h1
      rw [up_eq]
      unfold pw
      rw [if_neg (by omega), wOf_row k1 (by decide) (by decide) k2]
    · rw [up_ne h1, xW_end ha (by decide) hfs]
  | succ r ih =>
    intro s hs
    have hs5 : s < 5 := by omega
    have hks := k3 s hs5
    show G _ _ _ _ _ _ _ _ (r + 1) (5 * r + 5) _
    refine g_iload_n (pc := 14) dX5_init_14 rfl rfl ?_
    refine g_iconst (pc := 15) (v := (5 : Int32)) dX5_init_15 rfl ?_
    refine g_icmp_ge (pc := 16) 38 dX5_init_16 (by decide) (fun hc => absurd hc (nI_ge (b := 5) hs5 (by decide))) (fun _ => ?_)
    refine g_aload_n (pc := 19) dX5_init_19 rfl rfl ?_
    refine g_get (pc := 20) 5 dX5_init_20 gC5 wF_X5_11 (by omega) (by rw [up_ne (by omega), xW_at]) (by decide) rfl ?_
    refine g_iload_n (pc := 23) dX5_init_23 rfl rfl ?_
    refine g_new (pc := 24) (cr := r) (sr := 5 * r) (fs := [.int 0, .int 0, .int 0, .int 0, .int 0]) dX5_init_24 gC8 cK_X5_9 nK_X8 (fun j hj => by match j, hj with | 0, _ | 1, _ | 2, _ | 3, _ | 4, _ => rfl) ?_
    refine g_dup (pc := 27) dX5_init_27 rfl ?_
    refine g_callIN (pc := 28) (As := []) (k_X8_init (b := κ 0 + (a + 2 + s))) dX5_init_28 yI_X8_init (fun U h => h.1.2.1) (Nat.le_of_ble_eq_true rfl) pX8_init (Nat.le_of_ble_eq_true rfl) (Nat.zero_le _) (Nat.zero_le _) (fun v n' w' h => ?_)
    obtain ⟨rfl, rfl, rfl⟩ := h
    refine g_aast (pc := 31) (t0 := 4) (a := a + 1) (b := a + 2 + s) (ci := 8) (r := (RX8, TX8, 5)) dX5_init_31 (by omega) (by rw [up_ne (by omega), up_eq]) rfl (by omega) up_eq rfl (vp_in_nI hs5 (by decide)) ?_
    refine g_iinc (pc := 32) (fun y => [(0, .ref (κ 0 + a)), (1, .int y)]) dX5_init_32 rfl (Nat.le_of_ble_eq_true rfl) (fun _ => rfl) (fun y ey => ?_)
    refine g_goto (pc := 35) 14 dX5_init_35 (by decide) ?_
    rw [show y = nI (s + 1) by rw [ey]; exact nI_inc s, cl5 (show s < 1000 by omega)]
    refine g_wc (fun q hq => ?_) (ih (s + 1) (by omega))
    by_cases h1 : q = a + 1
    · subst h1
      rw [up_eq, up_eq, prt_up (hro s)]
    · rw [up_ne h1, up_ne h1]
      by_cases h2 : q = a + 2 + s
      · subst h2
        rw [up_eq, xW_hi (by omega), wOf_obj hks (by decide)]
        show _ = (Sum.inr (8, ([.int (μ (a + 2 + s) 0), .int (μ (a + 2 + s) 1), .int (μ (a + 2 + s) 2), .int (μ (a + 2 + s) 3), .int (μ (a + 2 + s) 4)] : List Value)) : va_E)
        rw [hz (a + 2 + s) (by omega) (by omega)]
      · rw [up_ne h2, up_ne h1]
set_option maxHeartbeats 1000000 in
theorem k_X5_init {κ : Nat → Nat} {a : Nat} {w : gWd} {μ : gMem} (ha : kd a = 5) (hwa : w a = .inr (5, [.int 0, .int 0, .int 0, .int 0, .int 0, .null])) (hz : ∀ q, a ≤ q → q < a + 7 → μ q = fun _ => 0) : CT κ 2 yX5_init iX5_init [.ref (κ 0 + a)] (a + 1) w 6 30 (qD (a + 7) (pw κ a w μ)) := by
  obtain ⟨k1, k2, k3⟩ := kd_scene ha
  refine CT.of (by decide) rfl rfl (Nat.le_of_ble_eq_true rfl) ?_
  show G κ 2 iX5_init 0 [(0, .ref (κ 0 + a))] [] (a + 1) w 6 30 _
  refine g_aload_n (pc := 0) dX5_init_0 rfl rfl ?_
  refine g_objInit (pc := 1) dX5_init_1 mL_X5_3 mObj (Nat.le_of_ble_eq_true rfl) (Nat.le_of_ble_eq_true rfl) ?_
  refine g_aload_n (pc := 4) dX5_init_4 rfl rfl ?_
  refine g_iconst (pc := 5) (v := (5 : Int32)) dX5_init_5 rfl ?_
  refine g_anew (pc := 6) (t0 := 4) (cr := 5) (sr := 25) 5 "SieveTub$Walker" dX5_init_6 rfl cK_X5_9 (fun U h => h.2.2.2.1) (by decide) rfl (by decide) ?_
  refine g_putF (pc := 9) 5 dX5_init_9 gC5 wF_X5_11 (by omega) (by rw [up_ne (by omega)]; exact hwa) (by decide) rfl rfl rfl rfl rfl (by decide) ?_
  refine g_iconst (pc := 12) (v := (0 : Int32)) dX5_init_12 rfl ?_
  refine g_istore_n (pc := 13) (fun y => [(0, .ref (κ 0 + a)), (1, .int y)]) dX5_init_13 rfl (Nat.le_of_ble_eq_true rfl) (fun _ => rfl) (fun y ey => ?_)
  rw [show y = nI 0 from ey]
  refine g_wc (fun q hq => ?_) (k_X5_loop ha k1 k2 (fun j hj => by have := (kd_warr k1 hj).1; rw [show a + 1 + 1 + j = a + 2 + j by omega] at this; exact this) hz (g_vret dX5_init_38 rfl ⟨rfl, rfl, fun q hq => rfl⟩) 5 0 rfl)
  by_cases h1 : q = a
  · subst h1
    rw [up_eq, up_ne (by omega), xW_at]
    rfl
  · rw [up_ne h1]
    by_cases h2 : q = a + 1
    · subst h2
      rw [up_eq, up_eq, prt_0]
    · rw [up_ne h2, up_ne h2, xW_lo (by omega)]
set_option maxHeartbeats 1000000 in
theorem k_X7_loop {κ : Nat → Nat} {w : gWd} {μ : gMem} {Q : gQ} (ha : kd 1 = 7) (k1 : kd 2 = 23) (k2 : ln 2 = 5) (k3 : ∀ j, j < 5 → kd (3 + j) = 6) (hz : ∀ q, 1 ≤ q → q < 8 → μ q = fun _ => 0)
    (k : G κ 3 iX7_init 38 [(0, .ref (κ 0 + 1)), (1, .int (nI 5))] [] (8) (pw κ 1 w μ) 0 0 Q) : ∀ (r s : Nat), s + r = 5 → G κ 3 iX7_init 14 [(0, .ref (κ 0 + 1)), (1, .int (nI s))] [] (3 + s) (va_up (xW κ 1 w μ 7 [.ref (κ 0 + 2), .int 0, .int 0, .int 0, .int 0, .int 0, .int 0, .int 0]) 2 (.inl (κ 33, 5, .inr (.inr (.inr (.inr (prt κ 2 s))))))) r (5 * r) Q := by
  have hro : ∀ j, rfA 2 j = 3 + j := fun j => by unfold rfA; rw [k1, if_neg (by decide)] <;> (try omega)
  have hfs : ([.ref (κ 0 + 2), .int 0, .int 0, .int 0, .int 0, .int 0, .int 0, .int 0] : List Value) = gFs κ μ 1 7 := by
    show _ = ([.ref (κ 0 + 2), .int (μ 1 1), .int (μ 1 2), .int (μ 1 3), .int (μ 1 4), .int (μ 1 5), .int (μ 1 6), .int (μ 1 7)] : List Value)
    rw [hz 1 (by omega) (by omega)]
  intro r
  induction r with
  | zero =>
    intro s hs
    have e5 : s = 5 := by omega
    subst e5
    refine g_iload_n (pc := 14) dX7_init_14 rfl rfl ?_
    refine g_iconst (pc := 15) (v := (5 : Int32)) dX7_init_15 rfl ?_
    refine g_icmp_ge (pc := 16) 38 dX7_init_16 (by decide) (fun _ => ?_) (fun hc => absurd (by decide) hc)
    refine g_wc (fun q hq => ?_) k
    by_cases h1 : q = 2
    · subst h1
      rw [up_eq]
      unfold pw
      rw [if_neg (by omega), wOf_row k1 (by decide) (by decide) k2]
    · rw [up_ne h1, xW_end ha (by decide) hfs]
  | succ r ih =>
    intro s hs
    have hs5 : s < 5 := by omega
    have hks := k3 s hs5
    show G _ _ _ _ _ _ _ _ (r + 1) (5 * r + 5) _
    refine g_iload_n (pc := 14) dX7_init_14 rfl rfl ?_
    refine g_iconst (pc := 15) (v := (5 : Int32)) dX7_init_15 rfl ?_
    refine g_icmp_ge (pc := 16) 38 dX7_init_16 (by decide) (fun hc => absurd hc (nI_ge (b := 5) hs5 (by decide))) (fun _ => ?_)
    refine g_aload_n (pc := 19) dX7_init_19 rfl rfl ?_
    refine g_get (pc := 20) 0 dX7_init_20 gC7 wF_X7_11 (by omega) (by rw [up_ne (by omega), xW_at]) (by decide) rfl ?_
    refine g_iload_n (pc := 23) dX7_init_23 rfl rfl ?_
    refine g_new (pc := 24) (cr := r) (sr := 5 * r) (fs := [.int 0, .int 0, .int 0, .int 0, .int 0]) dX7_init_24 gC6 cK_X7_9 nK_X6 (fun j hj => by match j, hj with | 0, _ | 1, _ | 2, _ | 3, _ | 4, _ => rfl) ?_
    refine g_dup (pc := 27) dX7_init_27 rfl ?_
    refine g_callIN (pc := 28) (As := []) (k_X6_init (b := κ 0 + (3 + s))) dX7_init_28 yI_X6_init (fun U h => h.1.1) (Nat.le_of_ble_eq_true rfl) pX6_init (Nat.le_of_ble_eq_true rfl) (Nat.zero_le _) (Nat.zero_le _) (fun v n' w' h => ?_)
    obtain ⟨rfl, rfl, rfl⟩ := h
    refine g_aast (pc := 31) (t0 := 3) (a := 2) (b := 3 + s) (ci := 6) (r := (RX6, TX6, 5)) dX7_init_31 (by omega) (by rw [up_ne (by omega), up_eq]) rfl (by omega) up_eq rfl (vp_in_nI hs5 (by decide)) ?_
    refine g_iinc (pc := 32) (fun y => [(0, .ref (κ 0 + 1)), (1, .int y)]) dX7_init_32 rfl (Nat.le_of_ble_eq_true rfl) (fun _ => rfl) (fun y ey => ?_)
    refine g_goto (pc := 35) 14 dX7_init_35 (by decide) ?_
    rw [show y = nI (s + 1) by rw [ey]; exact nI_inc s, cl5 (show s < 1000 by omega)]
    refine g_wc (fun q hq => ?_) (ih (s + 1) (by omega))
    by_cases h1 : q = 2
    · subst h1
      rw [up_eq, up_eq, prt_up (hro s)]
    · rw [up_ne h1, up_ne h1]
      by_cases h2 : q = 3 + s
      · subst h2
        rw [up_eq, xW_hi (by omega), wOf_obj hks (by decide)]
        show _ = (Sum.inr (6, ([.int (μ (3 + s) 0), .int (μ (3 + s) 1), .int (μ (3 + s) 2), .int (μ (3 + s) 3), .int (μ (3 + s) 4)] : List Value)) : va_E)
        rw [hz (3 + s) (by omega) (by omega)]
      · rw [up_ne h2, up_ne h1]
theorem k_setFrost {κ : Nat → Nat} {n : Nat} {w : gWd} {μ : gMem} (hn : 2 ≤ n) (i1 i2 : Int32) : CT κ 1 yX7_setFrost iX7_setFrost [.ref (κ 0 + 1), .int i1, .int i2] n (pw κ 1 w μ) 0 0 (fun v n' w' => v = none ∧ n' = n ∧ w' = pw κ 1 w (st (st μ 1 6 i1) 1 7 i2)) := by
  refine CT.of (by decide) rfl rfl (Nat.le_of_ble_eq_true rfl) ?_
  show G κ 1 iX7_setFrost 0 [(0, .ref (κ 0 + 1)), (1, .int i1), (2, .int i2)] [] n (pw κ 1 w μ) 0 0 _
  refine g_aload_n (pc := 0) dX7_setFrost_0 rfl rfl ?_
  refine g_iload_n (pc := 1) dX7_setFrost_1 rfl rfl ?_
  refine p_putI (pc := 2) 6 gC7 (by decide) (fun _ => rfl) ⟨rfl, rfl⟩ wF_X7_41 dX7_setFrost_2 (Nat.le_refl 1) (by omega) kd_1 ?_
  refine g_aload_n (pc := 5) dX7_setFrost_5 rfl rfl ?_
  refine g_iload_n (pc := 6) dX7_setFrost_6 rfl rfl ?_
  refine p_putI (pc := 7) 7 gC7 (by decide) (fun _ => rfl) ⟨rfl, rfl⟩ wF_X7_44 dX7_setFrost_7 (Nat.le_refl 1) (by omega) kd_1 ?_
  exact g_vret (pc := 10) dX7_setFrost_10 rfl ⟨rfl, rfl, rfl⟩
theorem k_setAs {κ : Nat → Nat} {n : Nat} {w : gWd} {μ : gMem} (hn : 2 ≤ n) : CT κ 2 yX7_setAsAtFirst iX7_setAsAtFirst [.ref (κ 0 + 1)] n (pw κ 1 w μ) 0 0 (fun v n' w' => v = none ∧ n' = n ∧ w' = pw κ 1 w (tT μ)) := by
  refine CT.of (by decide) rfl rfl (Nat.le_of_ble_eq_true rfl) ?_
  show G κ 2 iX7_setAsAtFirst 0 [(0, .ref (κ 0 + 1))] [] n (pw κ 1 w μ) 0 0 _
  refine g_aload_n (pc := 0) dX7_setAsAtFirst_0 rfl rfl ?_
  refine g_iconst (pc := 1) (v := (0 : Int32)) dX7_setAsAtFirst_1 rfl ?_
  refine p_putI (pc := 2) 1 gC7 (by decide) (fun _ => rfl) ⟨rfl, rfl⟩ wF_X7_21 dX7_setAsAtFirst_2 (Nat.le_refl 1) (by omega) kd_1 ?_
  refine g_aload_n (pc := 5) dX7_setAsAtFirst_5 rfl rfl ?_
  refine g_iconst (pc := 6) (v := (0 : Int32)) dX7_setAsAtFirst_6 rfl ?_
  refine p_putI (pc := 7) 2 gC7 (by decide) (fun _ => rfl) ⟨rfl, rfl⟩ wF_X7_25 dX7_setAsAtFirst_7 (Nat.le_refl 1) (by omega) kd_1 ?_
  refine g_aload_n (pc := 10) dX7_setAsAtFirst_10 rfl rfl ?_
  refine g_iconst (pc := 11) (v := (3 : Int32)) dX7_setAsAtFirst_11 rfl ?_
  refine p_putI (pc := 12) 3 gC7 (by decide) (fun _ => rfl) ⟨rfl, rfl⟩ wF_X7_28 dX7_setAsAtFirst_12 (Nat.le_refl 1) (by omega) kd_1 ?_
  refine g_aload_n (pc := 15) dX7_setAsAtFirst_15 rfl rfl ?_
  refine g_bipush (pc := 16) (v := (50 : Int32)) dX7_setAsAtFirst_16 rfl ?_
  refine p_putI (pc := 18) 4 gC7 (by decide) (fun _ => rfl) ⟨rfl, rfl⟩ wF_X7_31 dX7_setAsAtFirst_18 (Nat.le_refl 1) (by omega) kd_1 ?_
  refine g_aload_n (pc := 21) dX7_setAsAtFirst_21 rfl rfl ?_
  refine g_iconst (pc := 22) (v := (2 : Int32)) dX7_setAsAtFirst_22 rfl ?_
  refine p_putI (pc := 23) 5 gC7 (by decide) (fun _ => rfl) ⟨rfl, rfl⟩ wF_X7_34 dX7_setAsAtFirst_23 (Nat.le_refl 1) (by omega) kd_1 ?_
  refine g_aload_n (pc := 26) dX7_setAsAtFirst_26 rfl rfl ?_
  refine g_iconst (pc := 27) (v := (-1 : Int32)) dX7_setAsAtFirst_27 rfl ?_
  refine g_iconst (pc := 28) (v := (-1 : Int32)) dX7_setAsAtFirst_28 rfl ?_
  refine g_callV (pc := 29) (As := [.int (-1), .int (-1)]) (b := 1) (ci := 7) (k_setFrost hn (-1) (-1)) dX7_setAsAtFirst_29 yV_X7_setFrost mL_X7_37 (by omega) (by unfold pw; rw [if_neg (by decide)]; exact wOf_obj kd_1 (by decide)) rfl (Nat.le_of_ble_eq_true rfl) pX7_setFrost (Nat.le_of_ble_eq_true rfl) (Nat.zero_le _) (Nat.zero_le _) (fun v n' w' h => ?_)
  obtain ⟨rfl, rfl, rfl⟩ := h
  exact g_vret (pc := 32) dX7_setAsAtFirst_32 rfl ⟨rfl, rfl, rfl⟩
set_option maxHeartbeats 1000000 in
theorem k_X7_init {κ : Nat → Nat} {w : gWd} {μ : gMem} (hwa : w 1 = .inr (7, [.null, .int 0, .int 0, .int 0, .int 0, .int 0, .int 0, .int 0])) (hz : ∀ q, 1 ≤ q → q < 8 → μ q = fun _ => 0) : CT κ 3 yX7_init iX7_init [.ref (κ 0 + 1)] 2 w 6 30 (qD 8 (pw κ 1 w (tT μ))) := by
  refine CT.of (by decide) rfl rfl (Nat.le_of_ble_eq_true rfl) ?_
  show G κ 3 iX7_init 0 [(0, .ref (κ 0 + 1))] [] 2 w 6 30 _
  refine g_aload_n (pc := 0) dX7_init_0 rfl rfl ?_
  refine g_objInit (pc := 1) dX7_init_1 mL_X7_3 mObj (Nat.le_of_ble_eq_true rfl) (Nat.le_of_ble_eq_true rfl) ?_
  refine g_aload_n (pc := 4) dX7_init_4 rfl rfl ?_
  refine g_iconst (pc := 5) (v := (5 : Int32)) dX7_init_5 rfl ?_
  refine g_anew (pc := 6) (t0 := 3) (cr := 5) (sr := 25) 5 "SieveTub$Sister" dX7_init_6 rfl cK_X7_9 (fun U h => h.2.2.1) (by decide) rfl (by decide) ?_
  refine g_putF (pc := 9) 0 dX7_init_9 gC7 wF_X7_11 (by omega) (by rw [up_ne (by omega)]; exact hwa) (by decide) rfl rfl rfl rfl rfl (by decide) ?_
  refine g_iconst (pc := 12) (v := (0 : Int32)) dX7_init_12 rfl ?_
  refine g_istore_n (pc := 13) (fun y => [(0, .ref (κ 0 + 1)), (1, .int y)]) dX7_init_13 rfl (Nat.le_of_ble_eq_true rfl) (fun _ => rfl) (fun y ey => ?_)
  rw [show y = nI 0 from ey]
  refine g_wc (fun q hq => ?_) (k_X7_loop (w := w) kd_1 kd_2 ln_2 (fun j hj => by have := (kd_sis hj).1; exact this) hz ?_ 5 0 rfl)
  · by_cases h1 : q = 1
    · subst h1
      rw [up_eq, up_ne (by omega), xW_at]
      rfl
    · rw [up_ne h1]
      by_cases h2 : q = 2
      · subst h2
        rw [up_eq, up_eq, prt_0]
      · rw [up_ne h2, up_ne h2, xW_lo (by omega)]
  · refine g_aload_n (pc := 38) dX7_init_38 rfl rfl ?_
    refine g_callV (pc := 39) (As := []) (b := 1) (ci := 7) (k_setAs (by decide)) dX7_init_39 yV_X7_setAsAtFirst mL_X7_18 (by omega) (by unfold pw; rw [if_neg (by decide)]; exact wOf_obj kd_1 (by decide)) rfl (Nat.le_of_ble_eq_true rfl) pX7_setAsAtFirst (Nat.le_of_ble_eq_true rfl) (Nat.zero_le _) (Nat.zero_le _) (fun v n' w' h => ?_)
    obtain ⟨rfl, rfl, rfl⟩ := h
    exact g_vret (pc := 42) dX7_init_42 rfl ⟨rfl, rfl, fun q hq => rfl⟩

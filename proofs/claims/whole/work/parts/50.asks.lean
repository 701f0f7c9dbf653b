def RO (o o' : Option (Int32 × gMem)) (μ ν : gMem) : Prop := ∃ (r : Int32) (μ' ν' : gMem), o = some (r, μ') ∧ o' = some (r, ν') ∧ Sim μ' ν' ∧ (∀ a, 140 ≤ a → μ' a = μ a) ∧ ∀ a, a < 140 → ν' a = ν a
theorem RO.ite {c : Prop} [Decidable c] {a b a' b' : Option (Int32 × gMem)} {μ ν : gMem} (h1 : c → RO a a' μ ν) (h2 : ¬ c → RO b b' μ ν) : RO (if c then a else b) (if c then a' else b') μ ν := by
  by_cases h : c
  · rw [if_pos h, if_pos h]; exact h1 h
  · rw [if_neg h, if_neg h]; exact h2 h
theorem RO.rf {μ ν : gMem} (h : Sim μ ν) {r r' : Int32} (e : r' = r) : RO (some (r, μ)) (some (r', ν)) μ ν := ⟨r, μ, ν, rfl, by rw [e], h, fun _ _ => rfl, fun _ _ => rfl⟩
def wkB (w : W5) : Nat → Int32
  | 0 => 0
  | n + 1 => if (w n).1 = 0 then wkB w n else wkB w n ||| ((1 : Int32) <<< (nI n &&& 31))
theorem wkB_more {w : W5} {c : Nat} (h : ∀ s, c ≤ s → s < 5 → w s = (0, 0, 0, 0, 0)) : ∀ n, c ≤ n → n ≤ 5 → wkB w n = wkB w c := by
  intro n
  induction n with
  | zero => intro h1 _; have : c = 0 := by omega
            subst this; rfl
  | succ n ih =>
    intro h1 h2
    by_cases hc : c = n + 1
    · rw [hc]
    · rw [wkB, h n (by omega) (by omega), if_pos rfl]
      exact ih (by omega) (by omega)
theorem c_workers (b : Nat) (μ : gMem) (x : V5) (w : W5) (hx : cSc μ b x w) : f_X5_workers b μ = some (wkB w 5, μ) := by
  have key : ∀ (n s : Nat), s ≤ 5 → 5 - s < n → l_X5_workers_4 b n (wkB w s) (nI s) μ = some (wkB w 5, nI 5, μ) := by
    intro n
    induction n with
    | zero => intro s _ h2; omega
    | succ n ih =>
      intro s h1 h2
      unfold l_X5_workers_4
      by_cases hs : s = 5
      · subst hs
        rw [if_pos (show (5 : Int32) ≤ nI 5 from Int32.le_refl _)]
      · rw [if_neg (show ¬ (5 : Int32) ≤ nI s from nI_ge (b := 5) (by omega) (by decide)), if_pos (inb5 (show s < 5 by omega) (by decide)), cl5 (by omega)]
        have e : μ (b + 1 + 1 + s) 0 = (w s).1 := by rw [← hx.2 s (by omega)]; rfl
        rw [e]
        have hI := ih (s + 1) (by omega) (by omega)
        simp only [lt, nI_inc]
        by_cases h0 : (w s).1 = 0
        · rw [if_pos h0]
          rw [wkB, if_pos h0] at hI
          exact hI
        · rw [if_neg h0]
          rw [wkB, if_neg h0] at hI
          exact hI
  unfold f_X5_workers
  have k0 : l_X5_workers_4 b gF 0 0 μ = some (wkB w 5, nI 5, μ) := key gF 0 (by omega) (by unfold gF; omega)
  rw [k0]
  rfl
theorem m_working (c : Nat) (hc : c ≤ 5) (ν : gMem) (h1 : ν 140 1 = nI c) (w : W5) (hw : ∀ s, s < c → ν 142 s = (w s).1) : f_X11_working ν = some (wkB w c, ν) := by
  have key : ∀ (n s : Nat), s ≤ c → c - s < n → l_X11_working_4 n (wkB w s) (nI s) ν = some (wkB w c, nI c, ν) := by
    intro n
    induction n with
    | zero => intro s _ h2; omega
    | succ n ih =>
      intro s h2 h3
      unfold l_X11_working_4
      rw [h1]
      by_cases hs : s = c
      · subst hs
        rw [if_pos (Int32.le_refl _)]
      · have hs5 : s < 5 := by omega
        rw [if_neg (nI_ge (by omega) (by omega)), if_pos (x0 hs5).2, (x0 hs5).1, hw s (by omega)]
        have hI := ih (s + 1) (by omega) (by omega)
        simp only [lt, nI_inc]
        by_cases h0 : (w s).1 = 0
        · rw [if_pos h0, Int32.or_zero]
          rw [wkB, if_pos h0] at hI
          exact hI
        · rw [if_neg h0]
          rw [wkB, if_neg h0] at hI
          exact hI
  unfold f_X11_working
  have k0 : l_X11_working_4 gF 0 0 ν = some (wkB w c, nI c, ν) := key gF 0 (by omega) (by unfold gF; omega)
  rw [k0]
  rfl
theorem s_count (i : Int32) {μ ν : gMem} (h : Sim μ ν) : Res (f_X10_count i) (f_X11_count i) μ ν := by
  obtain ⟨t, ⟨x, w, sc1, sc2, sc3⟩, ⟨p, u, hp, hu, a3, a4, a5, a6⟩, -, ⟨tx, x1, x2, x3, x4⟩, ⟨q, n1, n2, n3, n4⟩, -⟩ := id h
  obtain ⟨t1, t2, t3, ⟨g0, g1, g2, g3, g4, g5⟩, t5, t6, t7⟩ := id t
  show RO (f_X10_count i μ) (f_X11_count i ν) μ ν
  unfold f_X10_count f_X11_count
  rw [c_workers 16 μ x w sc1, m_working (cnt μ) t1 ν t3 w (fun s hs => (sc2.2 s (by omega)).1), wkB_more sc3.2.2.2.2 5 t1 (by omega)]
  simp only [Int32.reduceToNatClampNeg, Option.bind_some]
  have e0 : ν 142 30 = μ 16 0 := by have a := sc1.1; have b := sc2.1; rw [← a] at b; exact congrArg (fun v => v.1) b
  have e1 : ν 142 31 = μ 16 1 := by have a := sc1.1; have b := sc2.1; rw [← a] at b; exact congrArg (fun v => v.2.1) b
  have e2 : ν 142 32 = μ 16 2 := by have a := sc1.1; have b := sc2.1; rw [← a] at b; exact congrArg (fun v => v.2.2.1) b
  have e3 : ν 142 33 = μ 16 3 := by have a := sc1.1; have b := sc2.1; rw [← a] at b; exact congrArg (fun v => v.2.2.2.1) b
  have e4 : ν 142 34 = μ 16 4 := by have a := sc1.1; have b := sc2.1; rw [← a] at b; exact congrArg (fun v => v.2.2.2.2) b
  refine RO.ite (fun _ => RO.rf h (by rw [t2, t3])) (fun _ => RO.ite (fun _ => RO.rf h e0) (fun _ => RO.ite (fun _ => RO.rf h e1) (fun _ => RO.ite (fun _ => RO.rf h g0) (fun _ => RO.ite (fun _ => RO.rf h e2) (fun _ => RO.ite (fun _ => RO.rf h e3) (fun _ => RO.ite (fun _ => RO.rf h rfl) (fun _ => RO.ite (fun _ => RO.rf h e4) (fun _ => RO.ite (fun _ => RO.rf h (by rw [n2, n3])) (fun _ => RO.ite (fun _ => RO.rf h (by rw [a4, a5])) (fun _ => RO.ite (fun _ => RO.rf h (by rw [x2, x3])) (fun _ => RO.rf h rfl)))))))))))
theorem s_sister (i j : Int32) {μ ν : gMem} (h : Sim μ ν) : Res (f_X10_sister i j) (f_X11_sister i j) μ ν := by
  obtain ⟨t, ⟨x, w, sc1, sc2, sc3⟩, -⟩ := id h
  obtain ⟨t1, t2, t3, t4, t5, t6, t7⟩ := id t
  show RO (f_X10_sister i j μ) (f_X11_sister i j ν) μ ν
  unfold f_X10_sister f_X11_sister
  rw [e_isUnknown, t2, e_isSister _ t1 i ν t3]
  simp only [Option.bind_some, b01, b10]
  by_cases hk : i < 0 ∨ ¬ i < nI (cnt μ)
  · simp only [hk, if_true, not_true, if_false]
    exact RO.rf h rfl
  · simp only [hk, if_false, not_false_eq_true, if_true]
    obtain ⟨s, hs, rfl⟩ := known t1 hk
    have hs5 : s < 5 := by omega
    simp only [inb5 hs5 (by decide), if_true, cl5 (show s < 1000 by omega), (x0 hs5).1, (x0 hs5).2, (x5 hs5).1, (x5 hs5).2, (x15 hs5).1, (x15 hs5).2, (x20 hs5).1, (x20 hs5).2, e_mossOf hs5, Option.bind_some]
    have ew := sc1.2 s hs5
    have e18 : 17 + 1 + s = 16 + 2 + s := by omega
    have e3 : 2 + 1 + s = 3 + s := by omega
    rw [e18, e3]
    obtain ⟨r0, r5, r15, r20, r25, r10, rh, rd, rg⟩ := sc2.2 s hs5
    have ex : ν 142 30 = x.1 := by rw [← sc2.1]; rfl
    rw [← ex] at r25
    have f0 : μ (16 + 2 + s) 0 = (w s).1 := by rw [← ew]; rfl
    have f1 : μ (16 + 2 + s) 1 = (w s).2.1 := by rw [← ew]; rfl
    have f2 : μ (16 + 2 + s) 2 = (w s).2.2.1 := by rw [← ew]; rfl
    have f3 : μ (16 + 2 + s) 3 = (w s).2.2.2.1 := by rw [← ew]; rfl
    have f4 : μ (16 + 2 + s) 4 = (w s).2.2.2.2 := by rw [← ew]; rfl
    have tt := t5 s hs5
    refine RO.ite (fun e => ?_) (fun _ => RO.ite (fun e => ?_) (fun _ => RO.ite (fun e => ?_) (fun _ => RO.ite (fun e => ?_) (fun _ => RO.ite (fun e => ?_) (fun _ => RO.ite (fun _ => RO.rf h (by rw [r0, f0])) (fun _ => RO.ite (fun _ => RO.rf h (by rw [r5, f1])) (fun _ => RO.ite (fun _ => RO.rf h (by rw [r15, f2])) (fun _ => RO.ite (fun _ => RO.rf h (by rw [r20, f3])) (fun _ => RO.ite (fun _ => RO.rf h (by rw [r25, f4])) (fun _ => RO.rf h rfl))))))))))
    · rw [e, e_of0 hs5 ν]; exact RO.rf h (congrArg (fun v => v.1) tt)
    · rw [e, e_of1 hs5 ν]; exact RO.rf h (congrArg (fun v => v.2.1) tt)
    · rw [e, e_of2 hs5 ν]; exact RO.rf h (congrArg (fun v => v.2.2.1) tt)
    · rw [e, e_of3 hs5 ν]; exact RO.rf h (congrArg (fun v => v.2.2.2.1) tt)
    · rw [e, e_of4 hs5 ν]; exact RO.rf h (congrArg (fun v => v.2.2.2.2) tt)
theorem isS_ind (a b : Int32) (μ μ0 : gMem) : ∀ (n : Nat) (i j : Int32), l_X10_isSuch_S_5 a b n i j μ = ((l_X10_isSuch_S_5 a b n i j μ0).map (fun p => p.1)).map (fun r => (r, μ)) := by
  intro n
  induction n with
  | zero => intro i j; rfl
  | succ n ih =>
    intro i j
    unfold l_X10_isSuch_S_5
    simp only [lt]
    repeat' split
    all_goals first | rfl | exact ih _ _
theorem isV_ind (a b : Int32) (μ μ0 : gMem) : ∀ (n : Nat) (i j : Int32), l_X10_isSuch_V_5 a b n i j μ = ((l_X10_isSuch_V_5 a b n i j μ0).map (fun p => p.1)).map (fun r => (r, μ)) := by
  intro n
  induction n with
  | zero => intro i j; rfl
  | succ n ih =>
    intro i j
    unfold l_X10_isSuch_V_5
    simp only [lt]
    repeat' split
    all_goals first | rfl | exact ih _ _
theorem isS_tab : ∀ k : Nat, k ≤ 2 → ∀ j : Nat, j ≤ 3 → (l_X10_isSuch_S_5 (nI k + 1) (nI j) gF (nI k + 1) 0 (fun _ _ => 0)).map (fun p => p.1) = some (if nI j < 2 ∨ nI k = nI j - 1 then 1 else 0) := by decide +kernel
theorem isV_tab : ∀ k : Nat, k ≤ 3 → ∀ j : Nat, j ≤ 4 → (l_X10_isSuch_V_5 (nI k + 1) (nI j) gF (nI k + 1) 0 (fun _ _ => 0)).map (fun p => p.1) = some (if nI j = 0 ∨ nI j = nI k + 1 ∨ (¬ 3 ≤ nI k ∧ ¬ nI k + 1 < nI j) then 1 else 0) := by decide +kernel
theorem s_as (i j : Int32) {μ ν : gMem} (h : Sim μ ν) : Res (f_X10_as i j) (f_X11_as i j) μ ν := by
  obtain ⟨t, ⟨x, w, sc1, sc2, sc3⟩, -⟩ := id h
  obtain ⟨t1, t2, t3, t4, t5, t6, t7⟩ := id t
  show RO (f_X10_as i j μ) (f_X11_as i j ν) μ ν
  unfold f_X10_as f_X11_as
  rw [e_isUnknown, t2, e_isSister _ t1 i ν t3]
  simp only [Option.bind_some, b01, b10, e_isOutside, e_in0 j 0 3 ν 0 3 rfl rfl]
  by_cases hk : i < 0 ∨ ¬ i < nI (cnt μ)
  · simp only [hk, if_true, not_true, if_false]
    exact RO.rf h rfl
  · simp only [hk, if_false, not_false_eq_true, if_true]
    obtain ⟨s, hs, rfl⟩ := known t1 hk
    have hs5 : s < 5 := by omega
    have e3 : (Int32.ofNat 4) - (1 : Int32) = 3 := by decide
    rw [e3]
    by_cases hc : j < 0 ∨ ¬ j ≤ 3
    · simp only [hc, if_true, not_true, if_false]
      exact RO.rf h rfl
    · simp only [hc, if_false, not_false_eq_true, if_true]
      obtain ⟨q, hq, rfl⟩ := in0 (b := 3) (by decide) hc
      have hS : sok (mS (ν 141) s) := by rw [t5 s hs5]; exact t6 s hs
      obtain ⟨k, hk2, ek⟩ : ∃ k : Nat, k ≤ 2 ∧ (mS (ν 141) s).1 = nI k := by
        obtain ⟨hh, -⟩ := hS
        rcases hh with a | a | a
        · exact ⟨0, by omega, a⟩
        · exact ⟨1, by omega, a⟩
        · exact ⟨2, by omega, a⟩
      have ek' : μ (2 + 1 + s) 0 = nI k := by
        rw [← ek, t5 s hs5]
        show μ (2 + 1 + s) 0 = μ (3 + s) 0
        rw [show 2 + 1 + s = 3 + s by omega]
      unfold f_X10_isSuch_S
      simp only [inb5 hs5 (by decide), if_true, cl5 (show s < 1000 by omega), ek', isS_ind _ _ μ (fun _ _ => 0), isS_tab k hk2 q hq, Option.map_some, Option.bind_some, b01, e_walk, e_walkOf hs5 ν hS, e_of0 hs5 ν, ek]
      have ev : wkT (v5 (μ (2 + 1 + s))) (μ (17 + 1 + s) 3) = wkT (mS (ν 141) s) (ν 142 (20 + s)) := by
        rw [t5 s hs5, (sc2.2 s hs5).2.2.2.1, ← sc1.2 s hs5, show 2 + 1 + s = 3 + s by omega, show 17 + 1 + s = 16 + 2 + s by omega]
        rfl
      rw [ev]
      by_cases c1 : nI q < 2
      · simp only [c1, true_or, not_true, if_false, if_true]
        exact RO.rf h rfl
      · simp only [c1, false_or, if_false]
        by_cases c2 : nI k = nI q - 1
        · simp only [c2, not_true, if_false, if_true]
          exact RO.rf h rfl
        · simp only [c2, not_false_eq_true, if_false, if_true]
          exact RO.rf h rfl
theorem s_sieveAs (i j : Int32) {μ ν : gMem} (h : Sim μ ν) : Res (f_X10_sieveAs i j) (f_X11_sieveAs i j) μ ν := by
  obtain ⟨t, ⟨x, w, sc1, sc2, sc3⟩, -⟩ := id h
  obtain ⟨t1, t2, t3, t4, t5, t6, t7⟩ := id t
  show RO (f_X10_sieveAs i j μ) (f_X11_sieveAs i j ν) μ ν
  unfold f_X10_sieveAs f_X11_sieveAs
  rw [e_isUnknown, t2, e_isSister _ t1 i ν t3]
  simp only [Option.bind_some, b01, b10, e_isOutside, e_in0 j 0 4 ν 0 4 rfl rfl]
  by_cases hk : i < 0 ∨ ¬ i < nI (cnt μ)
  · simp only [hk, if_true, not_true, if_false]
    exact RO.rf h rfl
  · simp only [hk, if_false, not_false_eq_true, if_true]
    obtain ⟨s, hs, rfl⟩ := known t1 hk
    have hs5 : s < 5 := by omega
    have e3 : (Int32.ofNat 5) - (1 : Int32) = 4 := by decide
    rw [e3]
    by_cases hc : j < 0 ∨ ¬ j ≤ 4
    · simp only [hc, if_true, not_true, if_false]
      exact RO.rf h rfl
    · simp only [hc, if_false, not_false_eq_true, if_true]
      obtain ⟨q, hq, rfl⟩ := in0 (b := 4) (by decide) hc
      have hS : sok (mS (ν 141) s) := by rw [t5 s hs5]; exact t6 s hs
      obtain ⟨k, hk2, ek⟩ : ∃ k : Nat, k ≤ 3 ∧ (mS (ν 141) s).2.2.2.1 = nI k := by
        obtain ⟨-, -, -, hh, -⟩ := hS
        rcases hh with a | a | a | a
        · exact ⟨0, by omega, a⟩
        · exact ⟨1, by omega, a⟩
        · exact ⟨2, by omega, a⟩
        · exact ⟨3, by omega, a⟩
      have ek' : μ (2 + 1 + s) 3 = nI k := by
        rw [← ek, t5 s hs5]
        show μ (2 + 1 + s) 3 = μ (3 + s) 3
        rw [show 2 + 1 + s = 3 + s by omega]
      unfold f_X10_isSuch_V
      simp only [inb5 hs5 (by decide), if_true, cl5 (show s < 1000 by omega), ek', isV_ind _ _ μ (fun _ _ => 0), isV_tab k hk2 q hq, Option.map_some, Option.bind_some, b01, e_drip, e_dripOf hs5 ν hS, e_of3 hs5 ν, ek, lt, b10]
      have ev : drT (v5 (μ (2 + 1 + s))) = drT (mS (ν 141) s) := by
        rw [t5 s hs5, show 2 + 1 + s = 3 + s by omega]
      rw [ev]
      by_cases c1 : nI q = 0
      · simp only [c1, true_or, not_true, if_false, if_true]
        exact RO.rf h rfl
      · simp only [c1, false_or, if_false]
        by_cases c2 : nI q = nI k + 1
        · simp only [c2, true_or, not_true, if_false, if_true]
          exact RO.rf h rfl
        · simp only [c2, false_or, if_false]
          by_cases c3 : 3 ≤ nI k
          · simp only [c3, not_true, false_and, not_false_eq_true, if_true]
            exact RO.rf h rfl
          · by_cases c4 : nI k + 1 < nI q
            · simp only [c3, c4, not_true, and_false, not_false_eq_true, if_true, if_false]
              exact RO.rf h rfl
            · simp only [c3, c4, not_true, and_self, not_false_eq_true, if_true, if_false]
              exact RO.rf h rfl

theorem e_isSister (c : Nat) (hc : c ≤ 5) (i : Int32) (ν : gMem) (h1 : ν 140 1 = nI c) : f_X11_isSister i ν = some (if i < 0 ∨ ¬ i < nI c then 0 else 1, ν) := by
  unfold f_X11_isSister
  rw [h1, e_in]
  simp only [Option.bind_some]
  have hz : ((0 : Int64) = (0 : Int32).toInt64) := rfl
  rw [hz]
  simp only [i2l_lt]
  by_cases h : i < 0
  · simp [h]
  · have e : (nI c - 1 < i) ↔ ¬ i < nI c := by
      obtain ⟨k, hk, rfl⟩ := nI_of h
      rw [nI_ltI hk (by omega)]
      cases c with
      | zero =>
        have : nI 0 - 1 < nI k := by
          rw [Int32.lt_iff_toInt_lt, nI_toInt hk]
          have : (nI 0 - 1).toInt = -1 := by decide
          omega
        simp [this]
      | succ c =>
        rw [nI_pred, nI_ltI (by omega) hk]
        omega
    simp only [h, false_or, e]
theorem known {c : Nat} (hc : c ≤ 5) {i : Int32} (h : ¬ (i < 0 ∨ ¬ i < nI c)) : ∃ s : Nat, s < c ∧ i = nI s := by
  have h1 : ¬ i < 0 := fun z => h (Or.inl z)
  have h2 : i < nI c := Classical.byContradiction fun z => h (Or.inr z)
  obtain ⟨k, hk, rfl⟩ := nI_of h1
  exact ⟨k, (nI_ltI hk (by omega)).mp h2, rfl⟩
theorem Sim.deed {μ ν μ1 ν1 μ2 ν2 : gMem} (h : Sim μ ν) (hU : UInv μ1 ν1) (hc1 : ∀ q, q ≠ 23 → (q < 25 ∨ 81 ≤ q) → μ1 q = μ q) (hm1 : ∀ k, k ≠ 13 → ν1 140 k = ν 140 k) (hm2 : ∀ b, b ≠ 140 → b ≠ 145 → ν1 b = ν b) (hS : SC μ2 16 ν2 (ν2 142)) (hc2 : ∀ q, q ≠ 16 → (∀ s, s < 5 → q ≠ 16 + 2 + s) → μ2 q = μ1 q) (hm3 : ∀ b, b ≠ 142 → ν2 b = ν1 b) : Sim μ2 ν2 := by
  obtain ⟨t, -, -, k, x, n, z⟩ := h
  have c : ∀ q, q ≠ 23 → (q < 16 ∨ 81 ≤ q) → μ2 q = μ q := fun q h1 h2 => by rw [hc2 q (by omega) (fun s hs => by omega), hc1 q h1 (by omega)]
  have m : ∀ b, b ≠ 140 → b ≠ 145 → b ≠ 142 → ν2 b = ν b := fun b h1 h2 h3 => by rw [hm3 b h3, hm2 b h1 h2]
  have mk : ∀ k, k ≠ 13 → ν2 140 k = ν 140 k := fun k hk => by rw [hm3 140 (by decide), hm1 k hk]
  exact ⟨t.congr (c 1 (by decide) (by omega)) (fun s hs => c _ (by omega) (by omega)) (mk 1 (by decide)) (m 141 (by decide) (by decide) (by decide)), hS,
    hU.congr (hc2 1 (by decide) (fun s _ => by omega)) (hc2 23 (by decide) (fun s _ => by omega)) (fun a h1 h2 => hc2 a (by omega) (fun s _ => by omega)) (by rw [hm3 140 (by decide)]) (hm3 141 (by decide)) (hm3 145 (by decide)),
    k.congr (c 1 (by decide) (by omega)) (c 96 (by decide) (by omega)) (fun a h1 h2 => c a (by omega) (by omega)) (m 146 (by decide) (by decide) (by decide)) (m 141 (by decide) (by decide) (by decide)) (m 147 (by decide) (by decide) (by decide)),
    x.congr (by rw [c 8 (by decide) (by omega)]) (c 9 (by decide) (by omega)) (mk 4 (by decide)) (m 143 (by decide) (by decide) (by decide)),
    n.congr (by rw [c 0 (by decide) (by omega)]) (c 138 (by decide) (by omega)) (c 139 (by decide) (by omega)) (mk 19 (by decide)) (m 150 (by decide) (by decide) (by decide)),
    z.congr (fun k _ => by rw [c 129 (by decide) (by omega)])⟩
def upW (w : W5) (s : Nat) (v : V5) : W5 := fun j => if j = s then v else w j
theorem mrep_other {S : V5} {R R' : Nat → Int32} {s j : Nat} {mn : Int32} {w : V5} (hs : s < 5) (hj : j < 5) (hne : j ≠ s) (h : ∀ k, k < 30 → k ≠ s → k ≠ 5 + s → k ≠ 10 + s → k ≠ 15 + s → k ≠ 20 + s → k ≠ 25 + s → R' k = R k) (hr : mrep S R j mn w) : mrep S R' j mn w := mrep_congr (fun q hq => h _ (by omega) (by omega) (by omega) (by omega) (by omega) (by omega) (by omega)) hr
theorem s_begin (i : Int32) {μ ν : gMem} (h : Sim μ ν) : Res (f_X10_begin i) (f_X11_begin i) μ ν := by
  obtain ⟨t, ⟨x, w, sc1, sc2, sc3⟩, -⟩ := id h
  obtain ⟨t1, t2, t3, t4, t5, t6, t7⟩ := id t
  generalize hcc : cnt μ = c at *
  unfold Res f_X10_begin f_X11_begin
  rw [e_isUnknown, t2, e_isSister c t1 i ν t3]
  simp only [Option.bind_some, b01, b10]
  by_cases hk : i < 0 ∨ ¬ i < nI c
  · simp only [hk, if_true, not_true, if_false]
    exact ⟨-2, μ, ν, rfl, rfl, h, fun _ _ => rfl, fun _ _ => rfl⟩
  · simp only [hk, if_false, not_false_eq_true, if_true]
    obtain ⟨s, hs, rfl⟩ := known t1 hk
    have hs5 : s < 5 := by omega
    simp only [inb5 hs5 (by decide), if_true, cl5 (show s < 1000 by omega), (x0 hs5).1, (x0 hs5).2]
    have ew := sc1.2 s hs5
    have e18 : 17 + 1 + s = 16 + 2 + s := by omega
    have e3 : 2 + 1 + s = 3 + s := by omega
    rw [e18, e3]
    have eh : μ (16 + 2 + s) 0 = (w s).1 := by rw [← ew]; rfl
    have er := sc2.2 s hs5
    have er0 : ν 142 s = (w s).1 := er.1
    rw [eh, er0]
    by_cases h0 : (w s).1 = 0
    · simp only [h0, if_true]
      obtain ⟨μ1, ν1, p1, p2, p3, p4, p5, p6⟩ := s_push h
      obtain ⟨μ2, d1, d2, d3⟩ := e_draw (w := 16 + 2 + s) (s := 3 + s) (by omega) μ1
      have e141 : ν1 141 = ν 141 := p6 141 (by decide) (by decide)
      have hS : sok (mS (ν1 141) s) := by rw [e141, t5 s hs5]; exact t6 s hs
      obtain ⟨ν2, g1, g2, g3, g4, g5, g6, g7⟩ := m_draws hs5 ν1 hS
      have q1 : μ1 (3 + s) = μ (3 + s) := p4 _ (by omega) (by omega)
      have q2 : μ1 (16 + 2 + s) = μ (16 + 2 + s) := p4 _ (by omega) (by omega)
      have e142 : ν1 142 = ν 142 := p6 142 (by decide) (by decide)
      rw [q1, q2, ew] at d2
      rw [e141, e142, t5 s hs5] at g5 g6
      rw [e141, t5 s hs5] at g7
      have er20 : ν 142 (20 + s) = (w s).2.2.2.1 := er.2.2.2.1
      rw [er20] at g5 g6
      rw [p1, p2]
      simp only [Option.bind_some, d1, g1, (x5 hs5).1, (x5 hs5).2, if_true]
      have ed1 : μ2 (16 + 2 + s) 1 = wkT (v5 (μ (3 + s))) (w s).2.2.2.1 := by
        have : (v5 (μ2 (16 + 2 + s))).2.1 = μ2 (16 + 2 + s) 1 := rfl
        rw [← this, d2]
        rfl
      refine ⟨_, μ2, ν2, by rw [ed1], by rw [g5], ?_, fun a ha => by rw [d3 a (by omega), p4 a (by omega) (by omega)], fun a ha => by rw [g3 a (by omega), p6 a (by omega) (by omega)]⟩
      refine h.deed p3 p4 p5 p6 ?_ (fun q _ hq => d3 q (hq s hs5)) g3
      have k1 : μ2 1 = μ 1 := by rw [d3 1 (by omega), p4 1 (by decide) (by omega)]
      refine ⟨x, upW w s (drawT (v5 (μ (3 + s))) (w s)), ⟨by rw [d3 16 (by omega), p4 16 (by decide) (by omega)]; exact sc1.1, fun j hj => ?_⟩, ⟨?_, fun j hj => ?_⟩, ?_⟩
      · unfold upW
        by_cases hjs : j = s
        · subst hjs
          rw [if_pos rfl]
          exact d2
        · rw [if_neg hjs, d3 _ (by omega), p4 _ (by omega) (by omega)]
          exact sc1.2 j hj
      · rw [← sc2.1]
        simp only [v5]
        rw [g2 _ (by omega) (by omega) (by omega) (by omega), g2 _ (by omega) (by omega) (by omega) (by omega), g2 _ (by omega) (by omega) (by omega) (by omega), g2 _ (by omega) (by omega) (by omega) (by omega), g2 _ (by omega) (by omega) (by omega) (by omega), e142]
      · have eT : ν2 141 = ν 141 := by rw [g3 141 (by decide), e141]
        rw [eT]
        unfold upW
        by_cases hjs : j = s
        · subst hjs
          rw [if_pos rfl, t5 j hj]
          obtain ⟨r0, r5, r15, r20, r25, r10, rh, rd, rg⟩ := er
          have q20 : ν2 142 (20 + j) = ν 142 (20 + j) := by rw [g2 _ (by omega) (by omega) (by omega) (by omega), e142]
          have q25 : ν2 142 (25 + j) = ν 142 (25 + j) := by rw [g2 _ (by omega) (by omega) (by omega) (by omega), e142]
          exact ⟨g4, g5, g7, by rw [q20]; exact r20, by rw [q25]; exact r25, fun _ => g6, Or.inr (Or.inl rfl), fun z => absurd z i12, by rw [q25]; exact rg⟩
        · rw [if_neg hjs]
          exact mrep_other hs5 hj hjs (fun k _ a1 a2 a3 a4 _ _ => by rw [g2 k a1 a2 a3 a4, e142]) (sc2.2 j hj)
      · obtain ⟨o1, o2, o3, o4, o5⟩ := sc3
        have hcn : cnt μ2 = c := by unfold cnt; rw [k1]; exact hcc
        rw [hcn, k1]
        refine ⟨o1, o2, o3, fun j hj => ?_, fun j hj hj5 => ?_⟩
        · unfold upW
          by_cases hjs : j = s
          · rw [if_pos hjs]
            obtain ⟨-, -, ⟨k, hk1, hk2⟩, -⟩ := t6 s hs
            exact ⟨k, hk1, hk2⟩
          · rw [if_neg hjs]
            exact o4 j hj
        · unfold upW
          rw [if_neg (by omega)]
          exact o5 j hj hj5
    · simp only [h0, if_false]
      exact ⟨-4, μ, ν, rfl, rfl, h, fun _ _ => rfl, fun _ _ => rfl⟩
theorem SC.up {μ ν μ2 ν2 : gMem} {x : V5} {w : W5} {s : Nat} {v : V5} (hs : s < cnt μ) (hc5 : cnt μ ≤ 5) (sc1 : cSc μ 16 x w) (sc2 : mSc (ν 141) (ν 142) x w) (sc3 : xOK 999 (μ 1 4) (cnt μ) x w) (k1 : μ2 1 = μ 1) (hx : μ2 16 = μ 16) (hv : v5 (μ2 (16 + 2 + s)) = v) (ho : ∀ j, j < 5 → j ≠ s → μ2 (16 + 2 + j) = μ (16 + 2 + j)) (hT : ν2 141 = ν 141)
    (hR : ∀ k, k < 35 → k ≠ s → k ≠ 5 + s → k ≠ 10 + s → k ≠ 15 + s → k ≠ 20 + s → k ≠ 25 + s → ν2 142 k = ν 142 k) (hm : mrep (mS (ν 141) s) (ν2 142) s x.1 v) (hd : dOK v) : SC μ2 16 ν2 (ν2 142) := by
  have hs5 : s < 5 := by omega
  refine ⟨x, upW w s v, ⟨by rw [hx]; exact sc1.1, fun j hj => ?_⟩, ⟨?_, fun j hj => ?_⟩, ?_⟩
  · unfold upW
    by_cases hjs : j = s
    · subst hjs
      rw [if_pos rfl]
      exact hv
    · rw [if_neg hjs, ho j hj hjs]
      exact sc1.2 j hj
  · rw [← sc2.1]
    simp only [v5]
    rw [hR _ (by omega) (by omega) (by omega) (by omega) (by omega) (by omega) (by omega), hR _ (by omega) (by omega) (by omega) (by omega) (by omega) (by omega) (by omega), hR _ (by omega) (by omega) (by omega) (by omega) (by omega) (by omega) (by omega), hR _ (by omega) (by omega) (by omega) (by omega) (by omega) (by omega) (by omega), hR _ (by omega) (by omega) (by omega) (by omega) (by omega) (by omega) (by omega)]
  · rw [hT]
    unfold upW
    by_cases hjs : j = s
    · subst hjs
      rw [if_pos rfl]
      exact hm
    · rw [if_neg hjs]
      exact mrep_other hs5 hj hjs (fun k hk a1 a2 a3 a4 a5 a6 => hR k (by omega) a1 a2 a3 a4 a5 a6) (sc2.2 j hj)
  · obtain ⟨o1, o2, o3, o4, o5⟩ := sc3
    have hcn : cnt μ2 = cnt μ := by unfold cnt; rw [k1]
    rw [hcn, k1]
    refine ⟨o1, o2, o3, fun j hj => ?_, fun j hj hj5 => ?_⟩
    · unfold upW
      by_cases hjs : j = s
      · rw [if_pos hjs]
        exact hd
      · rw [if_neg hjs]
        exact o4 j hj
    · unfold upW
      rw [if_neg (by omega)]
      exact o5 j hj hj5
theorem m_restNow {s : Nat} (hs : s < 5) (ν : gMem) : ∃ ν', f_X11_restNow (nI s) ν = some ν' ∧ (∀ k, k ≠ s → k ≠ 5 + s → k ≠ 15 + s → ν' 142 k = ν 142 k) ∧ (∀ b, b ≠ 142 → ν' b = ν b) ∧ ν' 142 s = 0 ∧ ν' 142 (5 + s) = 0 ∧ ν' 142 (15 + s) = 0 := by
  refine ⟨_, by unfold f_X11_restNow lt; simp only [(x0 hs).1, (x0 hs).2, (x5 hs).1, (x5 hs).2, (x15 hs).1, (x15 hs).2, if_true]; rfl, ?_, ?_, ?_, ?_, ?_⟩
  · intro k h1 h2 h3
    simp [st_row, h1, h2, h3]
  · intro b hb
    simp [st_ne hb]
  · simp [st_row]
  · simp [st_row]
  · simp [st_row]
theorem mrep_rest {S : V5} {R R' : Nat → Int32} {s : Nat} {mn : Int32} {w : V5} (hr : mrep S R s mn w) (e0 : R' s = 0) (e5 : R' (5 + s) = 0) (e15 : R' (15 + s) = 0) (e20 : R' (20 + s) = R (20 + s)) (e25 : R' (25 + s) = R (25 + s)) : mrep S R' s mn (sitT w) := by
  obtain ⟨r0, r5, r15, r20, r25, r10, rh, rd, rg⟩ := hr
  exact ⟨e0, e5, e15, by rw [e20]; exact r20, by rw [e25]; exact r25, fun z => absurd z i01, Or.inl rfl, fun z => absurd z i02, by rw [e25]; exact rg⟩
theorem s_rest (i : Int32) {μ ν : gMem} (h : Sim μ ν) : Res (f_X10_rest i) (f_X11_rest i) μ ν := by
  obtain ⟨t, ⟨x, w, sc1, sc2, sc3⟩, -⟩ := id h
  obtain ⟨t1, t2, t3, t4, t5, t6, t7⟩ := id t
  unfold Res f_X10_rest f_X11_rest
  rw [e_isUnknown, t2, e_isSister _ t1 i ν t3]
  simp only [Option.bind_some, b01, b10]
  by_cases hk : i < 0 ∨ ¬ i < nI (cnt μ)
  · simp only [hk, if_true, not_true, if_false]
    exact ⟨-2, μ, ν, rfl, rfl, h, fun _ _ => rfl, fun _ _ => rfl⟩
  · simp only [hk, if_false, not_false_eq_true, if_true]
    obtain ⟨s, hs, rfl⟩ := known t1 hk
    have hs5 : s < 5 := by omega
    simp only [inb5 hs5 (by decide), if_true, cl5 (show s < 1000 by omega), (x0 hs5).1, (x0 hs5).2, (x15 hs5).1, (x15 hs5).2]
    have ew := sc1.2 s hs5
    have e18 : 17 + 1 + s = 16 + 2 + s := by omega
    rw [e18]
    have eh : μ (16 + 2 + s) 0 = (w s).1 := by rw [← ew]; rfl
    have er := sc2.2 s hs5
    have er0 : ν 142 s = (w s).1 := er.1
    rw [eh, er0]
    by_cases h0 : (w s).1 = 0
    · simp only [h0, if_true]
      exact ⟨-4, μ, ν, rfl, rfl, h, fun _ _ => rfl, fun _ _ => rfl⟩
    · simp only [h0, if_false]
      obtain ⟨μ1, ν1, p1, p2, p3, p4, p5, p6⟩ := s_push h
      obtain ⟨μ2, d1, d2, d3⟩ := e_sitDown (16 + 2 + s) μ1
      obtain ⟨ν2, g1, g2, g3, g4, g5, g6⟩ := m_restNow hs5 ν1
      have e141 : ν1 141 = ν 141 := p6 141 (by decide) (by decide)
      have e142 : ν1 142 = ν 142 := p6 142 (by decide) (by decide)
      have q2 : μ1 (16 + 2 + s) = μ (16 + 2 + s) := p4 _ (by omega) (by omega)
      rw [q2, ew] at d2
      rw [p1, p2]
      simp only [Option.bind_some, d1, g1, lt]
      have ed : μ1 (16 + 2 + s) 2 = (w s).2.2.1 := by rw [q2, ← ew]; rfl
      have er15 : ν1 142 (15 + s) = (w s).2.2.1 := by rw [e142]; exact er.2.2.1
      refine ⟨_, μ2, ν2, by rw [ed], by rw [er15], ?_, fun a ha => by rw [d3 a (by omega), p4 a (by omega) (by omega)], fun a ha => by rw [g3 a (by omega), p6 a (by omega) (by omega)]⟩
      refine h.deed p3 p4 p5 p6 ?_ (fun q _ hq => d3 q (hq s hs5)) g3
      refine SC.up hs t1 sc1 sc2 sc3 (by rw [d3 1 (by omega), p4 1 (by decide) (by omega)]) (by rw [d3 16 (by omega), p4 16 (by decide) (by omega)]) d2 (fun j hj hjs => by rw [d3 _ (by omega), p4 _ (by omega) (by omega)]) (by rw [g3 141 (by decide), e141]) (fun k _ a1 a2 _ a4 _ _ => by rw [g2 k a1 a2 a4, e142]) ?_ ⟨0, by omega, rfl⟩
      exact mrep_rest er g4 g5 g6 (by rw [g2 _ (by omega) (by omega) (by omega), e142]) (by rw [g2 _ (by omega) (by omega) (by omega), e142])
theorem e_mossOf {s : Nat} (hs : s < 5) (ν : gMem) : f_X11_mossOf (nI s) ν = some (mz (ν 142 (25 + s)) (ν 142 30), ν) := by
  unfold f_X11_mossOf lt mz
  simp only [(x25 hs).1, (x25 hs).2, if_true, Int32.reduceToNatClampNeg]
theorem moss30 {mn : Int32} (h : rng mn 999) : mz (mn + 30) mn = 30 ∧ rng (mn + 30) 3000 := by
  have e : (mn + 30).toInt = mn.toInt + 30 := by
    obtain ⟨c, d⟩ := h
    rw [Int32.toInt_add]
    have : (30 : Int32).toInt = 30 := by decide
    rw [this, Int.bmod_def]
    omega
  have hr : rng (mn + 30) 3000 := ⟨by rw [e]; have := h.1; omega, by rw [e]; have := h.2; omega⟩
  refine ⟨?_, hr⟩
  apply Int32.toInt_inj.mp
  rw [mz_toInt hr ⟨h.1, by have := h.2; omega⟩, e]
  have : (30 : Int32).toInt = 30 := by decide
  rw [this]
  split <;> omega
theorem s_moss (i : Int32) {μ ν : gMem} (h : Sim μ ν) : Res (f_X10_moss i) (f_X11_moss i) μ ν := by
  obtain ⟨t, ⟨x, w, sc1, sc2, sc3⟩, -⟩ := id h
  obtain ⟨t1, t2, t3, t4, t5, t6, t7⟩ := id t
  unfold Res f_X10_moss f_X11_moss
  rw [e_isUnknown, t2, e_isSister _ t1 i ν t3]
  simp only [Option.bind_some, b01, b10]
  by_cases hk : i < 0 ∨ ¬ i < nI (cnt μ)
  · simp only [hk, if_true, not_true, if_false]
    exact ⟨-2, μ, ν, rfl, rfl, h, fun _ _ => rfl, fun _ _ => rfl⟩
  · simp only [hk, if_false, not_false_eq_true, if_true]
    obtain ⟨s, hs, rfl⟩ := known t1 hk
    have hs5 : s < 5 := by omega
    simp only [inb5 hs5 (by decide), if_true, cl5 (show s < 1000 by omega), e_mossOf hs5, Option.bind_some, (x25 hs5).1, (x25 hs5).2, Int32.reduceToNatClampNeg]
    have ew := sc1.2 s hs5
    have e18 : 17 + 1 + s = 16 + 2 + s := by omega
    rw [e18]
    have eh : μ (16 + 2 + s) 4 = (w s).2.2.2.2 := by rw [← ew]; rfl
    have er := sc2.2 s hs5
    have ex : ν 142 30 = x.1 := by rw [← sc2.1]; rfl
    have er0 : mz (ν 142 (25 + s)) (ν 142 30) = (w s).2.2.2.2 := by rw [ex]; exact er.2.2.2.2.1
    rw [eh, er0]
    by_cases h0 : (w s).2.2.2.2 ≤ 0
    · simp only [h0, if_true]
      obtain ⟨μ1, ν1, p1, p2, p3, p4, p5, p6⟩ := s_push h
      have e141 : ν1 141 = ν 141 := p6 141 (by decide) (by decide)
      have e142 : ν1 142 = ν 142 := p6 142 (by decide) (by decide)
      rw [p1, p2]
      simp only [Option.bind_some, lt, e142, ex]
      refine ⟨30, _, _, rfl, rfl, ?_, fun a ha => by rw [st_ne (by omega), p4 a (by omega) (by omega)], fun a ha => by rw [st_ne (by omega), p6 a (by omega) (by omega)]⟩
      have m30 := moss30 sc3.1
      refine h.deed p3 p4 p5 p6 ?_ (fun q _ hq => st_ne (hq s hs5)) (fun b hb => st_ne hb)
      refine SC.up (v := ((w s).1, (w s).2.1, (w s).2.2.1, (w s).2.2.2.1, 30)) hs t1 sc1 sc2 sc3 (by rw [st_ne (by omega), p4 1 (by decide) (by omega)]) (by rw [st_ne (by omega), p4 16 (by decide) (by omega)]) ?_ (fun j hj hjs => by rw [st_ne (by omega), p4 _ (by omega) (by omega)]) (by rw [st_ne (by decide), e141]) (fun k _ _ _ _ _ _ a6 => by rw [st_same, if_neg a6, e142]) ?_ (sc3.2.2.2.1 s hs5)
      · rw [← ew]
        simp [v5, st_row, p4 (16 + 2 + s) (by omega) (by omega)]
      · obtain ⟨r0, r5, r15, r20, r25, r10, rh, rd, rg⟩ := er
        refine ⟨?_, ?_, ?_, ?_, ?_, ?_, rh, rd, ?_⟩
        · rw [st_same, if_neg (by omega), e142]; exact r0
        · rw [st_same, if_neg (by omega), e142]; exact r5
        · rw [st_same, if_neg (by omega), e142]; exact r15
        · rw [st_same, if_neg (by omega), e142]; exact r20
        · rw [st_same, if_pos rfl]; exact m30.1
        · intro z
          rw [st_same, if_neg (by omega), e142]
          exact r10 z
        · rw [st_same, if_pos rfl]; exact m30.2
    · simp only [h0, if_false]
      exact ⟨-4, μ, ν, rfl, rfl, h, fun _ _ => rfl, fun _ _ => rfl⟩

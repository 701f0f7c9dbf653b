theorem keepC.of {μ μ' : gMem} (h : ∀ q, (q < 97 ∨ 106 ≤ q) → μ' q = μ q) : keepC μ μ' :=
  ⟨by rw [h 0 (by omega)], h 1 (by omega), fun a _ _ => h a (by omega), by rw [h 8 (by omega)], h 9 (by omega), fun a _ _ => h a (by omega), fun _ _ => by rw [h 129 (by omega)], h 138 (by omega), h 139 (by omega)⟩
theorem keepM.of {ν ν' : gMem} (h : ∀ b, b ≠ 142 → b ≠ 148 → b ≠ 149 → ν' b = ν b) (h2 : ∀ k, k < 35 → ν' 142 k = ν 142 k) : keepM ν ν' :=
  ⟨by rw [h 140 (by decide) (by decide) (by decide)]; exact ⟨rfl, rfl, rfl, rfl⟩, h 141 (by decide) (by decide) (by decide), h2, h 143 (by decide) (by decide) (by decide), h 145 (by decide) (by decide) (by decide), h 146 (by decide) (by decide) (by decide), h 147 (by decide) (by decide) (by decide), h 150 (by decide) (by decide) (by decide)⟩
theorem RO.keep {μ ν μ' ν' : gMem} {r r' : Int32} (h : Sim μ ν) (e : r' = r) (hc : ∀ q, (q < 97 ∨ 106 ≤ q) → μ' q = μ q) (hm : ∀ b, b ≠ 142 → b ≠ 148 → b ≠ 149 → ν' b = ν b) (h2 : ∀ k, k < 35 → ν' 142 k = ν 142 k) : RO (some (r, μ')) (some (r', ν')) μ ν :=
  ⟨r, μ', ν', rfl, by rw [e], h.keep (keepC.of hc) (keepM.of hm h2), fun a ha => hc a (by omega), fun a ha => hm a (by omega) (by omega) (by omega)⟩
theorem Sim.unfold {μ ν : gMem} (h : Sim μ ν) : ∃ (c : Nat) (x : V5) (w : W5) (mn : Nat), c ≤ 5 ∧ μ 1 1 = nI c ∧ MT ν c (cS μ) (μ 1 4) (μ 1 6) (μ 1 7) ∧ cSc μ 16 x w ∧ mSc (ν 141) (ν 142) x w ∧ x.1 = nI mn ∧ mn ≤ 999 ∧ (∀ s, c ≤ s → s < 5 → w s = (0, 0, 0, 0, 0)) ∧ xOK 999 (μ 1 4) c x w ∧ ∃ H : Nat, 1 ≤ H ∧ H ≤ 99 ∧ μ 1 4 = nI H := by
  obtain ⟨t, ⟨x, w, sc1, sc2, sc3⟩, -⟩ := id h
  obtain ⟨t1, t2, t3, ⟨g0, g1, g2, g3, g4, g5⟩, t5, t6, t7, t8⟩ := id t
  obtain ⟨mn, hmn, emn⟩ := rng_nI (by decide) sc3.1
  exact ⟨cnt μ, x, w, mn, t1, t2, ⟨t1, t3, fun s hs => by rw [t5 s (by omega)]; exact t6 s hs, fun s hs => t5 s (by omega), g0, g2, g3⟩, sc1, sc2, emn, hmn, sc3.2.2.2.2, sc3, t7⟩
theorem e_isFar (i lo : Int32) (ν : gMem) : f_X11_isFar i lo ν = some (if i < lo ∨ ¬ i ≤ 99 then 0 else 1, ν) := by
  unfold f_X11_isFar
  rw [e_in0 i lo 99 ν lo.toInt64 99 rfl rfl]
  rfl
theorem full_tab : ∀ c : Nat, c ≤ 5 → ∀ s : Nat, s < c → (2 ^ c - 1) / 2 ^ s % 2 = 1 := by decide
theorem full_lt : ∀ c : Nat, c ≤ 5 → 2 ^ c - 1 < 32 := by decide
theorem QQ_full {c : Nat} (hc : c ≤ 5) (S w : W5) (F : Nat → Int32) : (fun m => sumB (2 ^ c - 1) (fun s => pseq (S s) F (w s) m) c) = QQ c S F w := by
  funext m
  unfold sumB QQ
  exact sumP_congr (fun s hs => if_pos (full_tab c hc s hs))
theorem sit_seq {S : V5} {F : Nat → Int32} {w : V5} (h : w.1 = 0) : ∀ m, (wseq S F w m).1 = 0
  | 0 => h
  | m + 1 => by
    have ih := sit_seq (S := S) (F := F) h m
    rw [wseq]
    unfold pmT stT
    by_cases h2 : (wseq S F w m).2.2.2.2 ≤ 0
    · rw [if_pos h2, if_pos ih]; exact ih
    · rw [if_neg h2, if_pos ih]; exact ih
theorem sit_pour {S : V5} {F : Nat → Int32} {w : V5} (h : w.1 = 0) (m : Nat) : pseq S F w m = 0 := by
  have ih := sit_seq (S := S) (F := F) h m
  unfold pseq pmT stT
  by_cases h2 : (wseq S F w m).2.2.2.2 ≤ 0
  · rw [if_pos h2, if_pos ih]
  · rw [if_neg h2, if_pos ih]
theorem QQ_mask {c M : Nat} (S w w' : W5) (F : Nat → Int32) (h : ∀ s, s < c → (M / 2 ^ s % 2 = 1 → w' s = w s) ∧ (¬ M / 2 ^ s % 2 = 1 → (w' s).1 = 0)) : (fun m => sumB M (fun s => pseq (S s) F (w s) m) c) = QQ c S F w' := by
  funext m
  unfold sumB QQ
  refine sumP_congr (fun s hs => ?_)
  by_cases hb : M / 2 ^ s % 2 = 1
  · rw [if_pos hb, (h s hs).1 hb]
  · rw [if_neg hb, sit_pour ((h s hs).2 hb)]
/-- takeAll and the first run -/
theorem c_first {c n mn : Nat} (hc : c ≤ 5) (hn : n ≤ 99) {μ : gMem} (h1 : μ 1 1 = nI c) {x : V5} {w : W5} (hx : cSc μ 16 x w) (hmn : x.1 = nI mn) (ho : Int32) :
    ∃ m6 m8, f_X2_takeAll 16 (nI n) μ = some m6 ∧ (m6 16 1 = x.2.1 ∧ m6 16 2 = x.2.2.1) ∧ f_X2_run x.2.1 ho (nI n) m6 = some m8 ∧ PR m8 c n (fun s => pseq (cS μ s) (Fq (μ 1 6) (μ 1 7) mn) (w s)) ∧ m8 97 4 = nI (2 ^ c - 1) ∧ (∀ j, j ≤ n → m8 105 j = lseq (μ 1 4) ho x.2.1 (QQ c (cS μ) (Fq (μ 1 6) (μ 1 7) mn) w) j) ∧ m8 97 5 = hseq (μ 1 4) ho x.2.1 (QQ c (cS μ) (Fq (μ 1 6) (μ 1 7) mn) w) n ∧ m8 97 6 = fseq (μ 1 4) ho x.2.1 (QQ c (cS μ) (Fq (μ 1 6) (μ 1 7) mn) w) n ∧ ∀ q, (q < 97 ∨ 106 ≤ q) → m8 q = μ q := by
  obtain ⟨m6, p1, p2, p3, p4⟩ := c_takeAll c n mn hc hn μ h1 x w hx hmn
  obtain ⟨m8, q1, q2, q3, q4, q5, q6⟩ := c_run c n (2 ^ c - 1) hc (full_lt c hc) hn _ x.2.1 ho m6 (by rw [p4 1 (by omega)]; exact h1) p2 p3
  rw [p4 1 (by omega), QQ_full hc (cS μ) w] at q2 q3 q4
  have e1 : m6 16 1 = x.2.1 := by rw [p4 16 (by omega), ← hx.1]; rfl
  have e2 : m6 16 2 = x.2.2.1 := by rw [p4 16 (by omega), ← hx.1]; rfl
  exact ⟨m6, m8, p1, ⟨e1, e2⟩, q1, fun s hs j hj => by rw [q6 _ (by omega) (by omega)]; exact p2 s hs j hj, q5, q2, q3, q4, fun q hq => by rw [q6 q (by omega) (by omega), p4 q (by omega)]⟩
theorem mSc_keep {ν ν1 : gMem} {x : V5} {w : W5} (h : mSc (ν 141) (ν 142) x w) (h1 : ν1 141 = ν 141) (h2 : ∀ k, k < 35 → ν1 142 k = ν 142 k) : mSc (ν1 141) (ν1 142) x w := by rw [h1]; exact mSc_congr h2 h
theorem s_level (i : Int32) {μ ν : gMem} (h : Sim μ ν) : Res (f_X10_level i) (f_X11_level i) μ ν := by
  obtain ⟨c, x, w, mn, hc, h1, hT, sc1, sc2, hx, hmn, h0, hok, hH⟩ := h.unfold
  show RO (f_X10_level i μ) (f_X11_level i ν) μ ν
  unfold f_X10_level f_X11_level
  rw [e_isOutside, e_isFar]
  simp only [Option.bind_some, b01, b10]
  by_cases hk : i < 0 ∨ ¬ i ≤ 99
  · simp only [hk, if_true, not_true, if_false]
    exact RO.rf h rfl
  · simp only [hk, if_false, not_false_eq_true, if_true]
    obtain ⟨n, hn, rfl⟩ := in0 (b := 99) (by decide) hk
    obtain ⟨m6, m8, p1, ⟨p2, p3⟩, p4, p5, p6, p7, p8, p9, p10⟩ := c_first hc hn h1 sc1 hx x.2.2.1
    obtain ⟨ν1, q1, q2, q3⟩ := m_putAside ν
    obtain ⟨ν2, r1, r2, r3⟩ := m_levelBehind (hT.congr (by rw [q3 140 (by decide)]) (q3 141 (by decide))) n hn (by omega) (mSc_keep sc2 (q3 141 (by decide)) (fun k _ => by rw [q3 142 (by decide)])) hx h0
    have hn100 : n < 100 := by omega
    simp only [p1, q1, Option.bind_some, p2, p3, p4, r1, if_pos (inb5 hn100 (by decide)), cl5 (show n < 1000 by omega)]
    exact RO.keep h (p7 n (Nat.le_refl _)).symm p10 (fun b b1 b2 _ => by rw [r3 b b1, q3 b b2]) (fun k hk => by rw [r2 k hk, q2 k hk])
theorem s_highest (i : Int32) {μ ν : gMem} (h : Sim μ ν) : Res (f_X10_highest i) (f_X11_highest i) μ ν := by
  obtain ⟨c, x, w, mn, hc, h1, hT, sc1, sc2, hx, hmn, h0, hok, hH⟩ := h.unfold
  show RO (f_X10_highest i μ) (f_X11_highest i ν) μ ν
  unfold f_X10_highest f_X11_highest
  rw [e_isOutside, e_isFar]
  simp only [Option.bind_some, b01, b10]
  by_cases hk : i < 0 ∨ ¬ i ≤ 99
  · simp only [hk, if_true, not_true, if_false]
    exact RO.rf h rfl
  · simp only [hk, if_false, not_false_eq_true, if_true]
    obtain ⟨n, hn, rfl⟩ := in0 (b := 99) (by decide) hk
    obtain ⟨m6, m8, p1, ⟨p2, p3⟩, p4, p5, p6, p7, p8, p9, p10⟩ := c_first hc hn h1 sc1 hx x.2.2.1
    obtain ⟨ν1, q1, q2, q3⟩ := m_putAside ν
    obtain ⟨ν2, r1, r2, r3⟩ := m_highestOf (hT.congr (by rw [q3 140 (by decide)]) (q3 141 (by decide))) n hn (by omega) (mSc_keep sc2 (q3 141 (by decide)) (fun k _ => by rw [q3 142 (by decide)])) hx h0
    simp only [p1, q1, Option.bind_some, p2, p3, p4, r1]
    exact RO.keep h p8.symm p10 (fun b b1 b2 _ => by rw [r3 b b1, q3 b b2]) (fun k hk => by rw [r2 k hk, q2 k hk])
theorem s_full {μ ν : gMem} (h : Sim μ ν) : Res f_X10_full f_X11_full μ ν := by
  obtain ⟨c, x, w, mn, hc, h1, hT, sc1, sc2, hx, hmn, h0, hok, hH⟩ := h.unfold
  show RO (f_X10_full μ) (f_X11_full ν) μ ν
  unfold f_X10_full f_X10_firstFull f_X11_full
  obtain ⟨m6, m8, p1, ⟨p2, p3⟩, p4, p5, p6, p7, p8, p9, p10⟩ := c_first hc (n := 99) (Nat.le_refl _) h1 sc1 hx x.2.2.1
  obtain ⟨ν1, q1, q2, q3⟩ := m_putAside ν
  obtain ⟨ν2, r1, r2, r3⟩ := m_fullIn (hT.congr (by rw [q3 140 (by decide)]) (q3 141 (by decide))) 99 (Nat.le_refl _) (by omega) (mSc_keep sc2 (q3 141 (by decide)) (fun k _ => by rw [q3 142 (by decide)])) hx h0
  have e2 : μ 16 2 = x.2.2.1 := by rw [← sc1.1]; rfl
  have p1' : f_X2_takeAll 16 (99 : Int32) μ = some m6 := p1
  have p4' : f_X2_run x.2.1 x.2.2.1 (99 : Int32) m6 = some m8 := p4
  have r1' : f_X11_fullIn (99 : Int32) ν1 = some (fseq (μ 1 4) x.2.2.1 x.2.1 (QQ c (cS μ) (Fq (μ 1 6) (μ 1 7) mn) w) 99, ν2) := r1
  simp only [p1', q1, Option.bind_some, e2, p2, p4', r1']
  exact RO.keep h p9.symm p10 (fun b b1 b2 _ => by rw [r3 b b1, q3 b b2]) (fun k hk => by rw [r2 k hk, q2 k hk])
theorem s_pitch (i : Int32) {μ ν : gMem} (h : Sim μ ν) : Res (f_X10_pitch i) (f_X11_pitch i) μ ν := by
  obtain ⟨c, x, w, mn, hc, h1, hT, sc1, sc2, hx, hmn, h0, hok, hH⟩ := h.unfold
  show RO (f_X10_pitch i μ) (f_X11_pitch i ν) μ ν
  unfold f_X10_pitch f_X10_firstFull f_X11_pitch
  rw [e_isOutside, e_in0 i 0 9 ν 0 9 rfl rfl]
  simp only [Option.bind_some, b01, b10]
  by_cases hk : i < 0 ∨ ¬ i ≤ 9
  · simp only [hk, if_true, not_true, if_false]
    exact RO.rf h rfl
  · simp only [hk, if_false, not_false_eq_true, if_true]
    obtain ⟨n0, hn0, rfl⟩ := in0 (b := 9) (by decide) hk
    obtain ⟨o1, ⟨k, hk9, ek⟩, o3, o4, o5⟩ := id hok
    have lt1 := less_tab k hk9 n0 hn0
    obtain ⟨m6, m8, p1, ⟨p2, p3⟩, p4, p5, p6, p7, p8, p9, p10⟩ := c_first hc (n := 99) (Nat.le_refl _) h1 sc1 hx (nI (k - n0))
    obtain ⟨ν1, q1, q2, q3⟩ := m_putAside ν
    have e32 : ν1 142 32 = nI k := by rw [q3 142 (by decide), ← ek, ← sc2.1]; rfl
    have e142 : ν1 142 = ν 142 := q3 142 (by decide)
    have e141 : ν1 141 = ν 141 := q3 141 (by decide)
    have hsc : mSc (st ν1 142 32 (nI (k - n0)) 141) (st ν1 142 32 (nI (k - n0)) 142) (x.1, x.2.1, nI (k - n0), x.2.2.2.1, x.2.2.2.2) w := by
      refine ⟨?_, fun s hs => ?_⟩
      · rw [← sc2.1]
        simp [v5, st_row, e142]
      · rw [st_ne (by decide), e141]
        exact mrep_congr (fun q hq => by rw [st_same, if_neg (by omega), e142]) (sc2.2 s hs)
    obtain ⟨ν2, r1, r2, r3⟩ := m_fullIn (x := (x.1, x.2.1, nI (k - n0), x.2.2.2.1, x.2.2.2.2)) (ν := st ν1 142 32 (nI (k - n0))) (hT.congr (by rw [st_ne (by decide), q3 140 (by decide)]) (by rw [st_ne (by decide), e141])) 99 (Nat.le_refl _) (by omega) hsc hx h0
    have e2 : μ 16 2 = nI k := by rw [← ek, ← sc1.1]; rfl
    have p1' : f_X2_takeAll 16 (99 : Int32) μ = some m6 := p1
    have p4' : f_X2_run x.2.1 (nI (k - n0)) (99 : Int32) m6 = some m8 := p4
    have r1' : f_X11_fullIn (99 : Int32) (st ν1 142 32 (nI (k - n0))) = some (fseq (μ 1 4) (nI (k - n0)) x.2.1 (QQ c (cS μ) (Fq (μ 1 6) (μ 1 7) mn) w) 99, ν2) := r1
    unfold f_X11_less
    simp only [q1, Option.bind_some, Int32.reduceToNatClampNeg, e32, e2, lt, lt1.1, lt1.2, p1', p2, p4', r1']
    exact RO.keep h p9.symm p10 (fun b b1 b2 _ => by rw [r3 b b1, st_ne b1, q3 b b2]) (fun k hk => by rw [r2 k hk, st_ne (by decide), q2 k hk])
theorem adds_tab : ∀ c : Nat, c ≤ 5 → ∀ s : Nat, s < c → nI (2 ^ c - 1) &&& (((1 : Int32) <<< (nI s &&& 31)) ^^^ (-1 : Int32)) = nI (2 ^ c - 1 - 2 ^ s) ∧ 2 ^ c - 1 - 2 ^ s < 32 ∧ ∀ j : Nat, j < c → ((2 ^ c - 1 - 2 ^ s) / 2 ^ j % 2 = 1 ↔ j ≠ s) := by decide
theorem mSc_rest {ν ν2 : gMem} {x : V5} {w : W5} {s : Nat} (hs : s < 5) (h : mSc (ν 141) (ν 142) x w) (h1 : ν2 141 = ν 141) (g2 : ∀ k, k ≠ s → k ≠ 5 + s → k ≠ 15 + s → ν2 142 k = ν 142 k) (g4 : ν2 142 s = 0) (g5 : ν2 142 (5 + s) = 0) (g6 : ν2 142 (15 + s) = 0) : mSc (ν2 141) (ν2 142) x (upW w s (sitT (w s))) := by
  refine ⟨?_, fun j hj => ?_⟩
  · rw [← h.1]
    simp only [v5]
    rw [g2 _ (by omega) (by omega) (by omega), g2 _ (by omega) (by omega) (by omega), g2 _ (by omega) (by omega) (by omega), g2 _ (by omega) (by omega) (by omega), g2 _ (by omega) (by omega) (by omega)]
  · rw [h1]
    unfold upW
    by_cases hjs : j = s
    · subst hjs
      rw [if_pos rfl]
      exact mrep_rest (h.2 j hj) g4 g5 g6 (g2 _ (by omega) (by omega) (by omega)) (g2 _ (by omega) (by omega) (by omega))
    · rw [if_neg hjs]
      exact mrep_other hs hj hjs (fun k _ a1 a2 _ a4 _ _ => g2 k a1 a2 a4) (h.2 j hj)
theorem s_adds (i j : Int32) {μ ν : gMem} (h : Sim μ ν) : Res (f_X10_adds i j) (f_X11_adds i j) μ ν := by
  obtain ⟨c, x, w, mn, hc, h1, hT, sc1, sc2, hx, hmn, h0, hok, hH⟩ := h.unfold
  show RO (f_X10_adds i j μ) (f_X11_adds i j ν) μ ν
  unfold f_X10_adds f_X11_adds
  rw [e_isUnknown, h1, e_isSister c hc i ν hT.2.1]
  simp only [Option.bind_some, b01, b10, e_isOutside, e_isFar]
  by_cases hk : i < 0 ∨ ¬ i < nI c
  · simp only [hk, if_true, not_true, if_false]
    exact RO.rf h rfl
  · simp only [hk, if_false, not_false_eq_true, if_true]
    obtain ⟨s, hs, rfl⟩ := known hc hk
    have hs5 : s < 5 := by omega
    by_cases hk2 : j < 1 ∨ ¬ j ≤ 99
    · simp only [hk2, if_true, not_true, if_false]
      exact RO.rf h rfl
    · simp only [hk2, if_false, not_false_eq_true, if_true]
      obtain ⟨n, hn1, hn, rfl⟩ := in1 (b := 99) (by decide) hk2
      obtain ⟨m6, m8, p1, ⟨p2, p3⟩, p4, p5, p6, p7, p8, p9, p10⟩ := c_first hc hn h1 sc1 hx x.2.2.1
      obtain ⟨ν1, q1, q2, q3⟩ := m_putAside ν
      have hT1 := hT.congr (ν' := ν1) (by rw [q3 140 (by decide)]) (q3 141 (by decide))
      obtain ⟨ν2, r1, r2, r3⟩ := m_highestOf hT1 n hn (by omega) (mSc_keep sc2 (q3 141 (by decide)) (fun k _ => by rw [q3 142 (by decide)])) hx h0
      obtain ⟨ν3, u1, u2, u3, u4, u5, u6⟩ := m_restNow hs5 ν2
      have sc3 : mSc (ν2 141) (ν2 142) x w := mSc_keep sc2 (by rw [r3 141 (by decide), q3 141 (by decide)]) (fun k hk => by rw [r2 k hk, q2 k hk])
      have sc4 := mSc_rest hs5 sc3 (u3 141 (by decide)) u2 u4 u5 u6
      obtain ⟨ν4, v1, v2, v3⟩ := m_highestOf (hT1.congr (ν' := ν3) (by rw [u3 140 (by decide), r3 140 (by decide)]) (by rw [u3 141 (by decide), r3 141 (by decide)])) n hn (by omega) sc4 hx (fun j hj hj5 => by unfold upW; rw [if_neg (by omega)]; exact h0 j hj hj5)
      obtain ⟨a1, a2, a3⟩ := adds_tab c hc s hs
      have k1 : m8 1 = μ 1 := p10 1 (by omega)
      obtain ⟨m9, z1, z2, z3, z4, z5, z6⟩ := c_run c n (2 ^ c - 1 - 2 ^ s) hc a2 hn (fun s => pseq (cS μ s) (Fq (μ 1 6) (μ 1 7) mn) (w s)) x.2.1 x.2.2.1 (st m8 97 4 (nI (2 ^ c - 1 - 2 ^ s))) (by rw [st_ne (by decide), k1]; exact h1) (fun s hs j hj => by rw [st_ne (by omega)]; exact p5 s hs j hj) (by rw [st_same, if_pos rfl])
      rw [st_ne (by decide), k1, QQ_mask (cS μ) w (upW w s (sitT (w s)))] at z3
      · have f1 : st m8 97 4 (nI (2 ^ c - 1 - 2 ^ s)) 16 1 = x.2.1 := by rw [st_ne (by decide), p10 16 (by omega), ← sc1.1]; rfl
        have f2 : st m8 97 4 (nI (2 ^ c - 1 - 2 ^ s)) 16 2 = x.2.2.1 := by rw [st_ne (by decide), p10 16 (by omega), ← sc1.1]; rfl
        simp only [p1, q1, Option.bind_some, p2, p3, p4, r1, u1, v1, lt, p6, a1, f1, f2, z1]
        exact RO.keep h (by rw [p8, z3]) (fun q hq => by rw [z6 q (by omega) (by omega), st_ne (by omega)]; exact p10 q hq) (fun b b1 b2 _ => by rw [v3 b b1, u3 b b1, r3 b b1, q3 b b2]) (fun k hk => by rw [v2 k hk, u3 148 (by decide), r3 148 (by decide), q2 k hk])
      · intro j hj
        refine ⟨fun hb => ?_, fun hb => ?_⟩
        · unfold upW
          rw [if_neg ((a3 j hj).mp hb)]
        · unfold upW
          rw [if_pos (Classical.byContradiction fun z => hb ((a3 j hj).mpr z))]
          rfl

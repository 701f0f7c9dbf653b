def mossV (w : V5) (k : Int32) : V5 := (w.1, w.2.1, w.2.2.1, w.2.2.2.1, w.2.2.2.2 + k)
theorem c_takeOne {c n mn s : Nat} (hs : s < c) (hc : c ≤ 5) (hn : n ≤ 99) (k : Int32) {μ : gMem} {x : V5} {w : W5} (hx : cSc μ 16 x w) (hmn : x.1 = nI mn) :
    ∃ μ', f_X2_takeOne 16 (nI s) k (nI n) μ = some μ' ∧ (∀ j, j < n → μ' (99 + s) j = pseq (cS μ s) (Fq (μ 1 6) (μ 1 7) mn) (mossV (w s) k) j) ∧ ∀ q, q ≠ 104 → q ≠ 99 + s → μ' q = μ q := by
  have hs5 : s < 5 := by omega
  unfold f_X2_takeOne
  rw [if_pos (inb5 hs5 (by decide)), cl5 (by omega)]
  obtain ⟨m1, p1, p2, p3⟩ := e_copyW (w := 104) (s := 16 + 1 + 1 + s) (by omega) μ
  rw [p1]
  simp only [Option.bind_some, lt]
  have ew : v5 (m1 104) = w s := by rw [p2]; exact hx.2 s hs5
  have ev : v5 (st m1 104 4 (m1 104 4 + k) 104) = mossV (w s) k := by
    rw [← ew]
    simp [v5, mossV, st_row]
  have e16 : st m1 104 4 (m1 104 4 + k) 16 0 = nI mn := by rw [st_ne (by decide), p3 16 (by decide), ← hmn, ← hx.1]; rfl
  rw [e16]
  obtain ⟨m2, q1, q2, q3⟩ := c_fill s mn n hs5 hn (cS μ s) (mossV (w s) k) (st m1 104 4 (m1 104 4 + k)) (by rw [st_ne (by omega), p3 _ (by omega)]; rfl) ev
  rw [st_ne (by decide), p3 1 (by decide)] at q2
  rw [q1]
  exact ⟨m2, rfl, q2, fun q a1 a2 => by rw [q3 q a1 a2, st_ne a1, p3 q a1]⟩
theorem mossV0 (w : V5) : mossV w 0 = w := by
  unfold mossV
  rw [Int32.add_zero]
theorem mz_pos (g mn : Int32) : 0 ≤ mz g mn := by
  unfold mz
  by_cases h : 0 ≤ g - mn
  · rw [if_pos h]; exact h
  · rw [if_neg h]; exact Int32.le_refl _
theorem mSc_moss {ν : gMem} {x : V5} {w : W5} {s mn : Nat} (hs : s < 5) (h : mSc (ν 141) (ν 142) x w) (hx : x.1 = nI mn) (hmn : mn ≤ 999) (hz : (w s).2.2.2.2 = 0) : mSc (st ν 142 (25 + s) (nI mn + 30) 141) (st ν 142 (25 + s) (nI mn + 30) 142) x (upW w s (mossV (w s) 30)) := by
  have m30 := moss30 (nI_rng hmn (by decide))
  refine ⟨?_, fun j hj => ?_⟩
  · rw [← h.1]
    simp only [v5, st_same]
    rw [if_neg (by omega), if_neg (by omega), if_neg (by omega), if_neg (by omega), if_neg (by omega)]
  · rw [st_ne (by decide)]
    unfold upW
    by_cases hjs : j = s
    · subst hjs
      rw [if_pos rfl]
      obtain ⟨r0, r5, r15, r20, r25, r10, rh, rd, rg⟩ := h.2 j hj
      refine ⟨?_, ?_, ?_, ?_, ?_, ?_, rh, rd, ?_⟩
      · rw [st_same, if_neg (by omega)]; exact r0
      · rw [st_same, if_neg (by omega)]; exact r5
      · rw [st_same, if_neg (by omega)]; exact r15
      · rw [st_same, if_neg (by omega)]; exact r20
      · rw [st_same, if_pos rfl, hx, m30.1]
        show 30 = (w j).2.2.2.2 + 30
        rw [hz, Int32.zero_add]
      · intro z
        rw [st_same, if_neg (by omega)]
        exact r10 z
      · rw [st_same, if_pos rfl]; exact m30.2
    · rw [if_neg hjs]
      exact mrep_other hs hj hjs (fun k _ _ _ _ _ _ a6 => by rw [st_same, if_neg a6]) (h.2 j hj)
theorem s_mossTo (i : Int32) {μ ν : gMem} (h : Sim μ ν) : Res (f_X10_mossTo i) (f_X11_mossTo i) μ ν := by
  obtain ⟨c, x, w, mn, hc, h1, hT, sc1, sc2, hx, hmn, h0, hok, hH⟩ := h.unfold
  show RO (f_X10_mossTo i μ) (f_X11_mossTo i ν) μ ν
  unfold f_X10_mossTo f_X11_mossTo
  rw [e_isOutside, e_isFar]
  simp only [Option.bind_some, b01, b10]
  by_cases hk : i < 1 ∨ ¬ i ≤ 99
  · simp only [hk, if_true, not_true, if_false]
    exact RO.rf h rfl
  · simp only [hk, if_false, not_false_eq_true, if_true]
    obtain ⟨n, hn1, hn, rfl⟩ := in1 (b := 99) (by decide) hk
    have hn100 : n < 100 := by omega
    obtain ⟨m6, m8, p1, ⟨p2, p3⟩, p4, p5, p6, p7, p8, p9, p10⟩ := c_first hc hn h1 sc1 hx x.2.2.1
    obtain ⟨ν1, q1, q2, q3⟩ := m_putAside ν
    have hT1 := hT.congr (ν' := ν1) (by rw [q3 140 (by decide)]) (q3 141 (by decide))
    obtain ⟨ν2, r1, r2, r3⟩ := m_levelBehind hT1 n hn (by omega) (mSc_keep sc2 (q3 141 (by decide)) (fun k _ => by rw [q3 142 (by decide)])) hx h0
    have key : ∀ (f s : Nat) (b who : Int32) (m ν' : gMem), s ≤ c → c - s < f → PR m c n (fun s => pseq (cS μ s) (Fq (μ 1 6) (μ 1 7) mn) (w s)) → m 97 4 = nI (2 ^ c - 1) → (∀ q, (q < 97 ∨ 106 ≤ q) → m q = μ q) → (∀ b, b ≠ 142 → b ≠ 148 → ν' b = ν b) → (∀ k, k < 35 → ν' 142 k = ν 142 k ∧ ν' 148 k = ν 142 k) →
        ∃ (b' who' i1 i2 : Int32) (m' ν'' : gMem), l_X10_mossTo_62 (nI n) f b who (nI s) m = some (b', who', i1, m') ∧ l_X11_mossTo_26 (nI n) f who b (nI s) ν' = some (who', b', i2, ν'') ∧ (∀ q, (q < 97 ∨ 106 ≤ q) → m' q = μ q) ∧ (∀ b, b ≠ 142 → b ≠ 148 → ν'' b = ν b) ∧ (∀ k, k < 35 → ν'' 142 k = ν 142 k) := by
      intro f
      induction f with
      | zero => intro s b who m ν' _ h2; omega
      | succ f ih =>
        intro s b who m ν' g1 g2 g3 g4 g5 g6 g7
        unfold l_X10_mossTo_62 l_X11_mossTo_26
        rw [g5 1 (by omega), h1, g6 140 (by decide) (by decide), hT.2.1]
        by_cases hsc : s = c
        · subst hsc
          rw [if_pos (Int32.le_refl _), if_pos (Int32.le_refl _)]
          exact ⟨b, who, _, _, m, ν', rfl, rfl, g5, g6, fun k hk => (g7 k hk).1⟩
        · have hs : s < c := by omega
          have hs5 : s < 5 := by omega
          rw [if_neg (nI_ge hs (by omega)), if_neg (nI_ge hs (by omega)), if_pos (inb5 hs5 (by decide)), cl5 (show s < 1000 by omega), e_mossOf hs5]
          have ew : m (17 + 1 + s) 4 = (w s).2.2.2.2 := by rw [g5 _ (by omega), ← sc1.2 s hs5, show 17 + 1 + s = 16 + 2 + s by omega]; rfl
          have e25 : mz (ν' 142 (25 + s)) (ν' 142 30) = (w s).2.2.2.2 := by
            rw [(g7 _ (by omega)).1, (g7 30 (by omega)).1]
            have ex : ν 142 30 = x.1 := by rw [← sc2.1]; rfl
            rw [ex]
            exact (sc2.2 s hs5).2.2.2.2.1
          have hpos : 0 ≤ (w s).2.2.2.2 := by rw [← e25]; exact mz_pos _ _
          simp only [Option.bind_some, ew, e25, lt, nI_inc]
          by_cases hz : (w s).2.2.2.2 = 0
          · have hz' : (w s).2.2.2.2 ≤ 0 := by rw [hz]; exact Int32.le_refl _
            rw [if_pos hz', if_pos hz]
            have ex : ν' 142 30 = nI mn := by rw [(g7 30 (by omega)).1, ← hx, ← sc2.1]; rfl
            simp only [(x25 hs5).1, (x25 hs5).2, if_true, Int32.reduceToNatClampNeg, ex]
            -- class
            have sc1' : cSc m 16 x w := ⟨by rw [g5 16 (by omega)]; exact sc1.1, fun s hs => by rw [g5 _ (by omega)]; exact sc1.2 s hs⟩
            obtain ⟨m20, a1, a2, a3⟩ := c_takeOne hs hc hn 30 sc1' hx
            have k1 : m 1 = μ 1 := g5 1 (by omega)
            have ks : cS m s = cS μ s := by unfold cS; rw [g5 _ (by omega)]
            rw [k1, ks] at a2
            have f1 : m20 16 1 = x.2.1 := by rw [a3 16 (by omega) (by omega), ← sc1'.1]; rfl
            have f2 : m20 16 2 = x.2.2.1 := by rw [a3 16 (by omega) (by omega), ← sc1'.1]; rfl
            have hP : PR m20 c n (fun j => pseq (cS μ j) (Fq (μ 1 6) (μ 1 7) mn) (upW w s (mossV (w s) 30) j)) := by
              intro j hj k hk
              show m20 (99 + j) k = pseq (cS μ j) (Fq (μ 1 6) (μ 1 7) mn) (upW w s (mossV (w s) 30) j) k
              unfold upW
              by_cases hjs : j = s
              · subst hjs
                rw [if_pos rfl]
                exact a2 k hk
              · rw [if_neg hjs, a3 _ (by omega) (by omega)]
                exact g3 j hj k hk
            obtain ⟨m22, b1, b2, b3, b4, b5, b6⟩ := c_run c n (2 ^ c - 1) hc (full_lt c hc) hn _ x.2.1 x.2.2.1 m20 (by rw [a3 1 (by omega) (by omega), k1]; exact h1) hP (by rw [a3 97 (by omega) (by omega)]; exact g4)
            rw [a3 1 (by omega) (by omega), k1, QQ_full hc (cS μ) (upW w s (mossV (w s) 30))] at b2
            have sc1'' : cSc m22 16 x w := ⟨by rw [b6 16 (by omega) (by omega), a3 16 (by omega) (by omega)]; exact sc1'.1, fun s hs => by rw [b6 _ (by omega) (by omega), a3 _ (by omega) (by omega)]; exact sc1'.2 s hs⟩
            obtain ⟨m26, d1, d2, d3⟩ := c_takeOne hs hc hn 0 sc1'' hx
            have ks2 : cS m22 s = cS μ s := by unfold cS; rw [b6 _ (by omega) (by omega), a3 _ (by omega) (by omega), g5 _ (by omega)]
            rw [b6 1 (by omega) (by omega), a3 1 (by omega) (by omega), k1, ks2, mossV0] at d2
            have hP2 : PR m26 c n (fun j => pseq (cS μ j) (Fq (μ 1 6) (μ 1 7) mn) (w j)) := by
              intro j hj k hk
              by_cases hjs : j = s
              · subst hjs
                exact d2 k hk
              · rw [d3 _ (by omega) (by omega), b6 _ (by omega) (by omega), a3 _ (by omega) (by omega)]
                exact g3 j hj k hk
            have h97 : m26 97 4 = nI (2 ^ c - 1) := by rw [d3 97 (by omega) (by omega), b5]
            have hk26 : ∀ q, (q < 97 ∨ 106 ≤ q) → m26 q = μ q := fun q hq => by rw [d3 q (by omega) (by omega), b6 q (by omega) (by omega), a3 q (by omega) (by omega)]; exact g5 q hq
            -- reference
            have sc2' : mSc (ν' 141) (ν' 142) x w := mSc_keep sc2 (g6 141 (by decide) (by decide)) (fun k hk => (g7 k hk).1)
            have sc3 := mSc_moss hs5 sc2' hx hmn hz
            obtain ⟨ν3, u1, u2, u3⟩ := m_levelBehind (hT.congr (ν' := st ν' 142 (25 + s) (nI mn + 30)) (by rw [st_ne (by decide), g6 140 (by decide) (by decide)]) (by rw [st_ne (by decide), g6 141 (by decide) (by decide)])) n hn (by omega) sc3 hx (fun j hj hj5 => by unfold upW; rw [if_neg (by omega)]; exact h0 j hj hj5)
            have hk3 : ∀ b, b ≠ 142 → b ≠ 148 → ν3 b = ν b := fun b c1 c2 => by rw [u3 b c1, st_ne c1]; exact g6 b c1 c2
            have hk4 : ∀ k, k < 35 → ν3 142 k = ν 142 k ∧ ν3 148 k = ν 142 k := fun k hk => by
              rw [u2 k hk, u3 148 (by decide), st_ne (by decide)]
              exact ⟨(g7 k hk).2, (g7 k hk).2⟩
            simp only [a1, Option.bind_some, f1, f2, b1, u1, if_pos (inb5 hn100 (by decide)), cl5 (show n < 1000 by omega), b2 n (Nat.le_refl _), d1]
            generalize lseq (μ 1 4) x.2.2.1 x.2.1 (QQ c (cS μ) (Fq (μ 1 6) (μ 1 7) mn) (upW w s (mossV (w s) 30))) n = L
            by_cases hL : L ≤ b
            · simp only [hL, if_true]
              exact ih (s + 1) b who m26 ν3 (by omega) (by omega) hP2 h97 hk26 hk3 hk4
            · simp only [hL, if_false]
              exact ih (s + 1) L (nI s) m26 ν3 (by omega) (by omega) hP2 h97 hk26 hk3 hk4
          · have hz' : ¬ (w s).2.2.2.2 ≤ 0 := fun z => hz (Int32.le_antisymm z hpos)
            rw [if_neg hz', if_neg hz]
            exact ih (s + 1) b who m ν' (by omega) (by omega) g3 g4 g5 g6 g7
    obtain ⟨b', who', i1, i2, m', ν'', z1, z2, z3, z4, z5⟩ := key gF 0 (lseq (μ 1 4) x.2.2.1 x.2.1 (QQ c (cS μ) (Fq (μ 1 6) (μ 1 7) mn) w) n) (-1) m8 ν2 (by omega) (by unfold gF; omega) p5 p6 p10 (fun b b1 b2 => by rw [r3 b b1, q3 b b2]) (fun k hk => ⟨by rw [r2 k hk, q2 k hk], by rw [r3 148 (by decide), q2 k hk]⟩)
    simp only [p1, q1, Option.bind_some, p2, p3, p4, r1, if_pos (inb5 hn100 (by decide)), cl5 (show n < 1000 by omega), p7 n (Nat.le_refl _), lt]
    have z1' : l_X10_mossTo_62 (nI n) gF (lseq (μ 1 4) x.2.2.1 x.2.1 (QQ c (cS μ) (Fq (μ 1 6) (μ 1 7) mn) w) n) (-1) 0 m8 = some (b', who', i1, m') := z1
    have z2' : l_X11_mossTo_26 (nI n) gF (-1) (lseq (μ 1 4) x.2.2.1 x.2.1 (QQ c (cS μ) (Fq (μ 1 6) (μ 1 7) mn) w) n) 0 ν2 = some (who', b', i2, ν'') := z2
    simp only [z1', z2', Option.bind_some]
    exact RO.keep h rfl z3 (fun b b1 b2 _ => z4 b b1 b2) z5

def wkN (w : W5) : Nat → Nat
  | 0 => 0
  | n + 1 => if (w n).1 = 0 then wkN w n else wkN w n + 2 ^ n
theorem wkN_lt (w : W5) : ∀ n : Nat, wkN w n < 2 ^ n
  | 0 => Nat.zero_lt_one
  | n + 1 => by
    have ih := wkN_lt w n
    rw [wkN, Nat.pow_succ]
    split <;> omega
theorem or_tab : ∀ n : Nat, n < 5 → ∀ B : Nat, B < 32 → B < 2 ^ n → nI B ||| ((1 : Int32) <<< (nI n &&& 31)) = nI (B + 2 ^ n) := by decide +kernel
theorem wkB_nI (w : W5) : ∀ n : Nat, n ≤ 5 → wkB w n = nI (wkN w n)
  | 0, _ => rfl
  | n + 1, h => by
    have ih := wkB_nI w n (by omega)
    have hl := wkN_lt w n
    have hp : ∀ n : Nat, n < 5 → 2 ^ n ≤ 16 := by decide
    have := hp n (by omega)
    rw [wkB, wkN, ih, or_tab n (by omega) _ (by omega) hl]
    split <;> rfl
def popN (M : Nat) : Nat := M % 2 + M / 2 % 2 + M / 4 % 2 + M / 8 % 2 + M / 16 % 2
theorem ones_ind (a : Int32) (μ μ0 : gMem) : ∀ (n : Nat) (i j : Int32), l_X11_ones_4 a n i j μ = ((l_X11_ones_4 a n i j μ0).map (fun p => (p.1, p.2.1))).map (fun r => (r.1, r.2, μ)) := by
  intro n
  induction n with
  | zero => intro i j; rfl
  | succ n ih =>
    intro i j
    unfold l_X11_ones_4
    simp only [lt]
    split
    · rfl
    · exact ih _ _
theorem ones_tab : ∀ M : Nat, M < 32 → (l_X11_ones_4 (nI M) gF 0 (nI M) (fun _ _ => 0)).map (fun p => (p.1, p.2.1)) = some (nI (popN M), 0) := by decide +kernel
theorem e_ones (M : Nat) (hM : M < 32) (μ : gMem) : f_X11_ones (nI M) μ = some (nI (popN M), μ) := by
  unfold f_X11_ones
  rw [ones_ind _ μ (fun _ _ => 0), ones_tab M hM]
  rfl
theorem bc_tab : ∀ M : Nat, M < 32 → (f_J6_bitCount_0f7a4 (nI M) (fun _ _ => 0)).map (fun p => p.1) = some (nI (popN M)) := by decide +kernel
theorem e_bitCount (M : Nat) (hM : M < 32) (μ : gMem) : f_J6_bitCount_0f7a4 (nI M) μ = some (nI (popN M), μ) := by
  have e : f_J6_bitCount_0f7a4 (nI M) μ = ((f_J6_bitCount_0f7a4 (nI M) (fun _ _ => 0)).map (fun p => p.1)).map (fun r => (r, μ)) := rfl
  rw [e, bc_tab M hM]
  rfl
theorem e_has (M s : Nat) (hM : M < 32) (hs : s < 5) (μ : gMem) : f_X11_has (nI M) (nI s) μ = some (if M / 2 ^ s % 2 = 1 then 1 else 0, μ) := by
  unfold f_X11_has lt
  rw [bit_tab M hM s hs]
  by_cases h : M / 2 ^ s % 2 = 1
  · simp only [h, if_true]
  · simp only [h, if_false]
    rfl
theorem sub_tab0 : ∀ c : Nat, c ≤ 5 → ∀ B : Nat, B < 32 → ∀ M : Nat, M < 32 → ¬ (B < 2 ^ c ∧ 2 ^ c ≤ M ∧ (nI M &&& (nI B ^^^ (-1 : Int32))) = 0) := by decide +kernel
theorem sub_tab : ∀ c : Nat, c ≤ 5 → ∀ B : Nat, B < 32 → B < 2 ^ c → ∀ M : Nat, M < 32 → 2 ^ c ≤ M → ¬ (nI M &&& (nI B ^^^ (-1 : Int32))) = 0 := fun c hc B h1 h2 M h3 h4 z => sub_tab0 c hc B h1 M h3 ⟨h2, h4, z⟩
theorem pow_tab : ∀ c : Nat, c ≤ 5 → (1 : Int32) <<< (nI c &&& 31) = nI (2 ^ c) ∧ 2 ^ c ≤ 32 ∧ 1 ≤ 2 ^ c := by decide
/-- those outside the mask put to rest -/
def mskW (M k : Nat) (w : W5) : W5 := fun s => if s < k ∧ ¬ M / 2 ^ s % 2 = 1 then sitT (w s) else w s
theorem m_restAll (M c : Nat) (hM : M < 32) (hc : c ≤ 5) (i1 i2 i3 : Int32) (ν : gMem) (h1 : ν 140 1 = nI c) (x : V5) (w : W5) (h : mSc (ν 141) (ν 142) x w) : ∃ ν', l_X11_fewest_64 i1 i2 i3 (nI M) gF 0 ν = some (nI c, ν') ∧ mSc (ν' 141) (ν' 142) x (mskW M c w) ∧ ∀ b, b ≠ 142 → ν' b = ν b := by
  have key : ∀ (f k : Nat) (m : gMem), k ≤ c → c - k < f → mSc (m 141) (m 142) x (mskW M k w) → (∀ b, b ≠ 142 → m b = ν b) →
      ∃ ν', l_X11_fewest_64 i1 i2 i3 (nI M) f (nI k) m = some (nI c, ν') ∧ mSc (ν' 141) (ν' 142) x (mskW M c w) ∧ ∀ b, b ≠ 142 → ν' b = ν b := by
    intro f
    induction f with
    | zero => intro k m _ h2; omega
    | succ f ih =>
      intro k m g1 g2 g3 g4
      unfold l_X11_fewest_64
      rw [g4 140 (by decide), h1]
      by_cases hk : k = c
      · subst hk
        rw [if_pos (Int32.le_refl _)]
        exact ⟨m, rfl, g3, g4⟩
      · have hk5 : k < 5 := by omega
        rw [if_neg (nI_ge (by omega) (by omega)), e_has M k hM hk5]
        simp only [Option.bind_some, b01, lt, nI_inc]
        by_cases hb : M / 2 ^ k % 2 = 1
        · rw [if_neg (not_not_intro hb)]
          refine ih (k + 1) m (by omega) (by omega) ?_ g4
          have e : mskW M (k + 1) w = mskW M k w := by
            funext s
            unfold mskW
            by_cases hsk : s = k
            · subst hsk
              rw [if_neg (fun z => z.2 hb), if_neg (fun z => z.2 hb)]
            · have : (s < k + 1 ∧ ¬ M / 2 ^ s % 2 = 1) ↔ (s < k ∧ ¬ M / 2 ^ s % 2 = 1) := by omega
              simp only [this]
          rw [e]
          exact g3
        · rw [if_pos hb]
          obtain ⟨m2, u1, u2, u3, u4, u5, u6⟩ := m_restNow hk5 m
          rw [u1]
          refine ih (k + 1) m2 (by omega) (by omega) ?_ (fun b hb => by rw [u3 b hb]; exact g4 b hb)
          have e : mskW M (k + 1) w = upW (mskW M k w) k (sitT (mskW M k w k)) := by
            funext s
            unfold upW mskW
            by_cases hsk : s = k
            · subst hsk
              simp only [if_true]
              rw [if_pos ⟨by omega, hb⟩, if_neg (fun z => by omega)]
            · rw [if_neg hsk]
              have : (s < k + 1 ∧ ¬ M / 2 ^ s % 2 = 1) ↔ (s < k ∧ ¬ M / 2 ^ s % 2 = 1) := by omega
              simp only [this]
          rw [e]
          exact mSc_rest hk5 g3 (u3 141 (by decide)) u2 u4 u5 u6
  have e0 : mskW M 0 w = w := by
    funext s
    unfold mskW
    rw [if_neg (fun z => by omega)]
  exact key gF 0 ν (by omega) (by unfold gF; omega) (by rw [e0]; exact h) (fun _ _ => rfl)
/-- what is best so far -/
def bO (i : Int32) : Prop := i = -1 ∨ ∃ j : Nat, j < 32 ∧ i = nI j
theorem c_fewest_tail {c B : Nat} (hc : c ≤ 5) (hB : B < 2 ^ c) (i1 : Int32) (m : gMem) (i3 : Int32) (hi : bO i3) : ∀ (f k : Nat), 2 ^ c ≤ k → k ≤ 32 → 32 - k < f → l_X10_fewest_38 i1 (nI B) f i3 (nI k) m = some (i3, nI 32, m) := by
  have hB32 : B < 32 := by have := (pow_tab c hc).2.1; omega
  intro f
  induction f with
  | zero => intro k _ _ h; omega
  | succ f ih =>
    intro k g1 g2 g3
    unfold l_X10_fewest_38
    by_cases hk : k = 32
    · subst hk
      rw [if_pos (show (32 : Int32) ≤ nI 32 from Int32.le_refl _)]
    · rw [if_neg (show ¬ (32 : Int32) ≤ nI k from nI_ge (b := 32) (by omega) (by decide))]
      simp only [lt, if_neg (sub_tab c hc B hB32 hB k (by omega) g1), if_true, nI_inc]
      rcases hi with rfl | ⟨j, hj, rfl⟩
      · rw [if_pos rfl]
        exact ih (k + 1) (by omega) (by omega) (by omega)
      · have hj1 : ¬ nI j = -1 := fun z => absurd (show nI j < 0 by rw [z]; decide) (nI_pos (by omega))
        rw [if_neg hj1, e_bitCount k (by omega)]
        simp only [Option.bind_some, e_bitCount j hj]
        exact ih (k + 1) (by omega) (by omega) (by omega)
theorem s_fewest (i : Int32) {μ ν : gMem} (h : Sim μ ν) : Res (f_X10_fewest i) (f_X11_fewest i) μ ν := by
  obtain ⟨c, x, w, mn, hc, h1, hT, sc1, sc2, hx, hmn, h0, hok, hH⟩ := h.unfold
  show RO (f_X10_fewest i μ) (f_X11_fewest i ν) μ ν
  unfold f_X10_fewest f_X11_fewest
  rw [e_isOutside, e_isFar]
  simp only [Option.bind_some, b01, b10]
  by_cases hk : i < 1 ∨ ¬ i ≤ 99
  · simp only [hk, if_true, not_true, if_false]
    exact RO.rf h rfl
  · simp only [hk, if_false, not_false_eq_true, if_true]
    obtain ⟨n, hn1, hn, rfl⟩ := in1 (b := 99) (by decide) hk
    obtain ⟨m6, p1, p2, p3, p4⟩ := c_takeAll c n mn hc hn μ h1 x w sc1 hx
    obtain ⟨ν1, q1, q2, q3⟩ := m_putAside ν
    have hB := wkN_lt w c
    have hp := pow_tab c hc
    rw [c_workers 16 μ x w sc1, wkB_more h0 5 hc (by omega), wkB_nI w c hc]
    have hw1 : f_X11_working ν1 = some (nI (wkN w c), ν1) := by
      rw [m_working c hc ν1 (by rw [q3 140 (by decide)]; exact hT.2.1) w (fun s hs => by rw [q3 142 (by decide)]; exact (sc2.2 s (by omega)).1), wkB_nI w c hc]
    simp only [Option.bind_some, lt, p1, q1, hw1]
    generalize wkN w c = B at hB
    have hB32 : B < 32 := by omega
    have key : ∀ (f k : Nat) (i3 : Int32) (m ν' : gMem), k ≤ 2 ^ c → 32 - k < f → bO i3 → PR m c n (fun s => pseq (cS μ s) (Fq (μ 1 6) (μ 1 7) mn) (w s)) → (∀ q, (q < 97 ∨ 106 ≤ q) → m q = μ q) → (∀ b, b ≠ 142 → b ≠ 148 → ν' b = ν b) → (∀ k, k < 35 → ν' 142 k = ν 142 k ∧ ν' 148 k = ν 142 k) →
        ∃ (r j1 j2 : Int32) (m' ν'' : gMem), l_X10_fewest_38 (nI n) (nI B) f i3 (nI k) m = some (r, j1, m') ∧ l_X11_fewest_25 (nI n) (nI B) f i3 (nI k) ν' = some (r, j2, ν'') ∧ (∀ q, (q < 97 ∨ 106 ≤ q) → m' q = μ q) ∧ (∀ b, b ≠ 142 → b ≠ 148 → ν'' b = ν b) ∧ (∀ k, k < 35 → ν'' 142 k = ν 142 k) := by
      intro f
      induction f with
      | zero => intro k i3 m ν' _ h2; omega
      | succ f ih =>
        intro k i3 m ν' g1 g2 g3 g4 g5 g6 g7
        by_cases hkc : k = 2 ^ c
        · rw [c_fewest_tail hc hB (nI n) m i3 g3 (f + 1) k (by omega) (by omega) g2]
          unfold l_X11_fewest_25
          rw [g6 140 (by decide) (by decide), hT.2.1, hp.1, hkc, if_pos (Int32.le_refl _)]
          exact ⟨i3, _, _, m, ν', rfl, rfl, g5, g6, fun k hk => (g7 k hk).1⟩
        · have hk32 : k < 32 := by omega
          unfold l_X10_fewest_38 l_X11_fewest_25
          rw [if_neg (show ¬ (32 : Int32) ≤ nI k from nI_ge (b := 32) (by omega) (by decide)), g6 140 (by decide) (by decide), hT.2.1, hp.1, if_neg (nI_ge (show k < 2 ^ c by omega) (by omega))]
          simp only [lt, nI_inc, b01]
          -- one mask asked
          have ask : ∀ (ν3 : gMem) (a2 a3 : Int32), (∀ b, b ≠ 142 → b ≠ 148 → ν3 b = ν b) → (∀ k, k < 35 → ν3 142 k = ν 142 k ∧ ν3 148 k = ν 142 k) → ∃ (m30 ν4 ν5 : gMem) (fq : Int32), f_X2_run (st m 97 4 (nI k) 16 1) (st m 97 4 (nI k) 16 2) (nI n) (st m 97 4 (nI k)) = some m30 ∧ m30 97 6 = fq ∧ l_X11_fewest_64 (nI n) a2 a3 (nI k) gF 0 ν3 = some (nI c, ν4) ∧ f_X11_fullIn (nI n) ν4 = some (fq, ν5) ∧ (fq = -1 ∨ ∃ j : Nat, 1 ≤ j ∧ j ≤ 99 ∧ fq = nI j) ∧ PR m30 c n (fun s => pseq (cS μ s) (Fq (μ 1 6) (μ 1 7) mn) (w s)) ∧ (∀ q, (q < 97 ∨ 106 ≤ q) → m30 q = μ q) ∧ (∀ b, b ≠ 142 → b ≠ 148 → ν5 b = ν b) ∧ (∀ k, k < 35 → ν5 142 k = ν 142 k ∧ ν5 148 k = ν 142 k) := by
            intro ν3 a2 a3 e6 e7
            have f1 : st m 97 4 (nI k) 16 1 = x.2.1 := by rw [st_ne (by decide), g5 16 (by omega), ← sc1.1]; rfl
            have f2 : st m 97 4 (nI k) 16 2 = x.2.2.1 := by rw [st_ne (by decide), g5 16 (by omega), ← sc1.1]; rfl
            rw [f1, f2]
            obtain ⟨m9, z1, z2, z3, z4, z5, z6⟩ := c_run c n k hc hk32 hn (fun s => pseq (cS μ s) (Fq (μ 1 6) (μ 1 7) mn) (w s)) x.2.1 x.2.2.1 (st m 97 4 (nI k)) (by rw [st_ne (by decide), g5 1 (by omega)]; exact h1) (fun s hs j hj => by rw [st_ne (by omega)]; exact g4 s hs j hj) (by rw [st_same, if_pos rfl])
            have hTn := hT.congr (ν' := ν3) (by rw [e6 140 (by decide) (by decide)]) (e6 141 (by decide) (by decide))
            obtain ⟨ν4, u1, u2, u3⟩ := m_restAll k c hk32 hc (nI n) a2 a3 ν3 hTn.2.1 x w (mSc_keep sc2 (e6 141 (by decide) (by decide)) (fun k hk => (e7 k hk).1))
            obtain ⟨ν5, v1, v2, v3⟩ := m_fullIn (hTn.congr (ν' := ν4) (by rw [u3 140 (by decide)]) (u3 141 (by decide))) n hn (by omega) u2 hx (fun s hs hs5 => by unfold mskW; rw [if_neg (fun z => by omega)]; exact h0 s hs hs5)
            rw [st_ne (by decide), g5 1 (by omega), QQ_mask (cS μ) w (mskW k c w) _ (fun s hs => ⟨fun hb => by unfold mskW; rw [if_neg (fun z => z.2 hb)], fun hb => by unfold mskW; rw [if_pos ⟨hs, hb⟩]; rfl⟩)] at z4
            refine ⟨m9, ν4, ν5, _, z1, z4, u1, v1, ?_, fun s hs j hj => by rw [z6 _ (by omega) (by omega), st_ne (by omega)]; exact g4 s hs j hj, fun q hq => by rw [z6 q (by omega) (by omega), st_ne (by omega)]; exact g5 q hq, fun b b1 b2 => by rw [v3 b b1, u3 b b1]; exact e6 b b1 b2, fun k hk => by rw [v2 k hk, v3 148 (by decide), u3 148 (by decide)]; exact ⟨(e7 k hk).2, (e7 k hk).2⟩⟩
            rcases fseq_val (μ 1 4) x.2.2.1 x.2.1 (QQ c (cS μ) (Fq (μ 1 6) (μ 1 7) mn) (mskW k c w)) n with e | ⟨j, j1, j2, j3⟩
            · exact Or.inl e
            · exact Or.inr ⟨j, j1, by omega, j3⟩
          have fq_tab : ∀ fq : Int32, (fq = -1 ∨ ∃ j : Nat, 1 ≤ j ∧ j ≤ 99 ∧ fq = nI j) → ((fq ≤ 0) = (fq = -1)) := by
            rintro fq (rfl | ⟨j, j1, j2, rfl⟩)
            · decide
            · have a1 : ¬ nI j ≤ 0 := nI_nle (by omega) (by omega)
              have a2 : ¬ nI j = -1 := fun z => absurd (show nI j < 0 by rw [z]; decide) (nI_pos (by omega))
              simp [a1, a2]
          have next : ∀ (m30 ν5 : gMem) (fq i3' : Int32), bO i3' → PR m30 c n (fun s => pseq (cS μ s) (Fq (μ 1 6) (μ 1 7) mn) (w s)) → (∀ q, (q < 97 ∨ 106 ≤ q) → m30 q = μ q) → (∀ b, b ≠ 142 → b ≠ 148 → ν5 b = ν b) → (∀ k, k < 35 → ν5 142 k = ν 142 k ∧ ν5 148 k = ν 142 k) → (fq = -1 ∨ ∃ j : Nat, 1 ≤ j ∧ j ≤ 99 ∧ fq = nI j) →
              ∃ (r j1 j2 : Int32) (m' ν'' : gMem), l_X10_fewest_38 (nI n) (nI B) f (if fq = -1 then i3' else nI k) (nI (k + 1)) m30 = some (r, j1, m') ∧ l_X11_fewest_25 (nI n) (nI B) f (if fq ≤ 0 then i3' else nI k) (nI (k + 1)) ν5 = some (r, j2, ν'') ∧ (∀ q, (q < 97 ∨ 106 ≤ q) → m' q = μ q) ∧ (∀ b, b ≠ 142 → b ≠ 148 → ν'' b = ν b) ∧ (∀ k, k < 35 → ν'' 142 k = ν 142 k) := by
            intro m30 ν5 fq i3' hi a1 a2 a3 a4 a5
            simp only [fq_tab fq a5]
            refine ih (k + 1) _ m30 ν5 (by omega) (by omega) ?_ a1 a2 a3 a4
            split
            · exact hi
            · exact Or.inr ⟨k, hk32, rfl⟩
          rcases g3 with rfl | ⟨j, hj, rfl⟩
          · rw [if_pos rfl, if_pos (show (-1 : Int32) < 0 by decide)]
            by_cases hsub : (nI k &&& (nI B ^^^ (-1 : Int32))) = 0
            · rw [if_pos hsub, if_neg (not_not_intro hsub)]
              obtain ⟨m30, ν4, ν5, fq, b1, b2, b3, b4, b5, b6, b7, b8, b9⟩ := ask ν' (nI B) (-1) g6 g7
              simp only [b1, b2, b3, b4, Option.bind_some]
              exact next m30 ν5 fq (-1) (Or.inl rfl) b6 b7 b8 b9 b5
            · rw [if_neg hsub, if_pos hsub]
              exact ih (k + 1) (-1) m ν' (by omega) (by omega) (Or.inl rfl) g4 g5 g6 g7
          · have hj1 : ¬ nI j = -1 := fun z => absurd (show nI j < 0 by rw [z]; decide) (nI_pos (by omega))
            rw [if_neg hj1, if_neg (show ¬ nI j < 0 from nI_pos (by omega)), e_bitCount k hk32, e_ones k hk32]
            simp only [Option.bind_some, e_bitCount j hj, e_ones j hj, b10]
            by_cases hsub : (nI k &&& (nI B ^^^ (-1 : Int32))) = 0
            · rw [if_pos hsub, if_neg (not_not_intro hsub)]
              by_cases hpop : nI (popN j) ≤ nI (popN k)
              · rw [if_pos hpop, if_pos hpop]
                exact ih (k + 1) (nI j) m ν' (by omega) (by omega) (Or.inr ⟨j, hj, rfl⟩) g4 g5 g6 g7
              · rw [if_neg hpop, if_neg hpop]
                obtain ⟨m30, ν4, ν5, fq, b1, b2, b3, b4, b5, b6, b7, b8, b9⟩ := ask ν' (nI B) (nI j) g6 g7
                simp only [b1, b2, b3, b4, Option.bind_some]
                exact next m30 ν5 fq (nI j) (Or.inr ⟨j, hj, rfl⟩) b6 b7 b8 b9 b5
            · rw [if_neg hsub, if_pos hsub]
              exact ih (k + 1) (nI j) m ν' (by omega) (by omega) (Or.inr ⟨j, hj, rfl⟩) g4 g5 g6 g7
    obtain ⟨r, j1, j2, m', ν'', z1, z2, z3, z4, z5⟩ := key gF 0 (-1) m6 ν1 (by omega) (by unfold gF; omega) (Or.inl rfl) p2 (fun q hq => p4 q (by omega)) (fun b b1 b2 => q3 b b2) (fun k hk => ⟨by rw [q3 142 (by decide)], q2 k hk⟩)
    have z1' : l_X10_fewest_38 (nI n) (nI B) gF (-1) 0 m6 = some (r, j1, m') := z1
    have z2' : l_X11_fewest_25 (nI n) (nI B) gF (-1) 0 ν1 = some (r, j2, ν'') := z2
    simp only [z1', z2', Option.bind_some]
    exact RO.keep h rfl z3 (fun b b1 b2 _ => z4 b b1 b2) z5

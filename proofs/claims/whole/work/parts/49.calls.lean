theorem in1 {i : Int32} {b : Nat} (hb : b < 100000) (h : ¬ (i < 1 ∨ ¬ i ≤ nI b)) : ∃ k : Nat, 1 ≤ k ∧ k ≤ b ∧ i = nI k := by
  have h1 : ¬ i < 1 := fun z => h (Or.inl z)
  have h2 : i ≤ nI b := Classical.byContradiction fun z => h (Or.inr z)
  have h0 : ¬ i < 0 := fun z => h1 (Int32.lt_trans z (by decide))
  obtain ⟨k, hk, rfl⟩ := nI_of h0
  refine ⟨k, ?_, (nI_leI hk (by omega)).mp h2, rfl⟩
  apply Classical.byContradiction
  intro z
  have : k = 0 := by omega
  subst this
  exact h1 (by decide)
theorem rng_nI {x : Int32} {b : Nat} (hb : b < 100000) (h : rng x b) : ∃ k : Nat, k ≤ b ∧ x = nI k := by
  obtain ⟨h1, h2⟩ := h
  have h0 : ¬ x < 0 := by
    intro z
    have z' := Int32.lt_iff_toInt_lt.mp z
    have : (0 : Int32).toInt = 0 := by decide
    omega
  obtain ⟨k, hk, rfl⟩ := nI_of h0
  rw [nI_toInt hk] at h2
  exact ⟨k, by omega, rfl⟩
theorem nI_rng {k b : Nat} (hk : k ≤ b) (hb : b < 100000) : rng (nI k) b := by
  unfold rng
  rw [nI_toInt (by omega)]
  omega
theorem s_go (i : Int32) {μ ν : gMem} (h : Sim μ ν) : Res (f_X10_go i) (f_X11_go i) μ ν := by
  obtain ⟨t, ⟨x, w, sc1, sc2, sc3⟩, -⟩ := id h
  unfold Res f_X10_go f_X11_go
  rw [e_isOutside, e_in0 i 1 99 ν 1 99 rfl rfl]
  simp only [Option.bind_some, b01, b10]
  by_cases hc : i < 1 ∨ ¬ i ≤ 99
  · simp only [hc, if_true, not_true, if_false]
    exact ⟨-3, μ, ν, rfl, rfl, h, fun _ _ => rfl, fun _ _ => rfl⟩
  · simp only [hc, if_false, not_false_eq_true, if_true, Int32.reduceToNatClampNeg]
    obtain ⟨n0, hn1, hn2, rfl⟩ := in1 (b := 99) (by decide) hc
    have ec : μ 16 0 = x.1 := by rw [← sc1.1]; rfl
    have em : ν 142 30 = x.1 := by rw [← sc2.1]; rfl
    rw [ec, em]
    obtain ⟨o1, orest⟩ := id sc3
    obtain ⟨mn, hmn, emn⟩ := rng_nI (by decide) o1
    rw [emn, nI_add]
    by_cases hf : mn + n0 ≤ 999
    · have hf' : nI (mn + n0) ≤ (999 : Int32) := nI_le (b := 999) hf (by decide)
      simp only [hf', if_true]
      obtain ⟨μ1, ν1, p1, p2, p3, p4, p5, p6⟩ := s_push h
      have e141 : ν1 141 = ν 141 := p6 141 (by decide) (by decide)
      have e142 : ν1 142 = ν 142 := p6 142 (by decide) (by decide)
      have k1 : μ1 1 = μ 1 := p4 1 (by decide) (by omega)
      have kc : cnt μ1 = cnt μ := by unfold cnt; rw [k1]
      obtain ⟨μ2, ν2, x', w', r1, r2, r3, r4, r5, r6, r7⟩ := s_goloop n0 hn2 gF 0 mn μ1 ν1 x w (by omega) (by unfold gF; omega) (by omega) (t.congr k1 (fun s hs => p4 _ (by omega) (by omega)) (p5 1 (by decide)) e141)
        ⟨by rw [p4 16 (by decide) (by omega)]; exact sc1.1, fun s hs => by rw [p4 _ (by omega) (by omega)]; exact sc1.2 s hs⟩ (by rw [e141, e142]; exact sc2) (by rw [k1, kc]; exact ⟨by rw [emn]; exact nI_rng (Nat.le_refl _) (by omega), orest⟩)
      have r1' : l_X10_go_44 (nI n0) gF 0 μ1 = some (nI n0, μ2) := r1
      have r2' : l_X11_go_39 (nI n0) gF 0 ν1 = some (nI n0, ν2) := r2
      simp only [p1, p2, Option.bind_some, r1', r2']
      have f1 : μ2 16 1 = x'.2.1 := by rw [← r3.1]; rfl
      have f2 : ν2 142 31 = x'.2.1 := by rw [← r4.1]; rfl
      refine ⟨x'.2.1, μ2, ν2, by rw [f1], by rw [f2], ?_, fun a ha => by rw [r6 a (by omega) (fun s hs => by omega), p4 a (by omega) (by omega)], fun a ha => by rw [r7 a (by omega), p6 a (by omega) (by omega)]⟩
      exact h.deed p3 p4 p5 p6 ⟨x', w', r3, r4, r5⟩ r6 r7
    · have hf' : ¬ nI (mn + n0) ≤ (999 : Int32) := nI_ge (a := 999) (by omega) (by omega)
      simp only [hf', if_false]
      exact ⟨-5, μ, ν, rfl, rfl, h, fun _ _ => rfl, fun _ _ => rfl⟩
theorem less_tab : ∀ k : Nat, k ≤ 9 → ∀ n : Nat, n ≤ 9 → (if 0 < nI k - nI n then nI k - nI n else 0) = nI (k - n) ∧ (if nI n ≤ nI k then nI k - nI n else 0) = nI (k - n) := by decide
theorem s_smear (i : Int32) {μ ν : gMem} (h : Sim μ ν) : Res (f_X10_smear i) (f_X11_smear i) μ ν := by
  obtain ⟨t, ⟨x, w, sc1, sc2, sc3⟩, -⟩ := id h
  unfold Res f_X10_smear f_X11_smear
  rw [e_isOutside, e_in0 i 1 9 ν 1 9 rfl rfl]
  simp only [Option.bind_some, b01, b10]
  by_cases hc : i < 1 ∨ ¬ i ≤ 9
  · simp only [hc, if_true, not_true, if_false]
    exact ⟨-3, μ, ν, rfl, rfl, h, fun _ _ => rfl, fun _ _ => rfl⟩
  · simp only [hc, if_false, not_false_eq_true, if_true, Int32.reduceToNatClampNeg]
    obtain ⟨n0, hn1, hn2, rfl⟩ := in1 (b := 9) (by decide) hc
    have ec : μ 16 2 = x.2.2.1 := by rw [← sc1.1]; rfl
    have em : ν 142 32 = x.2.2.1 := by rw [← sc2.1]; rfl
    rw [ec, em]
    by_cases h0 : x.2.2.1 = 0
    · simp only [h0, if_true]
      exact ⟨-4, μ, ν, rfl, rfl, h, fun _ _ => rfl, fun _ _ => rfl⟩
    · simp only [h0, if_false]
      obtain ⟨μ1, ν1, p1, p2, p3, p4, p5, p6⟩ := s_push h
      have e141 : ν1 141 = ν 141 := p6 141 (by decide) (by decide)
      have e142 : ν1 142 = ν 142 := p6 142 (by decide) (by decide)
      have e16 : μ1 16 = μ 16 := p4 16 (by decide) (by omega)
      have k1 : μ1 1 = μ 1 := p4 1 (by decide) (by omega)
      obtain ⟨o1, ⟨k, hk, ek⟩, o3, o4, o5⟩ := id sc3
      have lt1 := less_tab k hk n0 hn2
      unfold f_X11_less
      simp only [p1, p2, Option.bind_some, lt, e142, e16, ec, em, ek, lt1.1, lt1.2, st_same, if_true]
      refine ⟨_, _, _, rfl, rfl, ?_, fun a ha => by rw [st_ne (by omega), p4 a (by omega) (by omega)], fun a ha => by rw [st_ne (by omega), p6 a (by omega) (by omega)]⟩
      refine h.deed p3 p4 p5 p6 ?_ (fun q hq _ => st_ne hq) (fun b hb => st_ne hb)
      refine ⟨(x.1, x.2.1, nI (k - n0), x.2.2.2.1, x.2.2.2.2), w, ⟨?_, fun s hs => by rw [st_ne (by omega), p4 _ (by omega) (by omega)]; exact sc1.2 s hs⟩, ⟨?_, fun s hs => ?_⟩, ?_⟩
      · rw [← sc1.1]
        simp [v5, st_row, e16]
      · rw [← sc2.1]
        simp [v5, st_row, e142]
      · rw [st_ne (by decide), e141]
        exact mrep_congr (fun q hq => by rw [st_same, if_neg (by omega), e142]) (sc2.2 s hs)
      · unfold cnt
        rw [st_ne (by decide), k1]
        exact ⟨o1, ⟨k - n0, by omega, rfl⟩, o3, o4, o5⟩
theorem s_seen (i j : Int32) {μ ν : gMem} (h : Sim μ ν) : Res (f_X10_seen i j) (f_X11_seen i j) μ ν := by
  unfold Res f_X10_seen f_X11_seen
  rw [e_isOutside, e_in0 i 0 99 ν 0 99 rfl rfl]
  simp only [Option.bind_some, b01, b10, e_isOutside, e_in0 j 0 99 ν 0 99 rfl rfl]
  by_cases hc : i < 0 ∨ ¬ i ≤ 99
  · simp only [hc, if_true, not_true, if_false]
    exact ⟨-3, μ, ν, rfl, rfl, h, fun _ _ => rfl, fun _ _ => rfl⟩
  · simp only [hc, if_false, not_false_eq_true, if_true]
    by_cases hc2 : j < 0 ∨ ¬ j ≤ 99
    · simp only [hc2, if_true, not_true, if_false]
      exact ⟨-3, μ, ν, rfl, rfl, h, fun _ _ => rfl, fun _ _ => rfl⟩
    · simp only [hc2, if_false, not_false_eq_true, if_true]
      obtain ⟨a, ha, rfl⟩ := in0 (b := 99) (by decide) hc
      obtain ⟨t, s, u, k, x, ⟨q, x1, x2, x3, x4⟩, z⟩ := id h
      rw [x2, x3]
      by_cases hq : q = 6
      · subst hq
        rw [if_neg (by decide), if_pos (by decide)]
        exact ⟨-5, μ, ν, rfl, rfl, h, fun _ _ => rfl, fun _ _ => rfl⟩
      · have hq6 : q < 6 := by omega
        rw [if_pos (show nI q < (6 : Int32) from nI_lt hq6 (by decide)), if_neg (show ¬ nI q = (6 : Int32) from fun z => hq ((nI_eq (a := q) (b := 6) (by omega) (by decide)).mp z))]
        have e2 : (2 : Int32) * nI q = nI (2 * q) := by rw [show (2 : Int32) = nI 2 from rfl, pk_mul]
        rw [if_pos (inb5 hq6 (by decide)), e2, if_pos (inb5 (show 2 * q < 12 by omega) (by decide)), cl5 (show q < 1000 by omega), cl5 (show 2 * q < 1000 by omega)]
        simp only [lt]
        rw [st_ne (show (0 : Nat) ≠ 138 by decide), x2, st_ne (show (140 : Nat) ≠ 150 by decide), x3, e2, nI_1, if_pos (inb5 hq6 (by decide)), if_pos (inb5 (show 2 * q + 1 < 12 by omega) (by decide)), cl5 (show q < 1000 by omega), cl5 (show 2 * q + 1 < 1000 by omega)]
        refine ⟨nI (q + 1), st (st (st μ 138 q (nI a)) 139 q j) 0 11 (nI (q + 1)), st (st (st ν 150 (2 * q) (nI a)) 150 (2 * q + 1) j) 140 19 (nI (q + 1)), ?_, ?_, ?_, fun a ha => by rw [st_ne (by omega), st_ne (by omega), st_ne (by omega)], fun a ha => by rw [st_ne (by omega), st_ne (by omega), st_ne (by omega)]⟩
        · simp [st_row, x2, nI_1]
        · simp [st_row, x3, nI_1]
        · refine ⟨t.congr (by simp [st_ne]) (fun s hs => by rw [st_ne (by omega), st_ne (by omega), st_ne (by omega)]) (by simp [st_row]) (by simp [st_ne]), s.congr (by simp [st_ne]) (by simp [st_ne]) (fun s hs => by rw [st_ne (by omega), st_ne (by omega), st_ne (by omega)]) (by simp [st_ne]) (fun k _ => by simp [st_row]), u.congr (by simp [st_ne]) (by simp [st_ne]) (fun a h1 h2 => by rw [st_ne (by omega), st_ne (by omega), st_ne (by omega)]) (by simp [st_row]) (by simp [st_ne]) (by simp [st_ne]), k.congr (by simp [st_ne]) (by simp [st_ne]) (fun a h1 h2 => by rw [st_ne (by omega), st_ne (by omega), st_ne (by omega)]) (by simp [st_ne]) (by simp [st_ne]) (by simp [st_ne]), x.congr (by simp [st_row]) (by simp [st_ne]) (by simp [st_row]) (by simp [st_ne]), ⟨q + 1, by omega, by simp [st_row], by simp [st_row], fun i hi => ?_⟩, z.congr (fun k _ => by simp [st_row])⟩
          by_cases hiq : i = q
          · subst hiq
            simp [st_row]
            exact ⟨a, ha, rfl⟩
          · have h2 : ¬ 2 * i = 2 * q + 1 := by omega
            have h3 : ¬ 2 * i + 1 = 2 * q := by omega
            have h4 : ¬ 2 * i = 2 * q := by omega
            simp [st_row, hiq, h2, h3, h4]
            exact x4 i (by omega)

theorem s_undo {μ ν : gMem} (h : Sim μ ν) : Res f_X10_undo f_X11_undo μ ν := by
  obtain ⟨t, -, ⟨p, u, hp, hu, a3, a4, a5, a6⟩, kk, x, n, z⟩ := id h
  unfold Res f_X10_undo f_X11_undo f_X4_pop
  rw [a4, a5]
  by_cases h0 : u = 0
  · subst h0
    have e0 : nI 0 = (0 : Int32) := rfl
    simp only [e0, if_true, Option.bind_some, lt]
    exact ⟨-4, μ, ν, rfl, rfl, h, fun _ _ => rfl, fun _ _ => rfl⟩
  · have h0' : ¬ nI u = 0 := nI_ne0 (by omega) (by omega)
    simp only [h0', if_false, lt, a3]
    obtain ⟨v, rfl⟩ : ∃ v, u = v + 1 := ⟨u - 1, by omega⟩
    have e8 : nI p + 8 - 1 - (nI p + 8 - 1) / 8 * 8 = nI ((p + 7) % 8) := by
      have : ∀ p : Nat, p < 8 → nI p + 8 - 1 - (nI p + 8 - 1) / 8 * 8 = nI ((p + 7) % 8) := by decide
      exact this p hp
    simp only [e8, st_row, Nat.reduceEqDiff, and_false, if_false, a4, a5, nI_pred, and_self, if_true, true_and]
    obtain ⟨pp, hpp⟩ : ∃ pp, pp = (p + 7) % 8 := ⟨_, rfl⟩
    rw [← hpp]
    have hpp8 : pp < 8 := by omega
    rw [if_pos (inb5 hpp8 (by decide)), cl5 (by omega)]
    obtain ⟨m, p1, p2, p3, p4⟩ := c_copy 16 (24 + 1 + 7 * pp) (by omega) (st (st μ 23 1 (nI pp)) 23 2 (nI v))
    rw [p1]
    obtain ⟨m2, q1, q2, q3, q4⟩ := lp_undo v (by omega) (st ν 140 13 (nI v)) (by simp [st_row]) gF 0 (st ν 140 13 (nI v)) (by omega) (by unfold gF; omega) (fun j hj => by omega) (fun _ _ => rfl) (fun _ _ => rfl)
    have q1' : l_X11_undo_22 gF 0 (st ν 140 13 (nI v)) = some (nI 35, m2) := q1
    simp only [q1', Option.bind_some, if_neg (show ¬ (1 : Int32) = 0 by decide)]
    have m23 : m 23 2 = nI v := by rw [p4 23 (by decide) (fun s _ => by omega)]; simp [st_row]
    have n13 : m2 140 13 = nI v := by rw [q4 140 (by decide)]; simp [st_row]
    refine ⟨nI v, m, m2, by rw [m23], by rw [n13], ?_, fun a ha => by rw [p4 a (by omega) (fun s _ => by omega), st_ne (by omega), st_ne (by omega)], fun a ha => by rw [q4 a (by omega), st_ne (by omega)]⟩
    have kc : ∀ q, q ≠ 23 → (q < 16 ∨ 23 ≤ q) → m q = μ q := fun q g1 g2 => by rw [p4 q (by omega) (fun s _ => by omega), st_ne g1, st_ne g1]
    have km : ∀ b, b ≠ 140 → b ≠ 142 → m2 b = ν b := fun b g1 g2 => by rw [q4 b g2, st_ne g1]
    have kn : ∀ k, k ≠ 13 → m2 140 k = ν 140 k := fun k hk => by rw [q4 140 (by decide), st_same, if_neg hk]
    have k1 : m 1 = μ 1 := kc 1 (by decide) (by omega)
    refine ⟨t.congr k1 (fun s hs => kc _ (by omega) (by omega)) (kn 1 (by decide)) (km 141 (by decide) (by decide)), ?_, ?_, kk.congr k1 (kc 96 (by decide) (by omega)) (fun a h1 h2 => kc a (by omega) (by omega)) (km 146 (by decide) (by decide)) (km 141 (by decide) (by decide)) (km 147 (by decide) (by decide)),
      x.congr (by rw [kc 8 (by decide) (by omega)]) (kc 9 (by decide) (by omega)) (kn 4 (by decide)) (km 143 (by decide) (by decide)), n.congr (by rw [kc 0 (by decide) (by omega)]) (kc 138 (by decide) (by omega)) (kc 139 (by decide) (by omega)) (kn 19 (by decide)) (km 150 (by decide) (by decide)), z.congr (fun k _ => by rw [kc 129 (by decide) (by omega)])⟩
    · obtain ⟨X, W, c1, c2, c3⟩ := a6 v (by omega)
      have epp : (p + 8 - (v + 1) + v) % 8 = pp := by omega
      rw [epp] at c1
      have e25 : 24 + 1 + 7 * pp = 25 + 7 * pp := by omega
      rw [e25] at p2 p3
      refine ⟨X, W, ⟨?_, fun s hs => ?_⟩, ?_, by unfold cnt; rw [k1]; exact c3⟩
      · rw [p2, st_ne (by omega), st_ne (by omega)]; exact c1.1
      · rw [p3 s hs, st_ne (by omega), st_ne (by omega)]; exact c1.2 s hs
      · rw [km 141 (by decide) (by decide)]
        exact mSc_congr (fun k hk => by rw [q2 k hk, st_ne (by decide)]) c2
    · refine ⟨pp, v, hpp8, by omega, ?_, m23, n13, fun i hi => ?_⟩
      · rw [p4 23 (by decide) (fun s _ => by omega)]; simp [st_row]
      · have := a6 i (by omega)
        have e : (p + 8 - (v + 1) + i) % 8 = (pp + 8 - v + i) % 8 := by omega
        rw [e] at this
        exact this.congr k1 (kc _ (by omega) (by omega)) (fun s hs => kc _ (by omega) (by omega)) (km 141 (by decide) (by decide)) (fun k _ => by rw [km 145 (by decide) (by decide)])
theorem s_keep (i : Int32) {μ ν : gMem} (h : Sim μ ν) : Res (f_X10_keep i) (f_X11_keep i) μ ν := by
  obtain ⟨t, ⟨X, W, c1, c2, c3⟩, u, kk, x, n, z⟩ := id h
  unfold Res f_X10_keep f_X11_keep
  rw [e_isOutside, e_in0 i 0 1 ν 0 1 rfl rfl]
  simp only [Option.bind_some, b01, b10]
  by_cases hc : i < 0 ∨ ¬ i ≤ 1
  · simp only [hc, if_true, not_true, if_false]
    exact ⟨-2, μ, ν, rfl, rfl, h, fun _ _ => rfl, fun _ _ => rfl⟩
  · simp only [hc, if_false, not_false_eq_true, if_true]
    obtain ⟨v, hv, rfl⟩ := in0 (b := 1) (by decide) hc
    have hv2 : v < 2 := by omega
    simp only [if_pos (inb5 hv2 (by decide)), cl5 (show v < 1000 by omega), Int32.reduceToNatClampNeg]
    have e81 : 81 + 1 + 7 * v = 82 + 7 * v := by omega
    rw [e81]
    obtain ⟨m, p1, p2, p3, p4⟩ := c_copy (82 + 7 * v) 16 (by omega) μ
    obtain ⟨m2, q1, q2, q3, q4⟩ := lp_keep v hv2 ν gF 0 ν (by omega) (by unfold gF; omega) (fun j hj => by omega) (fun _ _ => rfl) (fun _ _ => rfl)
    have q1' : l_X11_keep_15 (nI v) gF 0 ν = some (nI 35, m2) := q1
    simp only [p1, q1', Option.bind_some, lt]
    have f1 : st m 96 v 1 16 0 = X.1 := by rw [st_ne (by decide), p4 16 (by omega) (fun s _ => by omega), ← c1.1]; rfl
    have f2 : st m2 146 v 1 142 30 = X.1 := by rw [st_ne (by decide), q4 142 (by decide), ← c2.1]; rfl
    refine ⟨X.1, _, _, by rw [f1], by rw [f2], ?_, fun a ha => by rw [st_ne (by omega), p4 a (by omega) (fun s _ => by omega)], fun a ha => by rw [st_ne (by omega), q4 a (by omega)]⟩
    have kc : ∀ q, (q < 82 ∨ 97 ≤ q) → st m 96 v 1 q = μ q := fun q g2 => by rw [st_ne (by omega), p4 q (by omega) (fun s _ => by omega)]
    have km : ∀ b, b ≠ 147 → b ≠ 146 → st m2 146 v 1 b = ν b := fun b g1 g2 => by rw [st_ne g2, q4 b g1]
    have k1 : st m 96 v 1 1 = μ 1 := kc 1 (by omega)
    refine ⟨t.congr k1 (fun s hs => kc _ (by omega)) (by rw [km 140 (by decide) (by decide)]) (km 141 (by decide) (by decide)), ?_, u.congr k1 (kc 23 (by omega)) (fun a h1 h2 => kc a (by omega)) (by rw [km 140 (by decide) (by decide)]) (km 141 (by decide) (by decide)) (km 145 (by decide) (by decide)), ?_,
      x.congr (by rw [kc 8 (by omega)]) (kc 9 (by omega)) (by rw [km 140 (by decide) (by decide)]) (km 143 (by decide) (by decide)), n.congr (by rw [kc 0 (by omega)]) (kc 138 (by omega)) (kc 139 (by omega)) (by rw [km 140 (by decide) (by decide)]) (km 150 (by decide) (by decide)), z.congr (fun k _ => by rw [kc 129 (by omega)])⟩
    · exact SC.congr ⟨X, W, c1, c2, c3⟩ k1 (kc 16 (by omega)) (fun s hs => kc _ (by omega)) (km 141 (by decide) (by decide)) (fun k _ => by rw [km 142 (by decide) (by decide)])
    · intro k hk
      have m96 : m 96 = μ 96 := p4 96 (by omega) (fun s _ => by omega)
      have n146 : m2 146 = ν 146 := q4 146 (by decide)
      by_cases hkv : k = v
      · subst hkv
        refine ⟨by rw [st_same, st_same, if_pos rfl, if_pos rfl], Or.inr (by rw [st_same, if_pos rfl]), fun _ => ⟨X, W, ⟨?_, fun s hs => ?_⟩, ?_, by unfold cnt; rw [k1]; exact c3⟩⟩
        · rw [st_ne (by omega), p2]; exact c1.1
        · rw [st_ne (by omega), p3 s hs]; exact c1.2 s hs
        · rw [km 141 (by decide) (by decide)]
          refine mSc_congr (fun j hj => ?_) c2
          rw [st_ne (by decide)]
          exact q2 j hj
      · obtain ⟨b1, b2, b3⟩ := kk k hk
        rw [st_same, st_same, if_neg hkv, if_neg hkv, m96, n146]
        refine ⟨b1, b2, fun y => (b3 y).congr k1 (by rw [st_ne (by omega), p4 _ (by omega) (fun s _ => by omega)]) (fun s hs => by rw [st_ne (by omega), p4 _ (by omega) (fun s2 _ => by omega)]) (km 141 (by decide) (by decide)) (fun j hj => ?_)⟩
        rw [st_ne (by decide)]
        exact q3 _ (by omega)
theorem s_back (i : Int32) {μ ν : gMem} (h : Sim μ ν) : Res (f_X10_back i) (f_X11_back i) μ ν := by
  obtain ⟨t, -, ⟨pq, uq, u1, u2, u3, u4, u5, u6⟩, kk, x, n, z⟩ := id h
  unfold Res f_X10_back f_X11_back
  rw [e_isOutside, e_in0 i 0 1 ν 0 1 rfl rfl]
  simp only [Option.bind_some, b01, b10]
  by_cases hc : i < 0 ∨ ¬ i ≤ 1
  · simp only [hc, if_true, not_true, if_false]
    exact ⟨-2, μ, ν, rfl, rfl, h, fun _ _ => rfl, fun _ _ => rfl⟩
  · simp only [hc, if_false, not_false_eq_true, if_true]
    obtain ⟨v, hv, rfl⟩ := in0 (b := 1) (by decide) hc
    have hv2 : v < 2 := by omega
    simp only [if_pos (inb5 hv2 (by decide)), cl5 (show v < 1000 by omega), Int32.reduceToNatClampNeg]
    obtain ⟨b1, b2, b3⟩ := kk v hv2
    rw [← b1]
    by_cases h0 : μ 96 v = 0
    · simp only [h0, if_true]
      exact ⟨-4, μ, ν, rfl, rfl, h, fun _ _ => rfl, fun _ _ => rfl⟩
    · simp only [h0, if_false]
      obtain ⟨X, W, c1, c2, c3⟩ := b3 (b2.resolve_left h0)
      have e81 : 81 + 1 + 7 * v = 82 + 7 * v := by omega
      rw [e81]
      obtain ⟨m, p1, p2, p3, p4⟩ := c_copy 16 (82 + 7 * v) (by omega) μ
      obtain ⟨m2, q1, q2, q3, q4⟩ := lp_back v hv2 ν gF 0 ν (by omega) (by unfold gF; omega) (fun j hj => by omega) (fun _ _ => rfl) (fun _ _ => rfl)
      have q1' : l_X11_back_27 (nI v) gF 0 ν = some (nI 35, m2) := q1
      simp only [p1, q1', Option.bind_some, lt]
      have km : ∀ b, b ≠ 140 → b ≠ 142 → st m2 140 13 0 b = ν b := fun b g1 g2 => by rw [st_ne g1, q4 b g2]
      have kn : ∀ k, k ≠ 13 → st m2 140 13 0 140 k = ν 140 k := fun k hk => by rw [st_same, if_neg hk, q4 140 (by decide)]
      have kc : ∀ q, q ≠ 23 → (q < 16 ∨ 23 ≤ q) → st m 23 2 0 q = μ q := fun q g1 g2 => by rw [st_ne g1, p4 q (by omega) (fun s _ => by omega)]
      have k1 : st m 23 2 0 1 = μ 1 := kc 1 (by decide) (by omega)
      have hS : cSc (st m 23 2 0) 16 X W := ⟨by rw [st_ne (by decide), p2]; exact c1.1, fun s hs => by rw [st_ne (by omega), p3 s hs]; exact c1.2 s hs⟩
      have hM : mSc (st m2 140 13 0 141) (st m2 140 13 0 142) X W := by
        rw [km 141 (by decide) (by decide)]
        refine mSc_congr (fun k hk => ?_) c2
        rw [st_ne (by decide)]
        exact q2 k hk
      have f1 : st m 23 2 0 16 0 = X.1 := by rw [← hS.1]; rfl
      have f2 : st m2 140 13 0 142 30 = X.1 := by rw [← hM.1]; rfl
      refine ⟨X.1, _, _, by rw [f1], by rw [f2], ?_, fun a ha => kc a (by omega) (by omega), fun a ha => km a (by omega) (by omega)⟩
      refine ⟨t.congr k1 (fun s hs => kc _ (by omega) (by omega)) (kn 1 (by decide)) (km 141 (by decide) (by decide)), ⟨X, W, hS, hM, by unfold cnt; rw [k1]; exact c3⟩, ⟨pq, 0, u1, by omega, ?_, by simp [st_row]; rfl, by simp [st_row]; rfl, fun i hi => by omega⟩, kk.congr k1 (kc 96 (by decide) (by omega)) (fun a h1 h2 => kc a (by omega) (by omega)) (km 146 (by decide) (by decide)) (km 141 (by decide) (by decide)) (km 147 (by decide) (by decide)),
        x.congr (by rw [kc 8 (by decide) (by omega)]) (kc 9 (by decide) (by omega)) (kn 4 (by decide)) (km 143 (by decide) (by decide)), n.congr (by rw [kc 0 (by decide) (by omega)]) (kc 138 (by decide) (by omega)) (kc 139 (by decide) (by omega)) (kn 19 (by decide)) (km 150 (by decide) (by decide)), z.congr (fun k _ => by rw [kc 129 (by decide) (by omega)])⟩
      rw [st_same, if_neg (by decide), p4 23 (by decide) (fun s _ => by omega)]
      exact u3

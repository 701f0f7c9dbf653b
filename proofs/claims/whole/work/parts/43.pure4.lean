theorem mrep_congr {S : V5} {R R' : Nat → Int32} {s : Nat} {mn : Int32} {w : V5} (h : ∀ q, q ≤ 5 → R' (5 * q + s) = R (5 * q + s)) (hr : mrep S R s mn w) : mrep S R' s mn w := by
  have e0 := h 0 (by omega)
  have e1 := h 1 (by omega)
  have e2 := h 2 (by omega)
  have e3 := h 3 (by omega)
  have e4 := h 4 (by omega)
  have e5 := h 5 (by omega)
  simp only [Nat.mul_zero, Nat.zero_add, Nat.mul_one, Nat.reduceMul] at e0 e1 e2 e3 e4 e5
  unfold mrep at hr ⊢
  rw [e0, e1, e2, e3, e4, e5]
  exact hr
/-- the reference's scene, in a row -/
def mSc (T R : Nat → Int32) (x : V5) (w : W5) : Prop := v5 (fun k => R (30 + k)) = x ∧ ∀ s, s < 5 → mrep (mS T s) R s x.1 (w s)
theorem m_loop (c : Nat) (hc : c ≤ 5) (μ0 : gMem) (w : W5) (h1 : μ0 140 1 = nI c) (hS : ∀ s, s < c → sok (mS (μ0 141) s)) (hm : rng (μ0 142 30) 1999) : ∀ (n s : Nat) (i1 : Int32) (μ : gMem), s ≤ c → c - s < n → i1 = sumP (fun j => (pmT (mS (μ0 141) j) (frT (μ0 141 2) (μ0 141 3) (μ0 142 30)) (w j)).1) s →
    (∀ j, j < s → mrep (mS (μ0 141) j) (μ 142) j (μ0 142 30 + 1) (pmT (mS (μ0 141) j) (frT (μ0 141 2) (μ0 141 3) (μ0 142 30)) (w j)).2) → (∀ j, s ≤ j → j < 5 → mrep (mS (μ0 141) j) (μ 142) j (μ0 142 30) (w j)) → (∀ k, 30 ≤ k → μ 142 k = μ0 142 k) → (∀ b, b ≠ 142 → μ b = μ0 b) →
    ∃ μ', l_X11_oneMinute_4 n i1 (nI s) μ = some (sumP (fun j => (pmT (mS (μ0 141) j) (frT (μ0 141 2) (μ0 141 3) (μ0 142 30)) (w j)).1) c, nI c, μ') ∧ (∀ j, j < c → mrep (mS (μ0 141) j) (μ' 142) j (μ0 142 30 + 1) (pmT (mS (μ0 141) j) (frT (μ0 141 2) (μ0 141 3) (μ0 142 30)) (w j)).2) ∧ (∀ j, c ≤ j → j < 5 → mrep (mS (μ0 141) j) (μ' 142) j (μ0 142 30) (w j)) ∧ (∀ k, 30 ≤ k → μ' 142 k = μ0 142 k) ∧ (∀ b, b ≠ 142 → μ' b = μ0 b) := by
  intro n
  induction n with
  | zero => intro s i1 μ h2 h3; omega
  | succ n ih =>
    intro s i1 μ h2 h3 h4 h5 h6 h7 h8
    unfold l_X11_oneMinute_4
    rw [h8 140 (by decide), h1]
    by_cases hs : s = c
    · subst hs
      rw [if_pos (Int32.le_refl _)]
      exact ⟨μ, by rw [h4], h5, h6, h7, h8⟩
    · have hlt : s < c := by omega
      rw [if_neg (nI_ge hlt (by omega))]
      have e141 : μ 141 = μ0 141 := h8 141 (by decide)
      have e30 : μ 142 30 = μ0 142 30 := h7 30 (by omega)
      obtain ⟨m, p1, p2, p3, p4⟩ := m_step (s := s) (by omega) μ (w s) (by rw [e141]; exact hS s hlt) (by rw [e30]; exact hm) (by rw [e141, e30]; exact h6 s (by omega) (by omega))
      rw [e141, e30] at p1 p2
      rw [p1]
      simp only [Option.bind_some, lt, nI_inc]
      refine ih (s + 1) _ m (by omega) (by omega) (by rw [h4]; rfl) (fun j hj => ?_) (fun j hj hj5 => ?_) (fun k hk => by rw [p3 k (by omega) (by omega) (by omega) (by omega) (by omega)]; exact h7 k hk) (fun b hb => by rw [p4 b hb]; exact h8 b hb)
      · by_cases hjs : j = s
        · subst hjs
          exact p2
        · exact mrep_congr (fun q hq => p3 _ (by omega) (by omega) (by omega) (by omega) (by omega)) (h5 j (by omega))
      · exact mrep_congr (fun q hq => p3 _ (by omega) (by omega) (by omega) (by omega) (by omega)) (h6 j (by omega) hj5)
theorem mrep_sit {S : V5} {R : Nat → Int32} {s : Nat} {mn : Int32} (hr : mrep S R s mn (0, 0, 0, 0, 0)) (hm : rng mn 1999) : mrep S R s (mn + 1) (0, 0, 0, 0, 0) := by
  obtain ⟨r0, r5, r15, r20, r25, r10, rh, rd, rg⟩ := hr
  refine ⟨r0, r5, r15, r20, ?_, r10, rh, rd, rg⟩
  rw [mz_next rg hm, r25]
  simp
/-- oneMinute() -/
theorem m_min (c : Nat) (hc : c ≤ 5) (μ : gMem) (h1 : μ 140 1 = nI c) (hS : ∀ s, s < c → sok (mS (μ 141) s)) (x : V5) (w : W5) (hx : mSc (μ 141) (μ 142) x w) (h0 : ∀ s, c ≤ s → s < 5 → w s = (0, 0, 0, 0, 0)) (hm : rng x.1 1999) :
    ∃ μ', f_X11_oneMinute μ = some (rise (μ 141 0) (x.2.1 + minS c (μ 141 0) (frT (μ 141 2) (μ 141 3) x.1) (mS (μ 141)) w), μ') ∧ mSc (μ' 141) (μ' 142) (minX (μ 141 0) (minS c (μ 141 0) (frT (μ 141 2) (μ 141 3) x.1) (mS (μ 141)) w) x) (minW c (frT (μ 141 2) (μ 141 3) x.1) (mS (μ 141)) w) ∧ ∀ b, b ≠ 142 → μ' b = μ b := by
  obtain ⟨hx0, hxw⟩ := hx
  have ex : μ 142 30 = x.1 := by rw [← hx0]; rfl
  have ex1 : μ 142 31 = x.2.1 := by rw [← hx0]; rfl
  have ex2 : μ 142 32 = x.2.2.1 := by rw [← hx0]; rfl
  have ex3 : μ 142 33 = x.2.2.2.1 := by rw [← hx0]; rfl
  have ex4 : μ 142 34 = x.2.2.2.2 := by rw [← hx0]; rfl
  obtain ⟨m, p1, p2, p3, p4, p5⟩ := m_loop c hc μ w h1 hS (by rw [ex]; exact hm) gF 0 0 μ (Nat.zero_le _) (by unfold gF; omega) rfl (fun j hj => by omega) (fun j _ hj => by rw [ex]; exact hxw j hj) (fun _ _ => rfl) (fun _ _ => rfl)
  rw [ex] at p1 p2 p3
  have p1' : l_X11_oneMinute_4 gF 0 0 μ = some (minS c (μ 141 0) (frT (μ 141 2) (μ 141 3) x.1) (mS (μ 141)) w, nI c, m) := p1
  have hw' : ∀ s, s < 5 → mrep (mS (μ 141) s) (m 142) s (x.1 + 1) (minW c (frT (μ 141 2) (μ 141 3) x.1) (mS (μ 141)) w s) := by
    intro s hs
    unfold minW
    by_cases h : s < c
    · rw [if_pos h]
      exact p2 s h
    · rw [if_neg h, h0 s (by omega) hs]
      have := p3 s (by omega) hs
      rw [h0 s (by omega) hs] at this
      exact mrep_sit this hm
  have h141 : m 141 = μ 141 := p5 141 (by decide)
  generalize minS c (μ 141 0) (frT (μ 141 2) (μ 141 3) x.1) (mS (μ 141)) w = sm at p1' ⊢
  generalize minW c (frT (μ 141 2) (μ 141 3) x.1) (mS (μ 141)) w = w' at hw' ⊢
  unfold f_X11_oneMinute
  simp only [p1', Option.bind_some, lt, Int32.reduceToNatClampNeg, st_row, h141, p4 30 (by omega), p4 31 (by omega), p4 32 (by omega), p4 33 (by omega), p4 34 (by omega), ex, ex1, ex2, ex3, ex4, Nat.reduceEqDiff, and_false, and_true, true_and, if_false, if_true, rise_alt]
  refine ⟨_, rfl, ⟨?_, fun s hs => ?_⟩, fun b hb => ?_⟩
  · simp [v5, minX, st_row, p4, ex, ex1, ex2, ex3, ex4, lost]
    split <;> simp
  · have e141 : ∀ (m' : gMem) a k v, st m' 142 a v 141 k = m' 141 k := fun m' a k v => by simp [st_row]
    have eT : mS (st (st (st (st m 142 34 (x.2.2.2.2 + sm)) 142 33 (x.2.2.2.1 + if rise (μ 141 0) (x.2.1 + sm) = μ 141 0 then 1 else 0)) 142 31 (rise (μ 141 0) (x.2.1 + sm) - (rise (μ 141 0) (x.2.1 + sm) * x.2.2.1 + 19) / 20)) 142 30 (x.1 + 1) 141) s = mS (μ 141) s := by
      simp only [mS, e141, h141]
    rw [eT]
    refine mrep_congr (fun q hq => ?_) (hw' s hs)
    simp only [st_row]
    simp only [show ¬ 5 * q + s = 34 by omega, show ¬ 5 * q + s = 33 by omega, show ¬ 5 * q + s = 31 by omega, show ¬ 5 * q + s = 30 by omega, and_false, if_false]
  · simp only [st_ne hb]
    exact p5 b hb

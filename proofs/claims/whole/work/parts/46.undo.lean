theorem c_copyloop (a b : Nat) (hab : a + 7 ≤ b ∨ b + 7 ≤ a) (μ0 : gMem) : ∀ (n s : Nat) (μ : gMem), s ≤ 5 → 5 - s < n → (∀ j, j < s → v5 (μ (a + 2 + j)) = v5 (μ0 (b + 2 + j))) → (∀ q, (∀ j, j < s → q ≠ a + 2 + j) → μ q = μ0 q) →
    ∃ μ', l_X5_copy_42 a b n (nI s) μ = some (nI 5, μ') ∧ (∀ j, j < 5 → v5 (μ' (a + 2 + j)) = v5 (μ0 (b + 2 + j))) ∧ (∀ q, (∀ j, j < 5 → q ≠ a + 2 + j) → μ' q = μ0 q) := by
  intro n
  induction n with
  | zero => intro s μ h2 h3; omega
  | succ n ih =>
    intro s μ h2 h3 h4 h5
    unfold l_X5_copy_42
    by_cases hs : s = 5
    · subst hs
      rw [if_pos (show (5 : Int32) ≤ nI 5 from Int32.le_refl _)]
      exact ⟨μ, rfl, h4, h5⟩
    · rw [if_neg (show ¬ (5 : Int32) ≤ nI s from nI_ge (b := 5) (by omega) (by decide)), if_pos (inb5 (show s < 5 by omega) (by decide)), cl5 (by omega)]
      obtain ⟨m, p1, p2, p3⟩ := e_copyW (w := a + 1 + 1 + s) (s := b + 1 + 1 + s) (by omega) μ
      rw [p1]
      simp only [Option.bind_some, lt, nI_inc]
      refine ih (s + 1) m (by omega) (by omega) (fun j hj => ?_) (fun q hq => ?_)
      · by_cases hjs : j = s
        · subst hjs
          have e := h5 (b + 1 + 1 + j) (fun i hi => by omega)
          rw [e] at p2
          exact p2
        · rw [p3 _ (by omega)]
          exact h4 j (by omega)
      · rw [p3 q (fun z => hq s (by omega) (by omega))]
        exact h5 q (fun j hj => hq j (by omega))
theorem c_copy (a b : Nat) (hab : a + 7 ≤ b ∨ b + 7 ≤ a) (μ : gMem) : ∃ μ', f_X5_copy a b μ = some μ' ∧ v5 (μ' a) = v5 (μ b) ∧ (∀ s, s < 5 → v5 (μ' (a + 2 + s)) = v5 (μ (b + 2 + s))) ∧ ∀ q, q ≠ a → (∀ s, s < 5 → q ≠ a + 2 + s) → μ' q = μ q := by
  have hne : b ≠ a := by omega
  have key : ∃ m, f_X5_copy a b μ = (l_X5_copy_42 a b gF 0 m).bind (fun p => some p.2) ∧ v5 (m a) = v5 (μ b) ∧ ∀ q, q ≠ a → m q = μ q := by
    refine ⟨_, by unfold f_X5_copy lt; rfl, ?_, fun q hq => by simp only [st_ne hq]⟩
    simp [v5, st_row, hne]
  obtain ⟨m, k1, k2, k3⟩ := key
  obtain ⟨m', p1, p2, p3⟩ := c_copyloop a b hab m gF 0 m (by omega) (by unfold gF; omega) (fun j hj => by omega) (fun _ _ => rfl)
  have p1' : l_X5_copy_42 a b gF 0 m = some (nI 5, m') := p1
  refine ⟨m', by rw [k1, p1']; rfl, by rw [p3 a (fun j hj => by omega)]; exact k2, fun s hs => by rw [p2 s hs, k3 _ (by omega)], fun q h1 h2 => by rw [p3 q h2, k3 q h1]⟩
theorem cSc_copy {μ μ' : gMem} {a b : Nat} {x : V5} {w : W5} (h : cSc μ b x w) (h1 : v5 (μ' a) = v5 (μ b)) (h2 : ∀ s, s < 5 → v5 (μ' (a + 2 + s)) = v5 (μ (b + 2 + s))) : cSc μ' a x w := ⟨h1.trans h.1, fun s hs => (h2 s hs).trans (h.2 s hs)⟩
theorem lp_shift (μ0 : gMem) : ∀ (n k : Nat) (μ : gMem), k ≤ 245 → 245 - k < n → (∀ j, j < k → μ 145 j = μ0 145 (j + 35)) → (∀ j, k ≤ j → μ 145 j = μ0 145 j) → (∀ b, b ≠ 145 → μ b = μ0 b) →
    ∃ μ', l_X11_note_11 n (nI k) μ = some (nI 245, μ') ∧ (∀ j, j < 245 → μ' 145 j = μ0 145 (j + 35)) ∧ (∀ b, b ≠ 145 → μ' b = μ0 b) := by
  intro n
  induction n with
  | zero => intro k μ h2 h3; omega
  | succ n ih =>
    intro k μ h2 h3 h4 h5 h6
    unfold l_X11_note_11
    by_cases hk : k = 245
    · subst hk
      rw [if_pos (show (245 : Int32) ≤ nI 245 from Int32.le_refl _)]
      exact ⟨μ, rfl, h4, h6⟩
    · rw [if_neg (show ¬ (245 : Int32) ≤ nI k from nI_ge (b := 245) (by omega) (by decide))]
      rw [show nI k + (35 : Int32) = nI (k + 35) from by rw [show (35 : Int32) = nI 35 from rfl, nI_add], if_pos (inb5 (show k + 35 < 280 by omega) (by decide)), if_pos (inb5 (show k < 280 by omega) (by decide)), cl5 (show k < 1000 by omega), cl5 (show k + 35 < 1000 by omega)]
      simp only [lt, nI_inc]
      refine ih (k + 1) _ (by omega) (by omega) (fun j hj => ?_) (fun j hj => ?_) (fun b hb => by rw [st_ne hb]; exact h6 b hb)
      · by_cases hjk : j = k
        · subst hjk
          simp only [st_row, and_self, if_true]
          exact h5 _ (by omega)
        · simp only [st_row, true_and]
          rw [if_neg hjk]
          exact h4 j (by omega)
      · simp only [st_row, true_and]
        rw [if_neg (by omega)]
        exact h5 j (by omega)
/-- note(): the rows behind -/
theorem m_note (u : Nat) (hu : u ≤ 8) (ν : gMem) (h1 : ν 140 13 = nI u) : ∃ ν', f_X11_note ν = some ν' ∧ ν' 140 13 = nI (if u = 8 then 8 else u + 1) ∧ (∀ k, k ≠ 13 → ν' 140 k = ν 140 k) ∧ (∀ b, b ≠ 140 → b ≠ 145 → ν' b = ν b) ∧ (∀ i k, k < 35 → i < (if u = 8 then 7 else u) → ν' 145 (35 * i + k) = ν 145 (35 * (if u = 8 then i + 1 else i) + k)) ∧ ∀ k, k < 35 → ν' 145 (35 * (if u = 8 then 7 else u) + k) = ν 142 k := by
  unfold f_X11_note
  by_cases hu8 : u = 8
  · subst hu8
    rw [if_pos (show ν 140 13 = (8 : Int32) from h1)]
    obtain ⟨m, p1, p2, p3⟩ := lp_shift ν gF 0 ν (by omega) (by unfold gF; omega) (fun j hj => by omega) (fun _ _ => rfl) (fun _ _ => rfl)
    have p1' : l_X11_note_11 gF 0 ν = some (nI 245, m) := p1
    simp only [p1', Option.bind_some, lt]
    have e13 : m 140 13 = nI 8 := by rw [p3 140 (by decide), h1]
    rw [e13]
    have e7 : nI 8 - 1 = nI 7 := nI_pred 7
    rw [e7]
    obtain ⟨m2, q1, q2, q3, q4⟩ := lp_note 7 (by omega) (st m 140 13 (nI 7)) (by simp [st_row]) gF 0 (st m 140 13 (nI 7)) (by omega) (by unfold gF; omega) (fun j hj => by omega) (fun _ _ => rfl) (fun _ _ => rfl)
    have q1' : l_X11_note_51 gF 0 (st m 140 13 (nI 7)) = some (nI 35, m2) := q1
    simp only [q1', Option.bind_some, if_true]
    refine ⟨_, rfl, ?_, ?_, ?_, ?_, ?_⟩
    · simp only [st_row, and_self, if_true, q4 140 (by decide)]
      exact nI_1 7
    · intro k hk
      simp only [st_row, hk, and_false, if_false, q4 140 (by decide)]
      rw [p3 140 (by decide)]
    · intro b hb hb2
      rw [st_ne hb, q4 b hb2, st_ne hb, p3 b hb2]
    · intro i k hk hi
      rw [st_ne (by decide), q3 _ (by omega), st_ne (by decide), p2 _ (by omega)]
      exact congrArg (ν 145) (by omega)
    · intro k hk
      rw [st_ne (by decide), q2 k hk, st_ne (by decide), p3 142 (by decide)]
  · have hne : ¬ ν 140 13 = (8 : Int32) := by
      rw [h1]
      intro z
      have := (nI_eq (a := u) (b := 8) (by omega) (by decide)).mp z
      exact hu8 this
    rw [if_neg hne]
    obtain ⟨m2, q1, q2, q3, q4⟩ := lp_note u (by omega) ν h1 gF 0 ν (by omega) (by unfold gF; omega) (fun j hj => by omega) (fun _ _ => rfl) (fun _ _ => rfl)
    have q1' : l_X11_note_51 gF 0 ν = some (nI 35, m2) := q1
    simp only [q1', Option.bind_some, lt, hu8, if_false]
    refine ⟨_, rfl, ?_, ?_, ?_, ?_, ?_⟩
    · simp only [st_row, and_self, if_true, q4 140 (by decide), h1]
      exact nI_1 u
    · intro k hk
      simp only [st_row, hk, and_false, if_false, q4 140 (by decide)]
    · intro b hb hb2
      rw [st_ne hb, q4 b hb2]
    · intro i k hk hi
      rw [st_ne (by decide), q3 _ (by omega)]
    · intro k hk
      rw [st_ne (by decide), q2 k hk]
/-- push(): the scenes behind -/
theorem c_push (p u : Nat) (hp : p < 8) (hu : u ≤ 8) (μ : gMem) (h1 : μ 23 1 = nI p) (h2 : μ 23 2 = nI u) : ∃ μ', f_X4_push 16 μ = some μ' ∧ μ' 23 1 = nI ((p + 1) % 8) ∧ μ' 23 2 = nI (if u = 8 then 8 else u + 1) ∧ v5 (μ' (25 + 7 * p)) = v5 (μ 16) ∧ (∀ s, s < 5 → v5 (μ' (25 + 7 * p + 2 + s)) = v5 (μ (16 + 2 + s))) ∧ ∀ q, q ≠ 23 → q ≠ 25 + 7 * p → (∀ s, s < 5 → q ≠ 25 + 7 * p + 2 + s) → μ' q = μ q := by
  unfold f_X4_push
  rw [h1, if_pos (inb5 hp (by decide)), cl5 (by omega)]
  obtain ⟨m, p1, p2, p3, p4⟩ := c_copy (25 + 7 * p) 16 (by omega) μ
  have e25 : 24 + 1 + 7 * p = 25 + 7 * p := by omega
  rw [e25, p1]
  have m23 : m 23 = μ 23 := p4 23 (by omega) (fun s _ => by omega)
  simp only [Option.bind_some, lt, m23, h1, st_row, Nat.reduceEqDiff, and_false, if_false, h2]
  have er : nI p + 1 - (nI p + 1) / 8 * 8 = nI ((p + 1) % 8) := by
    rw [nI_1]
    exact pk_rem (a := p + 1) (d := 8) (by omega) (by omega) (by omega)
  have es : (if nI u + 1 < (8 : Int32) then nI u + 1 else 8) = nI (if u = 8 then 8 else u + 1) := by
    have : ∀ u : Nat, u ≤ 8 → (if nI u + 1 < (8 : Int32) then nI u + 1 else 8) = nI (if u = 8 then 8 else u + 1) := by decide
    exact this u hu
  rw [er, es]
  refine ⟨_, rfl, ?_, ?_, ?_, ?_, ?_⟩
  · simp [st_row]
  · simp [st_row]
  · rw [st_ne (by omega), st_ne (by omega)]
    exact p2
  · intro s hs
    rw [st_ne (by omega), st_ne (by omega)]
    exact p3 s hs
  · intro q g1 g2 g3
    rw [st_ne g1, st_ne g1]
    exact p4 q g2 g3
/-- ahead of a deed: push() and note() -/
theorem s_push {μ ν : gMem} (h : Sim μ ν) : ∃ μ' ν', f_X4_push 16 μ = some μ' ∧ f_X11_note ν = some ν' ∧ UInv μ' ν' ∧ (∀ q, q ≠ 23 → (q < 25 ∨ 81 ≤ q) → μ' q = μ q) ∧ (∀ k, k ≠ 13 → ν' 140 k = ν 140 k) ∧ (∀ b, b ≠ 140 → b ≠ 145 → ν' b = ν b) := by
  obtain ⟨-, ⟨x, w, sc1, sc2, sc3⟩, ⟨p, u, hp, hu, a3, a4, a5, a6⟩, -⟩ := h
  obtain ⟨μ', c1, c2, c3, c4, c5, c6⟩ := c_push p u hp hu μ a3 a4
  obtain ⟨ν', m1, m2, m3, m4, m5, m6⟩ := m_note u hu ν a5
  refine ⟨μ', ν', c1, m1, ⟨(p + 1) % 8, if u = 8 then 8 else u + 1, by omega, by split <;> omega, c2, c3, m2, fun i hi => ?_⟩, fun q g1 g2 => c6 q g1 (by omega) (fun s hs => by omega), m3, m4⟩
  have k1 : μ' 1 = μ 1 := c6 1 (by decide) (by omega) (fun s _ => by omega)
  have k2 : ν' 141 = ν 141 := m4 141 (by decide) (by decide)
  by_cases hlast : i = (if u = 8 then 7 else u)
  · have e : ((p + 1) % 8 + 8 - (if u = 8 then 8 else u + 1) + i) % 8 = p := by
      rw [hlast]
      split <;> omega
    rw [e]
    refine ⟨x, w, cSc_copy sc1 c4 c5, ?_, ?_⟩
    · rw [k2]
      exact mSc_congr (fun k hk => by rw [hlast]; exact m6 k hk) sc2
    · unfold cnt
      rw [k1]
      exact sc3
  · have hi2 : i < (if u = 8 then 7 else u) := by split at hi <;> split at hlast <;> simp_all <;> omega
    have e : ((p + 1) % 8 + 8 - (if u = 8 then 8 else u + 1) + i) % 8 = (p + 8 - u + (if u = 8 then i + 1 else i)) % 8 ∧ (p + 8 - u + (if u = 8 then i + 1 else i)) % 8 ≠ p ∧ (if u = 8 then i + 1 else i) < u := by
      by_cases hu8 : u = 8
      · simp only [hu8, if_true] at hi2 ⊢
        omega
      · simp only [hu8, if_false] at hi2 ⊢
        omega
    rw [e.1]
    refine (a6 _ e.2.2).congr k1 (c6 _ (by omega) (by omega) (fun s _ => by omega)) (fun s hs => c6 _ (by omega) (by omega) (fun s2 _ => by omega)) k2 (fun k hk => ?_)
    exact m5 i k hk hi2

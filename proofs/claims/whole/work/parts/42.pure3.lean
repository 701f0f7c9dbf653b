/-! a minute of all, on both sides -/
def sumP (P : Nat → Int32) : Nat → Int32
  | 0 => 0
  | n + 1 => sumP P n + P n
theorem sumP_congr {P P' : Nat → Int32} : ∀ {n : Nat}, (∀ k, k < n → P k = P' k) → sumP P n = sumP P' n
  | 0, _ => rfl
  | n + 1, h => by rw [sumP, sumP, sumP_congr (fun k hk => h k (by omega)), h n (by omega)]
def rise (h x : Int32) : Int32 := if x < h then x else h
def lost (l ho : Int32) : Int32 := (l * ho + 19) / 20
theorem rise_alt (h x : Int32) : (if x ≤ h then x else h) = rise h x := by
  unfold rise
  by_cases h1 : x < h
  · rw [if_pos h1, if_pos (Int32.le_of_lt h1)]
  · rw [if_neg h1]
    by_cases h2 : x ≤ h
    · rw [if_pos h2]
      exact Int32.le_antisymm h2 (Int32.not_lt.mp h1)
    · rw [if_neg h2]
theorem e_lost (l ho : Int32) (μ : gMem) : f_X10_lostByHole l ho μ = some (lost l ho, μ) := by
  unfold f_X10_lostByHole lost
  rw [Int32.sub_eq_add_neg, Int32.add_assoc]
  rfl
theorem e_isFrost (i : Int32) (μ : gMem) : f_X7_isFrost i μ = some (frT (μ 1 6) (μ 1 7) i, μ) := by
  unfold f_X7_isFrost frT lt
  by_cases h : i < μ 1 6
  · simp [h]
  · by_cases h2 : μ 1 7 < i <;> simp [h, h2]
theorem nI_inc (n : Nat) : nI n + Int32.ofInt 1 = nI (n + 1) := nI_1 n
theorem cl5 {s : Nat} (h : s < 1000) : (nI s).toNatClampNeg = s := nI_clamp (by omega)
theorem inb5 {s n : Nat} (h : s < n) (hn : n < 1000) : inb (nI s) n = true := by
  unfold inb
  have h1 : ¬ nI s < 0 := nI_pos (by omega)
  rw [cl5 (by omega)]
  simp [h1]
  omega
abbrev W5 : Type := Nat → V5
/-- the minute's scene: minute, level, hole, fulls, poured -/
def minS (c : Nat) (h fr : Int32) (S w : W5) : Int32 := sumP (fun s => (pmT (S s) fr (w s)).1) c
def minW (c : Nat) (fr : Int32) (S w : W5) : W5 := fun s => if s < c then (pmT (S s) fr (w s)).2 else w s
def minX (h sum : Int32) (x : V5) : V5 := (x.1 + 1, rise h (x.2.1 + sum) - lost (rise h (x.2.1 + sum)) x.2.2.1, x.2.2.1, (if rise h (x.2.1 + sum) = h then x.2.2.2.1 + 1 else x.2.2.2.1), x.2.2.2.2 + sum)
/-- a scene of the class's, at b -/
def cSc (μ : gMem) (b : Nat) (x : V5) (w : W5) : Prop := v5 (μ b) = x ∧ ∀ s, s < 5 → v5 (μ (b + 2 + s)) = w s
/-- the class's told -/
def cS (μ : gMem) : W5 := fun s => v5 (μ (3 + s))
theorem c_pmloop (b : Nat) (hb : 8 ≤ b) (fr : Int32) (c : Nat) (hc : c ≤ 5) (μ0 : gMem) (h1 : μ0 1 1 = nI c) : ∀ (n s : Nat) (i3 : Int32) (μ : gMem), s ≤ c → c - s < n → i3 = sumP (fun j => (pmT (v5 (μ0 (3 + j))) fr (v5 (μ0 (b + 2 + j)))).1) s →
    (∀ j, j < s → v5 (μ (b + 2 + j)) = (pmT (v5 (μ0 (3 + j))) fr (v5 (μ0 (b + 2 + j)))).2) → (∀ a, (∀ j, j < s → a ≠ b + 2 + j) → μ a = μ0 a) →
    ∃ μ', l_X5_passMinute_14 b fr n i3 (nI s) μ = some (sumP (fun j => (pmT (v5 (μ0 (3 + j))) fr (v5 (μ0 (b + 2 + j)))).1) c, nI c, μ') ∧ (∀ j, j < c → v5 (μ' (b + 2 + j)) = (pmT (v5 (μ0 (3 + j))) fr (v5 (μ0 (b + 2 + j)))).2) ∧ (∀ a, (∀ j, j < c → a ≠ b + 2 + j) → μ' a = μ0 a) := by
  intro n
  induction n with
  | zero => intro s i3 μ h2 h3; omega
  | succ n ih =>
    intro s i3 μ h2 h3 h4 h5 h6
    unfold l_X5_passMinute_14
    have hcount : μ 1 1 = nI c := by rw [h6 1 (fun j _ => by omega), h1]
    rw [hcount]
    by_cases hs : s = c
    · subst hs
      rw [if_pos (Int32.le_refl _)]
      exact ⟨μ, by rw [h4], h5, h6⟩
    · have hlt : s < c := by omega
      rw [if_neg (nI_ge hlt (by omega)), if_pos (inb5 (by omega) (by omega)), cl5 (by omega)]
      obtain ⟨m, p1, p2, p3⟩ := e_pm (w := b + 1 + 1 + s) (s := 2 + 1 + s) (by omega) fr μ
      have q1 : μ (2 + 1 + s) = μ0 (3 + s) := h6 _ (fun j hj => by omega)
      have q2 : μ (b + 1 + 1 + s) = μ0 (b + 2 + s) := h6 _ (fun j hj => by omega)
      rw [q1, q2] at p1 p2
      rw [p1]
      simp only [Option.bind_some, lt, nI_inc]
      refine ih (s + 1) _ m (by omega) (by omega) (by rw [h4]; rfl) (fun j hj => ?_) (fun a ha => ?_)
      · by_cases hjs : j = s
        · subst hjs
          exact p2
        · rw [p3 _ (by omega)]
          exact h5 j (by omega)
      · rw [p3 a (fun z => ha s (by omega) (by omega))]
        exact h6 a (fun j hj => ha j (by omega))
theorem c_min (b : Nat) (hb : 8 ≤ b) (c : Nat) (hc : c ≤ 5) (μ : gMem) (h1 : μ 1 1 = nI c) (x : V5) (w : W5) (hx : cSc μ b x w) :
    ∃ μ', f_X5_passMinute b μ = some μ' ∧ cSc μ' b (minX (μ 1 4) (minS c (μ 1 4) (frT (μ 1 6) (μ 1 7) x.1) (cS μ) w) x) (minW c (frT (μ 1 6) (μ 1 7) x.1) (cS μ) w) ∧ ∀ a, a ≠ b → (∀ s, s < 5 → a ≠ b + 2 + s) → μ' a = μ a := by
  obtain ⟨hx0, hxw⟩ := hx
  have ex : μ b 0 = x.1 := by rw [← hx0]; rfl
  have ex1 : μ b 1 = x.2.1 := by rw [← hx0]; rfl
  have ex2 : μ b 2 = x.2.2.1 := by rw [← hx0]; rfl
  have ex3 : μ b 3 = x.2.2.2.1 := by rw [← hx0]; rfl
  have ex4 : μ b 4 = x.2.2.2.2 := by rw [← hx0]; rfl
  obtain ⟨m, p1, p2, p3⟩ := c_pmloop b hb (frT (μ 1 6) (μ 1 7) x.1) c hc μ h1 gF 0 0 μ (Nat.zero_le _) (by unfold gF; omega) rfl (fun j hj => by omega) (fun _ _ => rfl)
  have hsum : sumP (fun j => (pmT (v5 (μ (3 + j))) (frT (μ 1 6) (μ 1 7) x.1) (v5 (μ (b + 2 + j)))).1) c = minS c (μ 1 4) (frT (μ 1 6) (μ 1 7) x.1) (cS μ) w := by
    unfold minS
    exact sumP_congr (fun k hk => by rw [hxw k (by omega)]; rfl)
  rw [hsum] at p1
  generalize minS c (μ 1 4) (frT (μ 1 6) (μ 1 7) x.1) (cS μ) w = sm at p1 hsum ⊢
  have hmb : m b = μ b := p3 b (fun j _ => by omega)
  have hm1 : m 1 = μ 1 := p3 1 (fun j _ => by omega)
  have p1' : l_X5_passMinute_14 b (frT (μ 1 6) (μ 1 7) x.1) gF 0 0 μ = some (sm, nI c, m) := p1
  unfold f_X5_passMinute
  simp only [e_isFrost, Option.bind_some, ex, lt, p1', e_lost]
  have nb1 : (1 : Nat) ≠ b := by omega
  have hw' : ∀ s, s < 5 → v5 (m (b + 2 + s)) = minW c (frT (μ 1 6) (μ 1 7) x.1) (cS μ) w s := by
    intro s hs
    unfold minW
    by_cases h : s < c
    · rw [if_pos h, p2 s h, hxw s hs]
      rfl
    · rw [if_neg h, p3 _ (fun j hj => by omega), hxw s hs]
  have hoth : ∀ a, a ≠ b → (∀ s, s < 5 → a ≠ b + 2 + s) → m a = μ a := fun a _ h2 => p3 a (fun j hj => h2 j (by omega))
  have er : (if x.2.1 + sm < μ 1 4 then x.2.1 + sm else μ 1 4) = rise (μ 1 4) (x.2.1 + sm) := rfl
  simp only [st_row, nb1, false_and, if_false, and_false, true_and, if_true, hmb, hm1, ex, ex1, ex2, ex3, ex4, er, Nat.reduceEqDiff]
  by_cases hf : rise (μ 1 4) (x.2.1 + sm) = μ 1 4
  · simp only [hf, if_true]
    refine ⟨_, rfl, ⟨?_, fun s hs => ?_⟩, fun a h1 h2 => ?_⟩
    · simp [v5, minX, st_row, hmb, ex, ex1, ex2, ex3, ex4, hf]
    · simp only [v5, st_row, show ¬ b + 2 + s = b by omega, false_and, if_false]
      exact hw' s hs
    · simp only [st_ne h1]
      exact hoth a h1 h2
  · simp only [hf, if_false]
    refine ⟨_, rfl, ⟨?_, fun s hs => ?_⟩, fun a h1 h2 => ?_⟩
    · simp [v5, minX, st_row, hmb, ex, ex1, ex2, ex3, ex4, hf]
    · simp only [v5, st_row, show ¬ b + 2 + s = b by omega, false_and, if_false]
      exact hw' s hs
    · simp only [st_ne h1]
      exact hoth a h1 h2

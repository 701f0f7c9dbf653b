/-! LEAVES: no cell is read -/
theorem lp_power (a b : Int32) : ∀ (n : Nat) (i j : Int32), ∃ o : Option (Int32 × Int32), ∀ μ, l_X10_power_4 a b n i j μ = o.map (fun v => (v.1, v.2, μ)) := by
  intro n
  induction n with
  | zero => intro i j; exact ⟨none, fun _ => rfl⟩
  | succ n ih =>
    intro i j
    by_cases hc : b ≤ j
    · exact ⟨some (i, j), fun μ => by unfold l_X10_power_4; rw [if_pos hc]; rfl⟩
    · obtain ⟨o, ho⟩ := ih (i * a) (j + Int32.ofInt 1)
      exact ⟨o, fun μ => by unfold l_X10_power_4; rw [if_neg hc]; exact ho μ⟩
theorem p_power (a b : Int32) : ∃ o : Option Int32, ∀ μ, f_X10_power a b μ = o.map (fun v => (v, μ)) := by
  obtain ⟨o, ho⟩ := lp_power a b gF 1 0
  refine ⟨o.map (fun v => v.1), fun μ => ?_⟩
  unfold f_X10_power
  rw [ho]
  cases o <;> rfl
theorem lp_gcd (a b : Int32) : ∀ (n : Nat) (i j k : Int32), ∃ o : Option (Int32 × Int32 × Int32), ∀ μ, l_X10_commonDivisor_7 a b n i j k μ = o.map (fun v => (v.1, v.2.1, v.2.2, μ)) := by
  intro n
  induction n with
  | zero => intro i j k; exact ⟨none, fun _ => rfl⟩
  | succ n ih =>
    intro i j k
    by_cases hc : (64 : Int32) ≤ k
    · exact ⟨some (i, j, k), fun μ => by unfold l_X10_commonDivisor_7; rw [if_pos hc]; rfl⟩
    · by_cases hj : j = 0
      · exact ⟨some (i, j, k), fun μ => by unfold l_X10_commonDivisor_7; rw [if_neg hc, if_pos hj]; rfl⟩
      · obtain ⟨o, ho⟩ := ih j (i - i / j * j) (k + Int32.ofInt 1)
        exact ⟨o, fun μ => by unfold l_X10_commonDivisor_7; rw [if_neg hc, if_neg hj, if_neg hj]; exact ho μ⟩
theorem p_gcd (a b : Int32) : ∃ o : Option Int32, ∀ μ, f_X10_commonDivisor a b μ = o.map (fun v => (v, μ)) := by
  obtain ⟨o, ho⟩ := lp_gcd a b gF a b 0
  refine ⟨o.map (fun v => if (1 : Int32) < v.1 then v.1 else 1), fun μ => ?_⟩
  unfold f_X10_commonDivisor
  rw [ho]
  cases o <;> rfl
theorem lp_52 (a b c d : Int32) : ∀ (n : Nat) (i j k : Int32), ∃ o : Option (Int32 × Int32 × Int32), ∀ μ, l_X10_leaves_52 a b c d n i j k μ = o.map (fun v => (v.1, v.2.1, v.2.2, μ)) := by
  intro n
  induction n with
  | zero => intro i j k; exact ⟨none, fun _ => rfl⟩
  | succ n ih =>
    intro i j k
    by_cases h1 : a < k
    · exact ⟨some (i, j, k), fun μ => by unfold l_X10_leaves_52; rw [if_pos h1]; rfl⟩
    · by_cases h2 : k < b
      · by_cases h3 : k + 1 = 0
        · exact ⟨none, fun μ => by unfold l_X10_leaves_52; rw [if_neg h1, if_pos h2, if_pos h3]; rfl⟩
        · obtain ⟨o, ho⟩ := ih i ((j * (a - k)) / (k + 1)) (k + Int32.ofInt 1)
          exact ⟨o, fun μ => by unfold l_X10_leaves_52; rw [if_neg h1, if_pos h2, if_neg h3]; exact ho μ⟩
      · obtain ⟨o1, ho1⟩ := p_power c k
        obtain ⟨o2, ho2⟩ := p_power (10 - c) (a - k)
        cases o1 with
        | none => exact ⟨none, fun μ => by unfold l_X10_leaves_52; rw [if_neg h1, if_neg h2, ho1]; rfl⟩
        | some v1 =>
          cases o2 with
          | none => exact ⟨none, fun μ => by unfold l_X10_leaves_52; rw [if_neg h1, if_neg h2, ho1]; simp only [Option.map_some, Option.bind_some, ho2]; rfl⟩
          | some v2 =>
            by_cases h3 : k + 1 = 0
            · exact ⟨none, fun μ => by unfold l_X10_leaves_52; rw [if_neg h1, if_neg h2, ho1]; simp only [Option.map_some, Option.bind_some, ho2, lt]; rw [if_pos h3]; rfl⟩
            · obtain ⟨o, ho⟩ := ih (i + ((j * v1) * v2)) ((j * (a - k)) / (k + 1)) (k + Int32.ofInt 1)
              exact ⟨o, fun μ => by unfold l_X10_leaves_52; rw [if_neg h1, if_neg h2, ho1]; simp only [Option.map_some, Option.bind_some, ho2, lt]; rw [if_neg h3]; exact ho μ⟩
theorem p_leavesC (a b c d : Int32) : ∃ o : Option Int32, ∀ μ, f_X10_leaves a b c d μ = o.map (fun v => (v, μ)) := by
  unfold f_X10_leaves
  simp only [e_isOutside, Option.bind_some, b01]
  by_cases h1 : a < 0 ∨ ¬ a ≤ 6
  · exact ⟨some (-3), fun μ => by rw [if_neg (not_not_intro h1)]; rfl⟩
  by_cases h2 : b < 0 ∨ ¬ b ≤ 6
  · exact ⟨some (-3), fun μ => by rw [if_pos h1, if_neg (not_not_intro h2)]; rfl⟩
  by_cases h3 : c < 0 ∨ ¬ c ≤ 10
  · exact ⟨some (-3), fun μ => by rw [if_pos h1, if_pos h2, if_neg (not_not_intro h3)]; rfl⟩
  by_cases h4 : d < 0 ∨ ¬ d ≤ 1
  · exact ⟨some (-3), fun μ => by rw [if_pos h1, if_pos h2, if_pos h3, if_neg (not_not_intro h4)]; rfl⟩
  simp only [if_pos h1, if_pos h2, if_pos h3, if_pos h4]
  obtain ⟨o1, ho1⟩ := lp_52 a b c d gF 0 1 0
  obtain ⟨o2, ho2⟩ := p_power 10 a
  simp only [ho1]
  cases o1 with
  | none => exact ⟨none, fun μ => rfl⟩
  | some v1 =>
    simp only [Option.map_some, Option.bind_some, ho2]
    cases o2 with
    | none => exact ⟨none, fun μ => rfl⟩
    | some v2 =>
      obtain ⟨o3, ho3⟩ := p_gcd v1.1 v2
      simp only [Option.map_some, Option.bind_some, lt, ho3]
      cases o3 with
      | none => exact ⟨none, fun μ => rfl⟩
      | some v3 =>
        simp only [Option.map_some, Option.bind_some]
        by_cases h5 : d = 0
        · by_cases h6 : v3 = 0
          · exact ⟨none, fun μ => by rw [if_pos h5, if_pos h6]; rfl⟩
          · exact ⟨some (v1.1 / v3), fun μ => by rw [if_pos h5, if_neg h6]; rfl⟩
        · by_cases h6 : v3 = 0
          · exact ⟨none, fun μ => by rw [if_neg h5, if_pos h6]; rfl⟩
          · exact ⟨some (v2 / v3), fun μ => by rw [if_neg h5, if_neg h6]; rfl⟩
theorem lp_59 (a b c d e : Int32) : ∀ (n : Nat) (i j : Int32), ∃ o : Option (Int32 × Int32), ∀ μ, l_X11_leaves_59 a b c d e n i j μ = o.map (fun v => (v.1, v.2, μ)) := by
  intro n
  induction n with
  | zero => intro i j; exact ⟨none, fun _ => rfl⟩
  | succ n ih =>
    intro i j
    by_cases hc : a ≤ j
    · exact ⟨some (i, j), fun μ => by unfold l_X11_leaves_59; rw [if_pos hc]; rfl⟩
    · obtain ⟨o, ho⟩ := ih (i * 10) (j + Int32.ofInt 1)
      exact ⟨o, fun μ => by unfold l_X11_leaves_59; rw [if_neg hc]; exact ho μ⟩
theorem lp_95 (a b c d e g h : Int32) : ∀ (n : Nat) (i j : Int32), ∃ o : Option (Int32 × Int32), ∀ μ, l_X11_leaves_95 a b c d e g h n i j μ = o.map (fun v => (v.1, v.2, μ)) := by
  intro n
  induction n with
  | zero => intro i j; exact ⟨none, fun _ => rfl⟩
  | succ n ih =>
    intro i j
    by_cases hc : a ≤ j
    · exact ⟨some (i, j), fun μ => by unfold l_X11_leaves_95; rw [if_pos hc]; rfl⟩
    · obtain ⟨o, ho⟩ := ih (i * (if (if ((h >>> (j &&& 31)) &&& (1 : Int32)) = (1 : Int32) then (1 : Int32) else (0 : Int32)) = 0 then ((10 : Int32) - c) else c)) (j + Int32.ofInt 1)
      exact ⟨o, fun μ => by unfold l_X11_leaves_95; rw [if_neg hc]; exact ho μ⟩
theorem lp_ones (a : Int32) : ∃ o : Option Int32, ∀ μ, f_X11_ones a μ = o.map (fun v => (v, μ)) := by
  refine ⟨(l_X11_ones_4 a gF 0 a (fun _ _ => 0)).map (fun p => p.1), fun μ => ?_⟩
  unfold f_X11_ones
  rw [ones_ind a μ (fun _ _ => 0)]
  cases l_X11_ones_4 a gF 0 a (fun _ _ => 0) <;> rfl
theorem lp_81 (a b c d g : Int32) : ∀ (n : Nat) (i j : Int32), ∃ o : Option (Int32 × Int32), ∀ μ, l_X11_leaves_81 a b c d g n i j μ = o.map (fun v => (v.1, v.2, μ)) := by
  intro n
  induction n with
  | zero => intro i j; exact ⟨none, fun _ => rfl⟩
  | succ n ih =>
    intro i j
    by_cases hc : ((1 : Int32) <<< (a &&& 31)) ≤ j
    · exact ⟨some (i, j), fun μ => by unfold l_X11_leaves_81; rw [if_pos hc]; rfl⟩
    · obtain ⟨o1, ho1⟩ := lp_95 a b c d i g j gF 1 0
      obtain ⟨o2, ho2⟩ := lp_ones j
      cases o1 with
      | none => exact ⟨none, fun μ => by unfold l_X11_leaves_81; rw [if_neg hc, ho1]; rfl⟩
      | some v1 =>
        cases o2 with
        | none => exact ⟨none, fun μ => by unfold l_X11_leaves_81; rw [if_neg hc, ho1]; simp only [Option.map_some, Option.bind_some, ho2]; rfl⟩
        | some v2 =>
          obtain ⟨o, ho⟩ := ih (i + (if v2 < b then 0 else v1.1)) (j + Int32.ofInt 1)
          exact ⟨o, fun μ => by unfold l_X11_leaves_81; rw [if_neg hc, ho1]; simp only [Option.map_some, Option.bind_some, ho2, lt]; exact ho μ⟩
theorem lp_164 (a b c d e g : Int32) : ∀ (n : Nat) (i j : Int32), ∃ o : Option (Int32 × Int32), ∀ μ, l_X11_leaves_164 a b c d e g n i j μ = o.map (fun v => (v.1, v.2, μ)) := by
  intro n
  induction n with
  | zero => intro i j; exact ⟨none, fun _ => rfl⟩
  | succ n ih =>
    intro i j
    by_cases hc : j = 0
    · exact ⟨some (i, j), fun μ => by unfold l_X11_leaves_164; rw [if_pos hc]; rfl⟩
    · obtain ⟨o, ho⟩ := ih j (i - i / j * j)
      exact ⟨o, fun μ => by unfold l_X11_leaves_164; rw [if_neg hc, if_neg hc]; exact ho μ⟩
theorem p_leavesM (a b c d : Int32) : ∃ o : Option Int32, ∀ μ, f_X11_leaves a b c d μ = o.map (fun v => (v, μ)) := by
  unfold f_X11_leaves
  have ea : ∀ μ, f_X11_in a.toInt64 0 6 μ = some (if a < 0 ∨ ¬ a ≤ 6 then 0 else 1, μ) := fun μ => e_in0 a 0 6 μ 0 6 rfl rfl
  have eb : ∀ μ, f_X11_in b.toInt64 0 6 μ = some (if b < 0 ∨ ¬ b ≤ 6 then 0 else 1, μ) := fun μ => e_in0 b 0 6 μ 0 6 rfl rfl
  have ec : ∀ μ, f_X11_in c.toInt64 0 10 μ = some (if c < 0 ∨ ¬ c ≤ 10 then 0 else 1, μ) := fun μ => e_in0 c 0 10 μ 0 10 rfl rfl
  have ed : ∀ μ, f_X11_in d.toInt64 0 1 μ = some (if d < 0 ∨ ¬ d ≤ 1 then 0 else 1, μ) := fun μ => e_in0 d 0 1 μ 0 1 rfl rfl
  simp only [ea, eb, ec, ed, Option.bind_some, b10]
  by_cases h1 : a < 0 ∨ ¬ a ≤ 6
  · exact ⟨some (-3), fun μ => by rw [if_pos h1]; rfl⟩
  by_cases h2 : b < 0 ∨ ¬ b ≤ 6
  · exact ⟨some (-3), fun μ => by rw [if_neg h1, if_pos h2]; rfl⟩
  by_cases h3 : c < 0 ∨ ¬ c ≤ 10
  · exact ⟨some (-3), fun μ => by rw [if_neg h1, if_neg h2, if_pos h3]; rfl⟩
  by_cases h4 : d < 0 ∨ ¬ d ≤ 1
  · exact ⟨some (-3), fun μ => by rw [if_neg h1, if_neg h2, if_neg h3, if_pos h4]; rfl⟩
  simp only [if_neg h1, if_neg h2, if_neg h3, if_neg h4]
  obtain ⟨o1, ho1⟩ := lp_59 a b c d 0 gF 1 0
  simp only [ho1]
  cases o1 with
  | none => exact ⟨none, fun μ => rfl⟩
  | some v1 =>
    obtain ⟨o2, ho2⟩ := lp_81 a b c d v1.1 gF 0 0
    simp only [Option.map_some, Option.bind_some, ho2]
    cases o2 with
    | none => exact ⟨none, fun μ => rfl⟩
    | some v2 =>
      obtain ⟨o3, ho3⟩ := lp_164 a b c d v2.1 v1.1 gF v2.1 v1.1
      simp only [Option.map_some, Option.bind_some, lt, ho3]
      cases o3 with
      | none => exact ⟨none, fun μ => rfl⟩
      | some v3 =>
        simp only [Option.map_some, Option.bind_some]
        by_cases h5 : d = 0
        · by_cases h6 : v3.1 = 0
          · exact ⟨none, fun μ => by rw [if_pos h5, if_pos h6]; rfl⟩
          · exact ⟨some (v2.1 / v3.1), fun μ => by rw [if_pos h5, if_neg h6]; rfl⟩
        · by_cases h6 : v3.1 = 0
          · exact ⟨none, fun μ => by rw [if_neg h5, if_pos h6]; rfl⟩
          · exact ⟨some (v1.1 / v3.1), fun μ => by rw [if_neg h5, if_neg h6]; rfl⟩
def lvOk (n k p b : Nat) : Bool :=
  match (f_X10_leaves (nI n) (nI k) (nI p) (nI b) (fun _ _ => 0)).map (fun v => v.1), (f_X11_leaves (nI n) (nI k) (nI p) (nI b) (fun _ _ => 0)).map (fun v => v.1) with
  | some r, some r' => decide (r = r')
  | _, _ => false
theorem lv_tab0 : ∀ n : Nat, n < 4 → ∀ k : Nat, k < 7 → ∀ p : Nat, p < 11 → ∀ b : Nat, b < 2 → lvOk n k p b = true := by decide +kernel
theorem lv_tab4 : ∀ k : Nat, k < 7 → ∀ p : Nat, p < 11 → ∀ b : Nat, b < 2 → lvOk 4 k p b = true := by decide +kernel
theorem lv_tab5 : ∀ k : Nat, k < 7 → ∀ p : Nat, p < 11 → ∀ b : Nat, b < 2 → lvOk 5 k p b = true := by decide +kernel
theorem lv_tab6 : ∀ k : Nat, k < 7 → ∀ p : Nat, p < 11 → ∀ b : Nat, b < 2 → lvOk 6 k p b = true := by decide +kernel

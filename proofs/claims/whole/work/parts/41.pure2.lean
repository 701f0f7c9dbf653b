/-! the reference's minute of one sister, by the same words -/
def mS (T : Nat → Int32) (s : Nat) : V5 := (T (6 + 5 * s), T (6 + 5 * s + 1), T (6 + 5 * s + 2), T (6 + 5 * s + 3), T (6 + 5 * s + 4))
def sok (s : V5) : Prop := (s.1 = 0 ∨ s.1 = 1 ∨ s.1 = 2) ∧ (∃ k : Nat, 1 ≤ k ∧ k ≤ 6 ∧ s.2.1 = nI k) ∧ (∃ k : Nat, k ≤ 40 ∧ s.2.2.1 = nI k) ∧ (s.2.2.2.1 = 0 ∨ s.2.2.2.1 = 1 ∨ s.2.2.2.1 = 2 ∨ s.2.2.2.1 = 3) ∧ ∃ k : Nat, k ≤ 9 ∧ s.2.2.2.2 = nI k
def mz (g mn : Int32) : Int32 := if 0 ≤ g - mn then g - mn else 0
def rng (x : Int32) (b : Nat) : Prop := 0 ≤ x.toInt ∧ x.toInt ≤ (b : Int)
def frT (a b mn : Int32) : Int32 := if mn < a ∨ b < mn then 0 else 1
def mrep (S : V5) (R : Nat → Int32) (s : Nat) (mn : Int32) (w : V5) : Prop :=
  R s = w.1 ∧ R (5 + s) = w.2.1 ∧ R (15 + s) = w.2.2.1 ∧ R (20 + s) = w.2.2.2.1 ∧ mz (R (25 + s)) mn = w.2.2.2.2 ∧ (w.1 = 1 → R (10 + s) = wkT S w.2.2.2.1) ∧ (w.1 = 0 ∨ w.1 = 1 ∨ w.1 = 2) ∧ (w.1 = 2 → w.2.2.1 = 0) ∧ rng (R (25 + s)) 3000
theorem e_of {s k : Nat} (hs : s < 5) (hk : k < 5) (μ : gMem) : f_X11_of (nI s) (nI k) μ = some (μ 141 (6 + 5 * s + k), μ) := by
  unfold f_X11_of
  rw [if_pos (xof hs hk).2, (xof hs hk).1]
theorem e_of0 {s : Nat} (hs : s < 5) (μ : gMem) : f_X11_of (nI s) (0 : Int32) μ = some ((mS (μ 141) s).1, μ) := e_of hs (k := 0) (by decide) μ
theorem e_of1 {s : Nat} (hs : s < 5) (μ : gMem) : f_X11_of (nI s) (1 : Int32) μ = some ((mS (μ 141) s).2.1, μ) := e_of hs (k := 1) (by decide) μ
theorem e_of2 {s : Nat} (hs : s < 5) (μ : gMem) : f_X11_of (nI s) (2 : Int32) μ = some ((mS (μ 141) s).2.2.1, μ) := e_of hs (k := 2) (by decide) μ
theorem e_of3 {s : Nat} (hs : s < 5) (μ : gMem) : f_X11_of (nI s) (3 : Int32) μ = some ((mS (μ 141) s).2.2.2.1, μ) := e_of hs (k := 3) (by decide) μ
theorem e_of4 {s : Nat} (hs : s < 5) (μ : gMem) : f_X11_of (nI s) (4 : Int32) μ = some ((mS (μ 141) s).2.2.2.2, μ) := e_of hs (k := 4) (by decide) μ
theorem wk_alt {S : V5} (h : sok S) (r : Int32) : wkT S r = if S.1 = 1 then (if r < 3 then (if S.2.1 ≤ 1 then 1 else S.2.1 - 1) else S.2.1 + 1) else S.2.1 := by
  obtain ⟨-, ⟨k, h1, h2, h3⟩, -⟩ := h
  unfold wkT
  rw [h3]
  have key : ∀ k : Nat, k ≤ 6 → 1 ≤ k → (if (1 : Int32) < nI k - 1 then nI k - 1 else 1) = (if nI k ≤ 1 then 1 else nI k - 1) := by decide
  rw [key k h2 h1]
  by_cases hk : S.1 = 1
  · rw [if_pos hk, if_pos hk]
    by_cases hr : r < 3
    · rw [if_pos hr, if_neg (by rw [nlt]; exact hr)]
    · rw [if_neg hr, if_pos (by rw [← nle]; exact hr)]
  · rw [if_neg hk, if_neg hk]
theorem e_walkOf {s : Nat} (hs : s < 5) (μ : gMem) (hS : sok (mS (μ 141) s)) : f_X11_walkOf (nI s) μ = some (wkT (mS (μ 141) s) (μ 142 (20 + s)), μ) := by
  unfold f_X11_walkOf lt
  simp only [e_of1 hs, e_of0 hs, Option.bind_some, (x20 hs).1, (x20 hs).2, if_true]
  rw [wk_alt hS]
  repeat' split
  all_goals rfl
theorem dr_alt {S : V5} (h : sok S) : drT S = (if S.2.2.2.1 = 0 then S.2.2.2.2 else if S.2.2.2.1 = 1 then S.2.2.2.2 / 2 else if S.2.2.2.1 = 3 then S.2.2.2.2 + 2 else if S.2.2.2.2 / 2 ≤ 0 then 0 else S.2.2.2.2 / 2 - 1) ∧ ∃ k : Nat, k ≤ 11 ∧ drT S = nI k := by
  obtain ⟨-, -, -, h4, k, hk, h5⟩ := h
  unfold drT
  rw [h5]
  have key : ∀ k : Nat, k ≤ 9 → (if (0 : Int32) < nI k / 2 - 1 then nI k / 2 - 1 else 0) = (if nI k / 2 ≤ 0 then 0 else nI k / 2 - 1) := by decide
  have k1 : ∀ k : Nat, k ≤ 9 → nI k / 2 = nI (k / 2) := by decide
  have k2 : ∀ k : Nat, k ≤ 9 → (if nI k / 2 ≤ 0 then (0 : Int32) else nI k / 2 - 1) = nI (k / 2 - 1) := by decide
  have k3 : ∀ k : Nat, k ≤ 9 → nI k + 2 = nI (k + 2) := by decide
  rw [key k hk]
  rcases h4 with h | h | h | h <;> rw [h]
  · exact ⟨by simp, k, by omega, by simp⟩
  · exact ⟨by simp, k / 2, by omega, by simp [k1 k hk]⟩
  · exact ⟨by simp, k / 2 - 1, by omega, by simp only [show ¬ (2 : Int32) = 1 by decide, if_false, if_true]; exact k2 k hk⟩
  · exact ⟨by simp, k + 2, by omega, by simp [k3 k hk]⟩
theorem e_dripOf {s : Nat} (hs : s < 5) (μ : gMem) (hS : sok (mS (μ 141) s)) : f_X11_dripOf (nI s) μ = some (drT (mS (μ 141) s), μ) := by
  unfold f_X11_dripOf lt
  simp only [e_of3 hs, e_of4 hs, Option.bind_some]
  rw [(dr_alt hS).1]
  repeat' split
  all_goals rfl
theorem sub_rng {g mn : Int32} (hg : rng g 3000) (hm : rng mn 2000) : (g - mn).toInt = g.toInt - mn.toInt := by
  obtain ⟨a, b⟩ := hg
  obtain ⟨c, d⟩ := hm
  rw [Int32.toInt_sub]
  rw [Int.bmod_def]
  omega
theorem add1_rng {mn : Int32} {b : Nat} (hb : b ≤ 100000) (hm : rng mn b) : (mn + 1).toInt = mn.toInt + 1 := by
  obtain ⟨c, d⟩ := hm
  rw [Int32.toInt_add]
  have : (1 : Int32).toInt = 1 := by decide
  rw [this, Int.bmod_def]
  omega
theorem mz_toInt {g mn : Int32} (hg : rng g 3000) (hm : rng mn 2000) : (mz g mn).toInt = if mn.toInt ≤ g.toInt then g.toInt - mn.toInt else 0 := by
  unfold mz
  have e := sub_rng hg hm
  by_cases h : 0 ≤ g - mn
  · rw [if_pos h]
    have := Int32.le_iff_toInt_le.mp h
    rw [e] at this
    have z : (0 : Int32).toInt = 0 := by decide
    rw [z] at this
    rw [if_pos (by omega), e]
  · rw [if_neg h]
    have := Int32.lt_iff_toInt_lt.mp (Int32.not_le.mp h)
    rw [e] at this
    have z : (0 : Int32).toInt = 0 := by decide
    rw [z] at this
    rw [if_neg (by omega), z]
theorem mz_le {g mn : Int32} (hg : rng g 3000) (hm : rng mn 2000) : mz g mn ≤ 0 ↔ g ≤ mn := by
  have e := mz_toInt hg hm
  rw [Int32.le_iff_toInt_le, Int32.le_iff_toInt_le, e]
  have z : (0 : Int32).toInt = 0 := by decide
  rw [z]
  split <;> omega
theorem mz_next {g mn : Int32} (hg : rng g 3000) (hm : rng mn 1999) : mz g (mn + 1) = if mz g mn ≤ 0 then mz g mn else mz g mn - 1 := by
  have hm0 : rng mn 2000 := ⟨hm.1, by have := hm.2; omega⟩
  have a1 := add1_rng (by decide) hm
  have hm1 : rng (mn + 1) 2000 := ⟨by rw [a1]; have := hm.1; omega, by rw [a1]; have := hm.2; omega⟩
  apply Int32.toInt_inj.mp
  rw [mz_toInt hg hm1, a1]
  have e := mz_toInt hg hm0
  have h1 := hg.1
  have h2 := hg.2
  have h3 := hm.1
  have h4 := hm.2
  by_cases h : mz g mn ≤ 0
  · rw [if_pos h, e]
    have := Int32.le_iff_toInt_le.mp h
    have z : (0 : Int32).toInt = 0 := by decide
    rw [z, e] at this
    split at this <;> split <;> omega
  · rw [if_neg h]
    have := Int32.lt_iff_toInt_lt.mp (Int32.not_le.mp h)
    have z : (0 : Int32).toInt = 0 := by decide
    rw [z, e] at this
    have o : (1 : Int32).toInt = 1 := by decide
    rw [Int32.toInt_sub, o, e, Int.bmod_def]
    split at this <;> split <;> split <;> omega
theorem e_dripNow {s : Nat} (hs : s < 5) (μ : gMem) (hS : sok (mS (μ 141) s)) (hg : rng (μ 142 (25 + s)) 3000) (hm : rng (μ 142 30) 2000) : f_X11_dripNow (nI s) μ = some ((if mz (μ 142 (25 + s)) (μ 142 30) ≤ 0 then (if frT (μ 141 2) (μ 141 3) (μ 142 30) = 0 then drT (mS (μ 141) s) else 0) else (if frT (μ 141 2) (μ 141 3) (μ 142 30) = 0 then drT (mS (μ 141) s) else 0) / 2), μ) := by
  unfold f_X11_dripNow
  simp only [Int32.reduceToNatClampNeg, e_inI, Option.bind_some, (x25 hs).1, (x25 hs).2, if_true, e_dripOf hs μ hS]
  have h0 := mz_le hg hm
  unfold frT
  by_cases h1 : μ 142 30 < μ 141 2 ∨ μ 141 3 < μ 142 30
  · simp only [h1, if_true]
    by_cases h2 : μ 142 (25 + s) ≤ μ 142 30
    · rw [if_pos h2, if_pos (h0.mpr h2)]
    · rw [if_neg h2, if_neg (fun z => h2 (h0.mp z))]
  · simp only [h1, if_false, show ¬ (1 : Int32) = 0 by decide]
    split <;> rfl

theorem m_draws {s : Nat} (hs : s < 5) (μ : gMem) (hS : sok (mS (μ 141) s)) : ∃ μ', f_X11_draws (nI s) μ = some μ' ∧ (∀ k, k ≠ s → k ≠ 5 + s → k ≠ 10 + s → k ≠ 15 + s → μ' 142 k = μ 142 k) ∧ (∀ b, b ≠ 142 → μ' b = μ b) ∧ μ' 142 s = 1 ∧ μ' 142 (5 + s) = wkT (mS (μ 141) s) (μ 142 (20 + s)) ∧ μ' 142 (10 + s) = wkT (mS (μ 141) s) (μ 142 (20 + s)) ∧ μ' 142 (15 + s) = (mS (μ 141) s).2.2.1 := by
  have hS1 : sok (mS (st μ 142 s 1 141) s) := hS
  have hw := e_walkOf hs (st μ 142 s 1) hS1
  have e20 : st μ 142 s 1 142 (20 + s) = μ 142 (20 + s) := by simp [st_row]
  rw [e20] at hw
  refine ⟨_, by unfold f_X11_draws lt; simp only [(x0 hs).1, (x0 hs).2, (x5 hs).1, (x5 hs).2, (x10 hs).1, (x10 hs).2, (x15 hs).1, (x15 hs).2, if_true, hw, Option.bind_some, e_of2 hs]; rfl, ?_, ?_, ?_, ?_, ?_, ?_⟩
  · intro k h1 h2 h3 h4
    simp [st_row, h1, h2, h3, h4]
  · intro b hb
    simp [st_ne hb]
  · simp [st_row]
    repeat' split
    all_goals omega
  · simp [st_row]
    repeat' split
    all_goals first | rfl | omega
  · simp [st_row]
    repeat' split
    all_goals first | rfl | omega
  · simp [st_row]
    rfl
theorem dr0 : ∀ k : Nat, k ≤ 11 → ¬ (0 : Int32) < 0 - nI k := by decide
theorem dr02 : ∀ k : Nat, k ≤ 11 → ¬ (0 : Int32) < 0 - nI k / 2 := by decide
theorem max_alt (x : Int32) : (if 0 < x then x else 0) = (if 0 ≤ x then x else 0) := by
  by_cases h : 0 < x
  · rw [if_pos h, if_pos (Int32.le_of_lt h)]
  · rw [if_neg h]
    by_cases h2 : 0 ≤ x
    · rw [if_pos h2]
      exact (Int32.le_antisymm (Int32.not_lt.mp h) h2).symm
    · rw [if_neg h2]
theorem pm_alt (S : V5) (fr : Int32) (w : V5) : pmT S fr w = stT S (if w.2.2.2.2 ≤ 0 then (if fr = 0 then drT S else 0) else (if fr = 0 then drT S else 0) / 2) (w.1, w.2.1, w.2.2.1, w.2.2.2.1, if w.2.2.2.2 ≤ 0 then w.2.2.2.2 else w.2.2.2.2 - 1) := by
  unfold pmT
  by_cases h : w.2.2.2.2 ≤ 0
  · simp only [h, if_true]
  · simp only [h, if_false]
theorem dpos {S : V5} (hS : sok S) (fr m : Int32) : ¬ (0 : Int32) < 0 - (if m ≤ 0 then (if fr = 0 then drT S else 0) else (if fr = 0 then drT S else 0) / 2) := by
  obtain ⟨-, k, hk, e⟩ := dr_alt hS
  rw [e]
  have z1 := dr0 k hk
  have z2 := dr02 k hk
  by_cases h : m ≤ 0
  · rw [if_pos h]
    by_cases h2 : fr = 0
    · rw [if_pos h2]; exact z1
    · rw [if_neg h2]; decide
  · rw [if_neg h]
    by_cases h2 : fr = 0
    · rw [if_pos h2]; exact z2
    · rw [if_neg h2]; decide
theorem i01 : ¬ (0 : Int32) = 1 := by decide
theorem i02 : ¬ (0 : Int32) = 2 := by decide
theorem i12 : ¬ (1 : Int32) = 2 := by decide
theorem i21 : ¬ (2 : Int32) = 1 := by decide
theorem m_step {s : Nat} (hs : s < 5) (μ : gMem) (w : V5) (hS : sok (mS (μ 141) s)) (hm : rng (μ 142 30) 1999) (hr : mrep (mS (μ 141) s) (μ 142) s (μ 142 30) w) :
    ∃ μ', f_X11_step (nI s) μ = some ((pmT (mS (μ 141) s) (frT (μ 141 2) (μ 141 3) (μ 142 30)) w).1, μ') ∧ mrep (mS (μ 141) s) (μ' 142) s (μ 142 30 + 1) (pmT (mS (μ 141) s) (frT (μ 141 2) (μ 141 3) (μ 142 30)) w).2 ∧ (∀ k, k ≠ s → k ≠ 5 + s → k ≠ 10 + s → k ≠ 15 + s → k ≠ 20 + s → μ' 142 k = μ 142 k) ∧ ∀ b, b ≠ 142 → μ' b = μ b := by
  have hm2 : rng (μ 142 30) 2000 := ⟨hm.1, by have := hm.2; omega⟩
  obtain ⟨r0, r5, r15, r20, r25, r10, rh, rd, rg⟩ := hr
  rw [pm_alt]
  generalize hD : (if w.2.2.2.2 ≤ 0 then (if frT (μ 141 2) (μ 141 3) (μ 142 30) = 0 then drT (mS (μ 141) s) else 0) else (if frT (μ 141 2) (μ 141 3) (μ 142 30) = 0 then drT (mS (μ 141) s) else 0) / 2) = D
  have hdp : ¬ (0 : Int32) < 0 - D := by rw [← hD]; exact dpos hS _ _
  have hmz : mz (μ 142 (25 + s)) (μ 142 30 + 1) = if w.2.2.2.2 ≤ 0 then w.2.2.2.2 else w.2.2.2.2 - 1 := by rw [mz_next rg hm, r25]
  rw [← hmz]
  have n30 : ∀ c, c ≤ 20 → c + s ≠ 30 := fun c hc => by omega
  have n0 : s ≠ 30 := by omega
  unfold f_X11_step
  simp only [(x0 hs).1, (x0 hs).2, (x5 hs).1, (x5 hs).2, (x10 hs).1, (x10 hs).2, (x15 hs).1, (x15 hs).2, (x20 hs).1, (x20 hs).2, if_true]
  unfold lt
  rcases rh with h | h | h
  · -- she rests
    refine ⟨μ, by rw [r0, h]; simp [stT, h], ?_, fun _ _ _ _ _ _ => rfl, fun _ _ => rfl⟩
    simp only [stT, h, if_true]
    exact ⟨by rw [r0, h], r5, r15, r20, rfl, fun z => absurd z i01, Or.inl rfl, fun z => absurd z i02, rg⟩
  · -- to the tub
    have hm6 : f_X11_dripNow (nI s) (st μ 142 (5 + s) (μ 142 (5 + s) - 1)) = some (D, st μ 142 (5 + s) (μ 142 (5 + s) - 1)) := by
      have q25 : st μ 142 (5 + s) (μ 142 (5 + s) - 1) 142 (25 + s) = μ 142 (25 + s) := by simp [st_row]
      have q30 : st μ 142 (5 + s) (μ 142 (5 + s) - 1) 142 30 = μ 142 30 := by simp [st_row]; omega
      have := e_dripNow hs (st μ 142 (5 + s) (μ 142 (5 + s) - 1)) hS (by rw [q25]; exact rg) (by rw [q30]; exact hm2)
      rw [this, q25, q30, r25, ← hD]
      rfl
    simp only [r0, h, show ¬ (1 : Int32) = 0 by decide, if_false, if_true, hm6, Option.bind_some, show ¬ (1 : Int32) = 2 by decide]
    have e15 : st μ 142 (5 + s) (μ 142 (5 + s) - 1) 142 (15 + s) = w.2.2.1 := by simp [st_row, r15]
    rw [e15]
    have e5 : ∀ v, st (st μ 142 (5 + s) (μ 142 (5 + s) - 1)) 142 (15 + s) v 142 (5 + s) = w.2.1 - 1 := fun v => by simp [st_row, r5]
    rw [e5]
    by_cases hw : w.2.1 - 1 ≤ 0
    · simp only [hw, if_true, e_of0 hs, Option.bind_some]
      refine ⟨_, by simp only [stT, h, hw, if_true, if_false, show ¬ (1 : Int32) = 0 by decide]; rw [max_alt]; simp only [st_same, if_true]; rfl, ?_, ?_, ?_⟩
      · simp only [stT, h, hw, if_true, if_false, show ¬ (1 : Int32) = 0 by decide]
        have hk := r10 h
        refine ⟨by simp [st_row], ?_, by simp [st_row], by simp [st_row, r20], by simp [st_row], fun z => absurd z i21, Or.inr (Or.inr rfl), fun _ => rfl, by simpa [st_row] using rg⟩
        simp [st_row, hk, bkT]
        have : (mS (st (st (st (st μ 142 (5 + s) (μ 142 (5 + s) - 1)) 142 (15 + s) (if 0 ≤ w.2.2.1 - D then w.2.2.1 - D else 0)) 142 (15 + s) 0) 142 s 2 141) s) = mS (μ 141) s := rfl
        rw [this]
        split <;> simp
      · intro k k0 k1 k2 k3 k4
        simp [st_row, k0, k1, k3]
      · intro b hb
        simp [st_ne hb]
    · simp only [hw, if_false]
      refine ⟨_, by simp only [stT, h, hw, if_true, if_false, show ¬ (1 : Int32) = 0 by decide]; rfl, ?_, ?_, ?_⟩
      · simp only [stT, h, hw, if_true, if_false, show ¬ (1 : Int32) = 0 by decide]
        refine ⟨by simp [st_row, r0, h], by simp [st_row, r5], by rw [max_alt]; simp [st_row], by simp [st_row, r20], by simp [st_row], fun _ => by simp [st_row]; exact r10 h, Or.inr (Or.inl rfl), fun z => absurd z i12, by simpa [st_row] using rg⟩
      · intro k k0 k1 k2 k3 k4
        simp [st_row, k1, k3]
      · intro b hb
        simp [st_ne hb]
  · -- back
    simp only [r0, h, show ¬ (2 : Int32) = 0 by decide, show ¬ (2 : Int32) = 1 by decide, if_false, if_true]
    have e5 : st μ 142 (5 + s) (μ 142 (5 + s) - 1) 142 (5 + s) = w.2.1 - 1 := by simp [st_row, r5]
    rw [e5]
    have hd0 := rd h
    by_cases hw : w.2.1 - 1 ≤ 0
    · simp only [hw, if_true]
      obtain ⟨m', p1, p2, p3, p4, p5, p6, p7⟩ := m_draws hs (st (st μ 142 (5 + s) (μ 142 (5 + s) - 1)) 142 (20 + s) (st μ 142 (5 + s) (μ 142 (5 + s) - 1) 142 (20 + s) + 1)) hS
      have e20 : st (st μ 142 (5 + s) (μ 142 (5 + s) - 1)) 142 (20 + s) (st μ 142 (5 + s) (μ 142 (5 + s) - 1) 142 (20 + s) + 1) 142 (20 + s) = w.2.2.2.1 + 1 := by simp [st_row, r20]
      rw [e20] at p5 p6
      refine ⟨m', by rw [p1]; simp [stT, h, hw], ?_, ?_, ?_⟩
      · simp only [stT, h, hw, if_true, if_false, show ¬ (2 : Int32) = 0 by decide, show ¬ (2 : Int32) = 1 by decide]
        have q25 : m' 142 (25 + s) = μ 142 (25 + s) := by rw [p2 _ (by omega) (by omega) (by omega) (by omega)]; simp [st_row]
        refine ⟨p4, p5, p7, ?_, by rw [q25], fun _ => p6, Or.inr (Or.inl rfl), fun z => absurd z i12, by rw [q25]; exact rg⟩
        rw [p2 _ (by omega) (by omega) (by omega) (by omega)]
        exact e20
      · intro k k0 k1 k2 k3 k4
        rw [p2 k k0 k1 k2 k3]
        simp [st_row, k1, k4]
      · intro b hb
        rw [p3 b hb]
        simp [st_ne hb]
    · simp only [hw, if_false]
      refine ⟨_, by simp only [stT, h, hw, if_true, if_false, show ¬ (2 : Int32) = 0 by decide]; rfl, ?_, ?_, ?_⟩
      · simp only [stT, h, hw, if_true, if_false, show ¬ (2 : Int32) = 0 by decide, hd0, hdp]
        refine ⟨by simp [st_row, r0, h], by simp [st_row, r5], by simp [st_row, r15, hd0], by simp [st_row, r20], by simp [st_row], fun z => absurd z i21, Or.inr (Or.inr rfl), fun _ => rfl, by simpa [st_row] using rg⟩
      · intro k k0 k1 k2 k3 k4
        simp [st_row, k1]
      · intro b hb
        simp [st_ne hb]

/-! the reference's rows copied (wip/whole/mkcopy.py) -/
theorem ix35 {u k : Nat} (hu : u < 8) (hk : k < 35) : (35 : Int32) * nI u + nI k = nI (35 * u + k) := by rw [show (35 : Int32) = nI 35 from rfl, pk_mul, nI_add]
theorem lp_putAside (μ0 : gMem) : ∀ (n k : Nat) (μ : gMem), k ≤ 35 → 35 - k < n → (∀ j, j < k → μ 148 j = μ0 142 j) → (∀ j, ¬ (j < k) → μ 148 j = μ0 148 j) → (∀ b, b ≠ 148 → μ b = μ0 b) →
    ∃ μ', l_X11_putAside_2 n (nI k) μ = some (nI 35, μ') ∧ (∀ j, j < 35 → μ' 148 j = μ0 142 j) ∧ (∀ j, ¬ (j < 35) → μ' 148 j = μ0 148 j) ∧ (∀ b, b ≠ 148 → μ' b = μ0 b) := by
  intro n
  induction n with
  | zero => intro k μ h2 h3; omega
  | succ n ih =>
    intro k μ h2 h3 h4 h5 h6
    unfold l_X11_putAside_2
    by_cases hk : k = 35
    · subst hk
      rw [if_pos (show (35 : Int32) ≤ nI 35 from Int32.le_refl _)]
      exact ⟨μ, rfl, h4, h5, h6⟩
    · rw [if_neg (show ¬ (35 : Int32) ≤ nI k from nI_ge (b := 35) (by omega) (by decide))]
      rw [if_pos (inb5 (show k < 35 by omega) (by decide)), cl5 (by omega)]
      simp only [lt, nI_inc]
      refine ih (k + 1) _ (by omega) (by omega) (fun j hj => ?_) (fun j hj => ?_) (fun b hb => by rw [st_ne hb]; exact h6 b hb)
      · by_cases hjk : j = k
        · subst hjk
          simp only [st_row, and_self, if_true]
          rw [h6 142 (by decide)]
        · simp only [st_row, true_and]
          rw [if_neg (by omega)]
          exact h4 j (by omega)
      · simp only [st_row, true_and]
        rw [if_neg (by omega)]
        exact h5 j (by omega)
theorem lp_takeBack (μ0 : gMem) : ∀ (n k : Nat) (μ : gMem), k ≤ 35 → 35 - k < n → (∀ j, j < k → μ 142 j = μ0 148 j) → (∀ j, ¬ (j < k) → μ 142 j = μ0 142 j) → (∀ b, b ≠ 142 → μ b = μ0 b) →
    ∃ μ', l_X11_takeBack_2 n (nI k) μ = some (nI 35, μ') ∧ (∀ j, j < 35 → μ' 142 j = μ0 148 j) ∧ (∀ j, ¬ (j < 35) → μ' 142 j = μ0 142 j) ∧ (∀ b, b ≠ 142 → μ' b = μ0 b) := by
  intro n
  induction n with
  | zero => intro k μ h2 h3; omega
  | succ n ih =>
    intro k μ h2 h3 h4 h5 h6
    unfold l_X11_takeBack_2
    by_cases hk : k = 35
    · subst hk
      rw [if_pos (show (35 : Int32) ≤ nI 35 from Int32.le_refl _)]
      exact ⟨μ, rfl, h4, h5, h6⟩
    · rw [if_neg (show ¬ (35 : Int32) ≤ nI k from nI_ge (b := 35) (by omega) (by decide))]
      rw [if_pos (inb5 (show k < 35 by omega) (by decide)), cl5 (by omega)]
      simp only [lt, nI_inc]
      refine ih (k + 1) _ (by omega) (by omega) (fun j hj => ?_) (fun j hj => ?_) (fun b hb => by rw [st_ne hb]; exact h6 b hb)
      · by_cases hjk : j = k
        · subst hjk
          simp only [st_row, and_self, if_true]
          rw [h6 148 (by decide)]
        · simp only [st_row, true_and]
          rw [if_neg (by omega)]
          exact h4 j (by omega)
      · simp only [st_row, true_and]
        rw [if_neg (by omega)]
        exact h5 j (by omega)
theorem lp_anew (μ0 : gMem) : ∀ (n k : Nat) (μ : gMem), k ≤ 35 → 35 - k < n → (∀ j, j < k → μ 142 j = 0) → (∀ j, ¬ (j < k) → μ 142 j = μ0 142 j) → (∀ b, b ≠ 142 → μ b = μ0 b) →
    ∃ μ', l_X11_anew_2 n (nI k) μ = some (nI 35, μ') ∧ (∀ j, j < 35 → μ' 142 j = 0) ∧ (∀ j, ¬ (j < 35) → μ' 142 j = μ0 142 j) ∧ (∀ b, b ≠ 142 → μ' b = μ0 b) := by
  intro n
  induction n with
  | zero => intro k μ h2 h3; omega
  | succ n ih =>
    intro k μ h2 h3 h4 h5 h6
    unfold l_X11_anew_2
    by_cases hk : k = 35
    · subst hk
      rw [if_pos (show (35 : Int32) ≤ nI 35 from Int32.le_refl _)]
      exact ⟨μ, rfl, h4, h5, h6⟩
    · rw [if_neg (show ¬ (35 : Int32) ≤ nI k from nI_ge (b := 35) (by omega) (by decide))]
      rw [if_pos (inb5 (show k < 35 by omega) (by decide)), cl5 (by omega)]
      simp only [lt, nI_inc]
      refine ih (k + 1) _ (by omega) (by omega) (fun j hj => ?_) (fun j hj => ?_) (fun b hb => by rw [st_ne hb]; exact h6 b hb)
      · by_cases hjk : j = k
        · subst hjk
          simp only [st_row, and_self, if_true]

        · simp only [st_row, true_and]
          rw [if_neg (by omega)]
          exact h4 j (by omega)
      · simp only [st_row, true_and]
        rw [if_neg (by omega)]
        exact h5 j (by omega)
theorem lp_read (μ0 : gMem) : ∀ (n k : Nat) (μ : gMem), k ≤ 31 → 31 - k < n → (∀ j, j < k → μ 144 j = μ0 141 j) → (∀ j, ¬ (j < k) → μ 144 j = μ0 144 j) → (∀ b, b ≠ 144 → μ b = μ0 b) →
    ∃ μ', l_X11_readText_20 n (nI k) μ = some (nI 31, μ') ∧ (∀ j, j < 31 → μ' 144 j = μ0 141 j) ∧ (∀ j, ¬ (j < 31) → μ' 144 j = μ0 144 j) ∧ (∀ b, b ≠ 144 → μ' b = μ0 b) := by
  intro n
  induction n with
  | zero => intro k μ h2 h3; omega
  | succ n ih =>
    intro k μ h2 h3 h4 h5 h6
    unfold l_X11_readText_20
    by_cases hk : k = 31
    · subst hk
      rw [if_pos (show (31 : Int32) ≤ nI 31 from Int32.le_refl _)]
      exact ⟨μ, rfl, h4, h5, h6⟩
    · rw [if_neg (show ¬ (31 : Int32) ≤ nI k from nI_ge (b := 31) (by omega) (by decide))]
      rw [if_pos (inb5 (show k < 31 by omega) (by decide)), cl5 (by omega)]
      simp only [lt, nI_inc]
      refine ih (k + 1) _ (by omega) (by omega) (fun j hj => ?_) (fun j hj => ?_) (fun b hb => by rw [st_ne hb]; exact h6 b hb)
      · by_cases hjk : j = k
        · subst hjk
          simp only [st_row, and_self, if_true]
          rw [h6 141 (by decide)]
        · simp only [st_row, true_and]
          rw [if_neg (by omega)]
          exact h4 j (by omega)
      · simp only [st_row, true_and]
        rw [if_neg (by omega)]
        exact h5 j (by omega)
theorem lp_well (μ0 : gMem) : ∀ (n k : Nat) (μ : gMem), k ≤ 31 → 31 - k < n → (∀ j, j < k → μ 141 j = μ0 144 j) → (∀ j, ¬ (j < k) → μ 141 j = μ0 141 j) → (∀ b, b ≠ 141 → μ b = μ0 b) →
    ∃ μ', l_X11_well_25 n (nI k) μ = some (nI 31, μ') ∧ (∀ j, j < 31 → μ' 141 j = μ0 144 j) ∧ (∀ j, ¬ (j < 31) → μ' 141 j = μ0 141 j) ∧ (∀ b, b ≠ 141 → μ' b = μ0 b) := by
  intro n
  induction n with
  | zero => intro k μ h2 h3; omega
  | succ n ih =>
    intro k μ h2 h3 h4 h5 h6
    unfold l_X11_well_25
    by_cases hk : k = 31
    · subst hk
      rw [if_pos (show (31 : Int32) ≤ nI 31 from Int32.le_refl _)]
      exact ⟨μ, rfl, h4, h5, h6⟩
    · rw [if_neg (show ¬ (31 : Int32) ≤ nI k from nI_ge (b := 31) (by omega) (by decide))]
      rw [if_pos (inb5 (show k < 31 by omega) (by decide)), cl5 (by omega)]
      simp only [lt, nI_inc]
      refine ih (k + 1) _ (by omega) (by omega) (fun j hj => ?_) (fun j hj => ?_) (fun b hb => by rw [st_ne hb]; exact h6 b hb)
      · by_cases hjk : j = k
        · subst hjk
          simp only [st_row, and_self, if_true]
          rw [h6 144 (by decide)]
        · simp only [st_row, true_and]
          rw [if_neg (by omega)]
          exact h4 j (by omega)
      · simp only [st_row, true_and]
        rw [if_neg (by omega)]
        exact h5 j (by omega)
theorem lp_note (u : Nat) (hu : u < 8) (μ0 : gMem) (h1 : μ0 140 13 = nI u) : ∀ (n k : Nat) (μ : gMem), k ≤ 35 → 35 - k < n → (∀ j, j < k → μ 145 (35 * u + j) = μ0 142 j) → (∀ j, ¬ (35 * u ≤ j ∧ j < 35 * u + k) → μ 145 j = μ0 145 j) → (∀ b, b ≠ 145 → μ b = μ0 b) →
    ∃ μ', l_X11_note_51 n (nI k) μ = some (nI 35, μ') ∧ (∀ j, j < 35 → μ' 145 (35 * u + j) = μ0 142 j) ∧ (∀ j, ¬ (35 * u ≤ j ∧ j < 35 * u + 35) → μ' 145 j = μ0 145 j) ∧ (∀ b, b ≠ 145 → μ' b = μ0 b) := by
  intro n
  induction n with
  | zero => intro k μ h2 h3; omega
  | succ n ih =>
    intro k μ h2 h3 h4 h5 h6
    unfold l_X11_note_51
    by_cases hk : k = 35
    · subst hk
      rw [if_pos (show (35 : Int32) ≤ nI 35 from Int32.le_refl _)]
      exact ⟨μ, rfl, h4, h5, h6⟩
    · rw [if_neg (show ¬ (35 : Int32) ≤ nI k from nI_ge (b := 35) (by omega) (by decide))]
      rw [h6 140 (by decide), h1, if_pos (inb5 (show k < 35 by omega) (by decide)), ix35 (by omega) (show k < 35 by omega), if_pos (inb5 (show 35 * u + k < 280 by omega) (by decide)), cl5 (show k < 1000 by omega), cl5 (show 35 * u + k < 1000 by omega)]
      simp only [lt, nI_inc]
      refine ih (k + 1) _ (by omega) (by omega) (fun j hj => ?_) (fun j hj => ?_) (fun b hb => by rw [st_ne hb]; exact h6 b hb)
      · by_cases hjk : j = k
        · subst hjk
          simp only [st_row, and_self, if_true]
          rw [h6 142 (by decide)]
        · simp only [st_row, true_and]
          rw [if_neg (by omega)]
          exact h4 j (by omega)
      · simp only [st_row, true_and]
        rw [if_neg (by omega)]
        exact h5 j (by omega)
theorem lp_undo (u : Nat) (hu : u < 8) (μ0 : gMem) (h1 : μ0 140 13 = nI u) : ∀ (n k : Nat) (μ : gMem), k ≤ 35 → 35 - k < n → (∀ j, j < k → μ 142 j = μ0 145 (35 * u + j)) → (∀ j, ¬ (j < k) → μ 142 j = μ0 142 j) → (∀ b, b ≠ 142 → μ b = μ0 b) →
    ∃ μ', l_X11_undo_22 n (nI k) μ = some (nI 35, μ') ∧ (∀ j, j < 35 → μ' 142 j = μ0 145 (35 * u + j)) ∧ (∀ j, ¬ (j < 35) → μ' 142 j = μ0 142 j) ∧ (∀ b, b ≠ 142 → μ' b = μ0 b) := by
  intro n
  induction n with
  | zero => intro k μ h2 h3; omega
  | succ n ih =>
    intro k μ h2 h3 h4 h5 h6
    unfold l_X11_undo_22
    by_cases hk : k = 35
    · subst hk
      rw [if_pos (show (35 : Int32) ≤ nI 35 from Int32.le_refl _)]
      exact ⟨μ, rfl, h4, h5, h6⟩
    · rw [if_neg (show ¬ (35 : Int32) ≤ nI k from nI_ge (b := 35) (by omega) (by decide))]
      rw [h6 140 (by decide), h1, ix35 (by omega) (show k < 35 by omega), if_pos (inb5 (show 35 * u + k < 280 by omega) (by decide)), if_pos (inb5 (show k < 35 by omega) (by decide)), cl5 (show k < 1000 by omega), cl5 (show 35 * u + k < 1000 by omega)]
      simp only [lt, nI_inc]
      refine ih (k + 1) _ (by omega) (by omega) (fun j hj => ?_) (fun j hj => ?_) (fun b hb => by rw [st_ne hb]; exact h6 b hb)
      · by_cases hjk : j = k
        · subst hjk
          simp only [st_row, and_self, if_true]
          rw [h6 145 (by decide)]
        · simp only [st_row, true_and]
          rw [if_neg (by omega)]
          exact h4 j (by omega)
      · simp only [st_row, true_and]
        rw [if_neg (by omega)]
        exact h5 j (by omega)
theorem lp_keep (u : Nat) (hu : u < 2) (μ0 : gMem) : ∀ (n k : Nat) (μ : gMem), k ≤ 35 → 35 - k < n → (∀ j, j < k → μ 147 (35 * u + j) = μ0 142 j) → (∀ j, ¬ (35 * u ≤ j ∧ j < 35 * u + k) → μ 147 j = μ0 147 j) → (∀ b, b ≠ 147 → μ b = μ0 b) →
    ∃ μ', l_X11_keep_15 (nI u) n (nI k) μ = some (nI 35, μ') ∧ (∀ j, j < 35 → μ' 147 (35 * u + j) = μ0 142 j) ∧ (∀ j, ¬ (35 * u ≤ j ∧ j < 35 * u + 35) → μ' 147 j = μ0 147 j) ∧ (∀ b, b ≠ 147 → μ' b = μ0 b) := by
  intro n
  induction n with
  | zero => intro k μ h2 h3; omega
  | succ n ih =>
    intro k μ h2 h3 h4 h5 h6
    unfold l_X11_keep_15
    by_cases hk : k = 35
    · subst hk
      rw [if_pos (show (35 : Int32) ≤ nI 35 from Int32.le_refl _)]
      exact ⟨μ, rfl, h4, h5, h6⟩
    · rw [if_neg (show ¬ (35 : Int32) ≤ nI k from nI_ge (b := 35) (by omega) (by decide))]
      rw [if_pos (inb5 (show k < 35 by omega) (by decide)), ix35 (by omega) (show k < 35 by omega), if_pos (inb5 (show 35 * u + k < 70 by omega) (by decide)), cl5 (show k < 1000 by omega), cl5 (show 35 * u + k < 1000 by omega)]
      simp only [lt, nI_inc]
      refine ih (k + 1) _ (by omega) (by omega) (fun j hj => ?_) (fun j hj => ?_) (fun b hb => by rw [st_ne hb]; exact h6 b hb)
      · by_cases hjk : j = k
        · subst hjk
          simp only [st_row, and_self, if_true]
          rw [h6 142 (by decide)]
        · simp only [st_row, true_and]
          rw [if_neg (by omega)]
          exact h4 j (by omega)
      · simp only [st_row, true_and]
        rw [if_neg (by omega)]
        exact h5 j (by omega)
theorem lp_back (u : Nat) (hu : u < 2) (μ0 : gMem) : ∀ (n k : Nat) (μ : gMem), k ≤ 35 → 35 - k < n → (∀ j, j < k → μ 142 j = μ0 147 (35 * u + j)) → (∀ j, ¬ (j < k) → μ 142 j = μ0 142 j) → (∀ b, b ≠ 142 → μ b = μ0 b) →
    ∃ μ', l_X11_back_27 (nI u) n (nI k) μ = some (nI 35, μ') ∧ (∀ j, j < 35 → μ' 142 j = μ0 147 (35 * u + j)) ∧ (∀ j, ¬ (j < 35) → μ' 142 j = μ0 142 j) ∧ (∀ b, b ≠ 142 → μ' b = μ0 b) := by
  intro n
  induction n with
  | zero => intro k μ h2 h3; omega
  | succ n ih =>
    intro k μ h2 h3 h4 h5 h6
    unfold l_X11_back_27
    by_cases hk : k = 35
    · subst hk
      rw [if_pos (show (35 : Int32) ≤ nI 35 from Int32.le_refl _)]
      exact ⟨μ, rfl, h4, h5, h6⟩
    · rw [if_neg (show ¬ (35 : Int32) ≤ nI k from nI_ge (b := 35) (by omega) (by decide))]
      rw [ix35 (by omega) (show k < 35 by omega), if_pos (inb5 (show 35 * u + k < 70 by omega) (by decide)), if_pos (inb5 (show k < 35 by omega) (by decide)), cl5 (show k < 1000 by omega), cl5 (show 35 * u + k < 1000 by omega)]
      simp only [lt, nI_inc]
      refine ih (k + 1) _ (by omega) (by omega) (fun j hj => ?_) (fun j hj => ?_) (fun b hb => by rw [st_ne hb]; exact h6 b hb)
      · by_cases hjk : j = k
        · subst hjk
          simp only [st_row, and_self, if_true]
          rw [h6 147 (by decide)]
        · simp only [st_row, true_and]
          rw [if_neg (by omega)]
          exact h4 j (by omega)
      · simp only [st_row, true_and]
        rw [if_neg (by omega)]
        exact h5 j (by omega)

/-! the class's forecasts -/
theorem c_fill (s mn n : Nat) (hs : s < 5) (hn : n ≤ 99) (S w : V5) (μ : gMem) (hS : v5 (μ (3 + s)) = S) (hw : v5 (μ 104) = w) :
    ∃ μ', f_X2_fill (nI s) (nI mn) (nI n) μ = some μ' ∧ (∀ j, j < n → μ' (99 + s) j = pseq S (Fq (μ 1 6) (μ 1 7) mn) w j) ∧ ∀ q, q ≠ 104 → q ≠ 99 + s → μ' q = μ q := by
  have key : ∀ (f k : Nat) (m : gMem), k ≤ n → n - k < f → v5 (m 104) = wseq S (Fq (μ 1 6) (μ 1 7) mn) w k → (∀ j, j < k → m (99 + s) j = pseq S (Fq (μ 1 6) (μ 1 7) mn) w j) → (∀ q, q ≠ 104 → q ≠ 99 + s → m q = μ q) →
      ∃ μ', l_X2_fill_3 (nI s) (nI mn) (nI n) f (nI k) m = some (nI n, μ') ∧ (∀ j, j < n → μ' (99 + s) j = pseq S (Fq (μ 1 6) (μ 1 7) mn) w j) ∧ ∀ q, q ≠ 104 → q ≠ 99 + s → μ' q = μ q := by
    intro f
    induction f with
    | zero => intro k m _ h2; omega
    | succ f ih =>
      intro k m h1 h2 h3 h4 h5
      unfold l_X2_fill_3
      by_cases hk : k = n
      · subst hk
        rw [if_pos (Int32.le_refl _)]
        exact ⟨m, rfl, h4, h5⟩
      · rw [if_neg (nI_ge (by omega) (by omega)), if_pos (inb5 hs (by decide)), cl5 (by omega), e_isFrost, nI_add, h5 1 (by decide) (by omega)]
        simp only [Option.bind_some]
        have e3 : 2 + 1 + s = 3 + s := by omega
        rw [e3]
        obtain ⟨m', p1, p2, p3⟩ := e_pm (w := 104) (s := 3 + s) (by omega) (frT (μ 1 6) (μ 1 7) (nI (mn + k))) m
        rw [h5 (3 + s) (by omega) (by omega), hS, h3] at p1 p2
        rw [p1]
        have hk99 : k < 99 := by omega
        simp only [Option.bind_some, if_pos (inb5 hk99 (by decide)), cl5 (show k < 1000 by omega), lt, nI_inc]
        have e99 : 98 + 1 + s = 99 + s := by omega
        rw [e99]
        refine ih (k + 1) _ (by omega) (by omega) (by rw [st_ne (by omega)]; exact p2) (fun j hj => ?_) (fun q g1 g2 => by rw [st_ne g2, p3 q g1]; exact h5 q g1 g2)
        rw [st_same]
        by_cases hjk : j = k
        · subst hjk
          rw [if_pos rfl]
          rfl
        · rw [if_neg hjk, p3 _ (by omega)]
          exact h4 j (by omega)
  obtain ⟨m, p1, p2⟩ := key gF 0 μ (by omega) (by unfold gF; omega) hw (fun j hj => by omega) (fun _ _ _ => rfl)
  have p1' : l_X2_fill_3 (nI s) (nI mn) (nI n) gF 0 μ = some (nI n, m) := p1
  unfold f_X2_fill
  rw [p1']
  exact ⟨m, rfl, p2⟩
def PR (μ : gMem) (c n : Nat) (P : Nat → Nat → Int32) : Prop := ∀ s, s < c → ∀ j, j < n → μ (99 + s) j = P s j
theorem c_takeAll (c n mn : Nat) (hc : c ≤ 5) (hn : n ≤ 99) (μ : gMem) (h1 : μ 1 1 = nI c) (x : V5) (w : W5) (hx : cSc μ 16 x w) (hmn : x.1 = nI mn) :
    ∃ μ', f_X2_takeAll 16 (nI n) μ = some μ' ∧ PR μ' c n (fun s => pseq (cS μ s) (Fq (μ 1 6) (μ 1 7) mn) (w s)) ∧ μ' 97 4 = nI (2 ^ c - 1) ∧ ∀ q, (q < 97 ∨ 105 ≤ q) → μ' q = μ q := by
  have key : ∀ (f s : Nat) (m : gMem), s ≤ c → c - s < f → PR m s n (fun s => pseq (cS μ s) (Fq (μ 1 6) (μ 1 7) mn) (w s)) → (∀ q, (q < 97 ∨ 105 ≤ q) → m q = μ q) →
      ∃ μ', l_X2_takeAll_2 16 (nI n) f (nI s) m = some (nI c, μ') ∧ PR μ' c n (fun s => pseq (cS μ s) (Fq (μ 1 6) (μ 1 7) mn) (w s)) ∧ ∀ q, (q < 97 ∨ 105 ≤ q) → μ' q = μ q := by
    intro f
    induction f with
    | zero => intro s m _ h2; omega
    | succ f ih =>
      intro s m h2 h3 h4 h5
      unfold l_X2_takeAll_2
      rw [h5 1 (by omega), h1]
      by_cases hs : s = c
      · subst hs
        rw [if_pos (Int32.le_refl _)]
        exact ⟨m, rfl, h4, h5⟩
      · have hs5 : s < 5 := by omega
        rw [if_neg (nI_ge (by omega) (by omega)), if_pos (inb5 hs5 (by decide)), cl5 (by omega)]
        obtain ⟨m1, p1, p2, p3⟩ := e_copyW (w := 104) (s := 16 + 1 + 1 + s) (by omega) m
        rw [p1]
        simp only [Option.bind_some]
        have e16 : m1 16 0 = nI mn := by rw [p3 16 (by decide), h5 16 (by omega), ← hmn, ← hx.1]; rfl
        rw [e16]
        have ew : v5 (m1 104) = w s := by rw [p2, h5 _ (by omega)]; exact hx.2 s hs5
        obtain ⟨m2, q1, q2, q3⟩ := c_fill s mn n hs5 hn (cS μ s) (w s) m1 (by rw [p3 _ (by omega), h5 _ (by omega)]; rfl) ew
        rw [p3 1 (by decide), h5 1 (by omega)] at q2
        rw [q1]
        simp only [Option.bind_some, lt, nI_inc]
        refine ih (s + 1) m2 (by omega) (by omega) (fun j hj k hk => ?_) (fun q hq => by rw [q3 q (by omega) (by omega), p3 q (by omega)]; exact h5 q hq)
        by_cases hjs : j = s
        · subst hjs
          exact q2 k hk
        · rw [q3 _ (by omega) (by omega), p3 _ (by omega)]
          exact h4 j (by omega) k hk
  obtain ⟨m, p1, p2, p3⟩ := key gF 0 μ (by omega) (by unfold gF; omega) (fun j hj => by omega) (fun _ _ => rfl)
  have p1' : l_X2_takeAll_2 16 (nI n) gF 0 μ = some (nI c, m) := p1
  unfold f_X2_takeAll
  simp only [p1', Option.bind_some, lt, p3 1 (by omega), h1]
  have e2 : ∀ c : Nat, c ≤ 5 → ((1 : Int32) <<< (nI c &&& 31)) - 1 = nI (2 ^ c - 1) := by decide
  rw [e2 c hc]
  refine ⟨_, rfl, fun s hs j hj => by rw [st_ne (by omega)]; exact p2 s hs j hj, by rw [st_same, if_pos rfl], fun q hq => by rw [st_ne (by omega)]; exact p3 q hq⟩
def sumB (M : Nat) (P : Nat → Int32) (c : Nat) : Int32 := sumP (fun s => if M / 2 ^ s % 2 = 1 then P s else 0) c
theorem bit_tab : ∀ M : Nat, M < 32 → ∀ s : Nat, s < 5 → ((nI M >>> (nI s &&& 31)) &&& (1 : Int32)) = if M / 2 ^ s % 2 = 1 then 1 else 0 := by decide
theorem c_poured (c n M m : Nat) (hc : c ≤ 5) (hM : M < 32) (hm : m < n) (hn : n ≤ 99) (P : Nat → Nat → Int32) (μ : gMem) (h1 : μ 1 1 = nI c) (hP : PR μ c n P) (h4 : μ 97 4 = nI M) : f_X2_pouredIn (nI m) μ = some (sumB M (fun s => P s m) c, μ) := by
  have key : ∀ (f s : Nat), s ≤ c → c - s < f → l_X2_pouredIn_4 (nI m) f (sumB M (fun s => P s m) s) (nI s) μ = some (sumB M (fun s => P s m) c, nI c, μ) := by
    intro f
    induction f with
    | zero => intro s _ h2; omega
    | succ f ih =>
      intro s h2 h3
      unfold l_X2_pouredIn_4
      rw [h1, h4]
      by_cases hs : s = c
      · subst hs
        rw [if_pos (Int32.le_refl _)]
      · have hs5 : s < 5 := by omega
        rw [if_neg (nI_ge (by omega) (by omega)), bit_tab M hM s hs5]
        have hI := ih (s + 1) (by omega) (by omega)
        have e : sumB M (fun s => P s m) (s + 1) = sumB M (fun s => P s m) s + (if M / 2 ^ s % 2 = 1 then P s m else 0) := rfl
        rw [e] at hI
        simp only [b01, lt, nI_inc]
        by_cases hb : M / 2 ^ s % 2 = 1
        · rw [if_pos hb] at hI
          have hm99 : m < 99 := by omega
          rw [if_neg (not_not_intro hb), if_pos (inb5 hs5 (by decide)), if_pos (inb5 hm99 (by decide)), cl5 (by omega), cl5 (by omega), show 98 + 1 + s = 99 + s by omega, hP s (by omega) m hm]
          exact hI
        · rw [if_neg hb, Int32.add_zero] at hI
          rw [if_pos hb]
          exact hI
  unfold f_X2_pouredIn
  have k0 : l_X2_pouredIn_4 (nI m) gF 0 0 μ = some (sumB M (fun s => P s m) c, nI c, μ) := key gF 0 (by omega) (by unfold gF; omega)
  rw [k0]
  rfl
theorem c_run (c n M : Nat) (hc : c ≤ 5) (hM : M < 32) (hn : n ≤ 99) (P : Nat → Nat → Int32) (l0 ho : Int32) (μ : gMem) (h1 : μ 1 1 = nI c) (hP : PR μ c n P) (h4 : μ 97 4 = nI M) :
    ∃ μ', f_X2_run l0 ho (nI n) μ = some μ' ∧ (∀ j, j ≤ n → μ' 105 j = lseq (μ 1 4) ho l0 (fun m => sumB M (fun s => P s m) c) j) ∧ μ' 97 5 = hseq (μ 1 4) ho l0 (fun m => sumB M (fun s => P s m) c) n ∧ μ' 97 6 = fseq (μ 1 4) ho l0 (fun m => sumB M (fun s => P s m) c) n ∧ μ' 97 4 = nI M ∧ ∀ q, q ≠ 97 → q ≠ 105 → μ' q = μ q := by
  generalize hQ : (fun m => sumB M (fun s => P s m) c) = Q
  generalize hH : μ 1 4 = H
  have key : ∀ (f k : Nat) (m : gMem), k ≤ n → n - k < f → (∀ j, j ≤ k → m 105 j = lseq H ho l0 Q j) → m 97 5 = hseq H ho l0 Q k → m 97 6 = fseq H ho l0 Q k → m 97 4 = nI M → (∀ q, q ≠ 97 → q ≠ 105 → m q = μ q) →
      ∃ μ', l_X2_run_29 l0 ho (nI n) H f (nI k) m = some (nI n, μ') ∧ (∀ j, j ≤ n → μ' 105 j = lseq H ho l0 Q j) ∧ μ' 97 5 = hseq H ho l0 Q n ∧ μ' 97 6 = fseq H ho l0 Q n ∧ μ' 97 4 = nI M ∧ ∀ q, q ≠ 97 → q ≠ 105 → μ' q = μ q := by
    intro f
    induction f with
    | zero => intro k m _ h2; omega
    | succ f ih =>
      intro k m g1 g2 g3 g4 g5 g6 g7
      unfold l_X2_run_29
      by_cases hk : k = n
      · subst hk
        rw [if_pos (Int32.le_refl _)]
        exact ⟨m, rfl, g3, g4, g5, g6, g7⟩
      · have hk1 : k < 100 := by omega
        have hk2 : k + 1 < 100 := by omega
        have hp := c_poured c n M k hc hM (by omega) hn P m (by rw [g7 1 (by decide) (by decide)]; exact h1) (fun s hs j hj => by rw [g7 _ (by omega) (by omega)]; exact hP s hs j hj) g6
        have eQ : sumB M (fun s => P s k) c = Q k := by rw [← hQ]
        rw [eQ] at hp
        rw [if_neg (nI_ge (by omega) (by omega)), if_pos (inb5 hk1 (by decide)), hp]
        simp only [Option.bind_some, cl5 (show k < 1000 by omega), g3 k (Nat.le_refl _), lt, e_lost, nI_1, nI_inc, if_pos (inb5 hk2 (by decide)), cl5 (show k + 1 < 1000 by omega)]
        have er : (if lseq H ho l0 Q k + Q k < H then lseq H ho l0 Q k + Q k else H) = rseq H ho l0 Q k := rfl
        rw [er, g4]
        have eh : (if hseq H ho l0 Q k < rseq H ho l0 Q k then rseq H ho l0 Q k else hseq H ho l0 Q k) = hseq H ho l0 Q (k + 1) := rfl
        rw [eh]
        have el : rseq H ho l0 Q k - lost (rseq H ho l0 Q k) ho = lseq H ho l0 Q (k + 1) := rfl
        rw [el]
        have e6 : st m 97 5 (hseq H ho l0 Q (k + 1)) 97 6 = fseq H ho l0 Q k := by rw [st_same, if_neg (by decide)]; exact g5
        rw [e6]
        have ef : fseq H ho l0 Q (k + 1) = if fseq H ho l0 Q k = -1 then (if rseq H ho l0 Q k = H then nI (k + 1) else -1) else fseq H ho l0 Q k := rfl
        by_cases c1 : rseq H ho l0 Q k = H
        · rw [if_pos c1]
          by_cases c2 : fseq H ho l0 Q k = -1
          · rw [if_pos c2, if_pos c1] at ef
            rw [if_pos c2]
            refine ih (k + 1) _ (by omega) (by omega) (fun j hj => ?_) ?_ ?_ ?_ ?_
            · by_cases hj2 : j = k + 1
              · subst hj2; simp [st_row]
              · simp only [st_row, Nat.reduceEqDiff, false_and, true_and, if_false, hj2]; exact g3 j (by omega)
            · simp [st_row]
            · simp only [st_row, Nat.reduceEqDiff, false_and, and_self, if_false, if_true]; exact ef.symm
            · simp only [st_row, Nat.reduceEqDiff, false_and, and_false, if_false]; exact g6
            · intro q a1 a2; rw [st_ne a2, st_ne a1, st_ne a1]; exact g7 q a1 a2
          · rw [if_neg c2] at ef
            rw [if_neg c2]
            refine ih (k + 1) _ (by omega) (by omega) (fun j hj => ?_) ?_ ?_ ?_ ?_
            · by_cases hj2 : j = k + 1
              · subst hj2; simp [st_row]
              · simp only [st_row, Nat.reduceEqDiff, false_and, true_and, if_false, hj2]; exact g3 j (by omega)
            · simp [st_row]
            · simp only [st_row, Nat.reduceEqDiff, false_and, and_false, if_false]; rw [g5, ef]
            · simp only [st_row, Nat.reduceEqDiff, false_and, and_false, if_false]; exact g6
            · intro q a1 a2; rw [st_ne a2, st_ne a1]; exact g7 q a1 a2
        · rw [if_neg c1]
          have ef2 : fseq H ho l0 Q (k + 1) = fseq H ho l0 Q k := by
            rw [ef]
            by_cases c2 : fseq H ho l0 Q k = -1
            · rw [if_pos c2, if_neg c1, c2]
            · rw [if_neg c2]
          refine ih (k + 1) _ (by omega) (by omega) (fun j hj => ?_) ?_ ?_ ?_ ?_
          · by_cases hj2 : j = k + 1
            · subst hj2; simp [st_row]
            · simp only [st_row, Nat.reduceEqDiff, false_and, true_and, if_false, hj2]; exact g3 j (by omega)
          · simp [st_row]
          · simp only [st_row, Nat.reduceEqDiff, false_and, and_false, if_false]; rw [g5, ef2]
          · simp only [st_row, Nat.reduceEqDiff, false_and, and_false, if_false]; exact g6
          · intro q a1 a2; rw [st_ne a2, st_ne a1]; exact g7 q a1 a2
  unfold f_X2_run
  simp only [lt, hH, Int32.reduceToNatClampNeg]
  have hz : ∀ j, j ≤ 0 → st (st (st μ 105 0 l0) 97 5 l0) 97 6 (-1) 105 j = lseq H ho l0 Q j := by
    intro j hj
    have : j = 0 := by omega
    subst this
    simp [st_row]
    rfl
  obtain ⟨m, p1, p2⟩ := key gF 0 (st (st (st μ 105 0 l0) 97 5 l0) 97 6 (-1)) (by omega) (by unfold gF; omega) hz (by simp [st_row]; rfl) (by simp [st_row]; rfl) (by simp [st_row]; exact h4) (fun q a1 a2 => by rw [st_ne a1, st_ne a1, st_ne a2])
  have p1' : l_X2_run_29 l0 ho (nI n) H gF 0 (st (st (st μ 105 0 l0) 97 5 l0) 97 6 (-1)) = some (nI n, m) := p1
  rw [p1']
  exact ⟨m, rfl, p2⟩

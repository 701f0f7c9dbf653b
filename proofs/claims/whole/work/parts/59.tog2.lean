/-! the class's search -/
def RW (μ : gMem) (c n B : Nat) (S w : W5) (F : Nat → Int32) : Prop := ∀ s, s < c → (B / 2 ^ s % 2 = 0 → ∀ d, d < 4 → ∀ j, j < n → μ (108 + (4 * s + d)) j = dp (S s) F (w s) (nI d) j) ∧ (¬ B / 2 ^ s % 2 = 0 → ∀ j, j < n → μ (108 + (4 * s + 0)) j = dp (S s) F (w s) (-1) j)
theorem c_s77 (s n mn lim : Nat) (hs : s < 5) (hl : lim ≤ 4) (hn : n ≤ 40) (fg : Int32) (hfg : (if fg = 0 then (1 : Int32) else 4) = nI lim) (n0 : Int32) (μ : gMem) (x : V5) (w : W5) (hx : cSc μ 16 x w) (hmn : x.1 = nI mn) (h9 : μ 106 9 = nI n) :
    ∃ μ', l_X1_search_77 16 n0 (nI s) fg gF 0 μ = some (nI lim, μ') ∧ (∀ d, d < lim → ∀ j, j < n → μ' (108 + (4 * s + d)) j = ep (cS μ s) (Fq (μ 1 6) (μ 1 7) mn) (w s) d j) ∧ ∀ q, q ≠ 136 → (q < 108 + 4 * s ∨ 108 + 4 * s + 4 ≤ q) → μ' q = μ q := by
  have key : ∀ (f k : Nat) (m : gMem), k ≤ lim → lim - k < f → (∀ d, d < k → ∀ j, j < n → m (108 + (4 * s + d)) j = ep (cS μ s) (Fq (μ 1 6) (μ 1 7) mn) (w s) d j) → (∀ q, q ≠ 136 → (q < 108 + 4 * s ∨ 108 + 4 * s + 4 ≤ q) → m q = μ q) →
      ∃ μ', l_X1_search_77 16 n0 (nI s) fg f (nI k) m = some (nI lim, μ') ∧ (∀ d, d < lim → ∀ j, j < n → μ' (108 + (4 * s + d)) j = ep (cS μ s) (Fq (μ 1 6) (μ 1 7) mn) (w s) d j) ∧ ∀ q, q ≠ 136 → (q < 108 + 4 * s ∨ 108 + 4 * s + 4 ≤ q) → μ' q = μ q := by
    intro f
    induction f with
    | zero => intro k m _ h2; omega
    | succ f ih =>
      intro k m h1 h2 h3 h4
      unfold l_X1_search_77
      simp only [lt, hfg]
      by_cases hk : k = lim
      · subst hk
        rw [if_pos (Int32.le_refl _)]
        exact ⟨m, rfl, h3, h4⟩
      · rw [if_neg (nI_ge (by omega) (by omega))]
        obtain ⟨m2, p1, p2, p3⟩ := c_dfill s k n mn hs (by omega) hn m x w ⟨by rw [h4 16 (by decide) (by omega)]; exact hx.1, fun j hj => by rw [h4 _ (by omega) (by omega)]; exact hx.2 j hj⟩ hmn (by rw [h4 106 (by decide) (by omega)]; exact h9)
        have e1 : cS m s = cS μ s := by unfold cS; rw [h4 _ (by omega) (by omega)]
        rw [e1, h4 1 (by decide) (by omega)] at p2
        rw [p1]
        simp only [Option.bind_some, nI_inc]
        refine ih (k + 1) m2 (by omega) (by omega) (fun d hd j hj => ?_) (fun q a1 a2 => by rw [p3 q a1 (by omega)]; exact h4 q a1 a2)
        by_cases hdk : d = k
        · subst hdk
          exact p2 j hj
        · rw [p3 _ (by omega) (by omega)]
          exact h3 d (by omega) j hj
  exact key gF 0 μ (by omega) (by unfold gF; omega) (fun d hd => by omega) (fun _ _ _ => rfl)
theorem c_s28 (c n mn B : Nat) (hc : c ≤ 5) (hn : n ≤ 40) (n0 : Int32) (μ : gMem) (h1 : μ 1 1 = nI c) (x : V5) (w : W5) (hx : cSc μ 16 x w) (hmn : x.1 = nI mn) (h9 : μ 106 9 = nI n) (hB : ∀ s, s < c → ((w s).1 = 0 ↔ B / 2 ^ s % 2 = 0)) :
    ∃ μ', l_X1_search_28 16 n0 gF 0 μ = some (nI c, μ') ∧ RW μ' c n B (cS μ) w (Fq (μ 1 6) (μ 1 7) mn) ∧ (∀ s, s < c → μ' 135 s = if B / 2 ^ s % 2 = 0 then 0 else -1) ∧ ∀ q, q ≠ 135 → q ≠ 136 → (q < 108 ∨ 128 ≤ q) → μ' q = μ q := by
  have key : ∀ (f s : Nat) (m : gMem), s ≤ c → c - s < f → RW m s n B (cS μ) w (Fq (μ 1 6) (μ 1 7) mn) → (∀ j, j < s → m 135 j = if B / 2 ^ j % 2 = 0 then 0 else -1) → (∀ q, q ≠ 135 → q ≠ 136 → (q < 108 ∨ 128 ≤ q) → m q = μ q) →
      ∃ μ', l_X1_search_28 16 n0 f (nI s) m = some (nI c, μ') ∧ RW μ' c n B (cS μ) w (Fq (μ 1 6) (μ 1 7) mn) ∧ (∀ s, s < c → μ' 135 s = if B / 2 ^ s % 2 = 0 then 0 else -1) ∧ ∀ q, q ≠ 135 → q ≠ 136 → (q < 108 ∨ 128 ≤ q) → μ' q = μ q := by
    intro f
    induction f with
    | zero => intro s m _ h2; omega
    | succ f ih =>
      intro s m g1 g2 g3 g4 g5
      unfold l_X1_search_28
      rw [g5 1 (by decide) (by decide) (by omega), h1]
      by_cases hs : s = c
      · subst hs
        rw [if_pos (Int32.le_refl _)]
        exact ⟨m, rfl, g3, g4, g5⟩
      · have hs5 : s < 5 := by omega
        rw [if_neg (nI_ge (by omega) (by omega)), if_pos (inb5 hs5 (by decide)), cl5 (by omega)]
        have e0 : m (16 + 1 + 1 + s) 0 = (w s).1 := by rw [g5 _ (by omega) (by omega) (by omega), ← hx.2 s hs5]; rfl
        rw [e0]
        simp only [lt]
        have hb := hB s (by omega)
        -- both kinds, by the bound
        have go : ∀ (fg v : Int32) (lim : Nat), lim ≤ 4 → (if fg = 0 then (1 : Int32) else 4) = nI lim → v = (if B / 2 ^ s % 2 = 0 then 0 else -1) → (B / 2 ^ s % 2 = 0 → lim = 4) → (¬ B / 2 ^ s % 2 = 0 → lim = 1) →
            ∃ μ', ((l_X1_search_77 16 n0 (nI s) fg gF 0 (st m 135 s v)).bind (fun p34 => l_X1_search_28 16 n0 f (nI s + Int32.ofInt 1) p34.2)) = some (nI c, μ') ∧ RW μ' c n B (cS μ) w (Fq (μ 1 6) (μ 1 7) mn) ∧ (∀ s, s < c → μ' 135 s = if B / 2 ^ s % 2 = 0 then 0 else -1) ∧ ∀ q, q ≠ 135 → q ≠ 136 → (q < 108 ∨ 128 ≤ q) → μ' q = μ q := by
          intro fg v lim hl hfg hv l4 l1
          obtain ⟨m2, p1, p2, p3⟩ := c_s77 s n mn lim hs5 hl hn fg hfg n0 (st m 135 s v) x w ⟨by rw [st_ne (by decide), g5 16 (by decide) (by decide) (by omega)]; exact hx.1, fun j hj => by rw [st_ne (by omega), g5 _ (by omega) (by omega) (by omega)]; exact hx.2 j hj⟩ hmn (by rw [st_ne (by decide), g5 106 (by decide) (by decide) (by omega)]; exact h9)
          have e1 : cS (st m 135 s v) s = cS μ s := by unfold cS; rw [st_ne (by omega), g5 _ (by omega) (by omega) (by omega)]
          rw [e1, st_ne (by decide), g5 1 (by decide) (by decide) (by omega)] at p2
          rw [p1]
          simp only [Option.bind_some, nI_inc]
          refine ih (s + 1) m2 (by omega) (by omega) (fun j hj => ?_) (fun j hj => ?_) (fun q a1 a2 a3 => by rw [p3 q a2 (by omega), st_ne a1]; exact g5 q a1 a2 a3)
          · by_cases hjs : j = s
            · subst hjs
              refine ⟨fun hz d hd k hk => ?_, fun hz k hk => ?_⟩
              · rw [p2 d (by rw [l4 hz]; exact hd) k hk]
                unfold ep dp
                rw [(ew_idle (cS μ j) (Fq (μ 1 6) (μ 1 7) mn) d (by omega) (hb.mpr hz) k (by omega)).2]
              · rw [p2 0 (by rw [l1 hz]; decide) k hk]
                unfold ep dp
                rw [(ew_work (cS μ j) (Fq (μ 1 6) (μ 1 7) mn) (fun z => hz (hb.mp z)) k (by omega)).2]
            · obtain ⟨r1, r2⟩ := g3 j (by omega)
              refine ⟨fun hz d hd k hk => ?_, fun hz k hk => ?_⟩
              · rw [p3 _ (by omega) (by omega), st_ne (by omega)]; exact r1 hz d hd k hk
              · rw [p3 _ (by omega) (by omega), st_ne (by omega)]; exact r2 hz k hk
          · rw [p3 135 (by decide) (by omega), st_same]
            by_cases hjs : j = s
            · subst hjs
              rw [if_pos rfl]
              exact hv
            · rw [if_neg hjs]
              exact g4 j (by omega)
        by_cases hz : B / 2 ^ s % 2 = 0
        · have hw0 := hb.mpr hz
          simp only [hw0, if_true, if_neg (show ¬ (1 : Int32) = 0 by decide)]
          exact go 1 0 4 (by omega) (by decide) (by rw [if_pos hz]) (fun _ => rfl) (fun z => absurd hz z)
        · have hw0 : ¬ (w s).1 = 0 := fun z => hz (hb.mp z)
          simp only [hw0, if_false, if_true]
          exact go 0 (-1) 1 (by omega) (by decide) (by rw [if_neg hz]) (fun z => absurd z hz) (fun _ => rfl)
  exact key gF 0 μ (by omega) (by unfold gF; omega) (fun s hs => by omega) (fun s hs => by omega) (fun _ _ _ _ => rfl)
theorem c_addRow (s d n : Nat) (hs : s < 5) (hd : d < 4) (hn : n ≤ 40) (μ : gMem) (h9 : μ 106 9 = nI n) :
    ∃ μ', f_X1_addRow (nI s) (nI d) μ = some μ' ∧ (∀ j, j < n → μ' (129 + (s + 1)) j = μ (129 + s) j + μ (108 + (4 * s + d)) j) ∧ ∀ q, q ≠ 129 + (s + 1) → μ' q = μ q := by
  have ei : nI s * (4 : Int32) + nI d = nI (4 * s + d) := by rw [show (4 : Int32) = nI 4 from rfl, pk_mul, nI_add, Nat.mul_comm]
  unfold f_X1_addRow
  rw [ei, nI_1, if_pos (inb5 (show s < 6 by omega) (by decide)), if_pos (inb5 (show 4 * s + d < 20 by omega) (by decide)), if_pos (inb5 (show s + 1 < 6 by omega) (by decide)), cl5 (show s < 1000 by omega), cl5 (show 4 * s + d < 1000 by omega), cl5 (show s + 1 < 1000 by omega)]
  rw [show 128 + 1 + s = 129 + s by omega, show 107 + 1 + (4 * s + d) = 108 + (4 * s + d) by omega, show 128 + 1 + (s + 1) = 129 + (s + 1) by omega]
  have key : ∀ (f k : Nat) (m : gMem), k ≤ n → n - k < f → (∀ j, j < k → m (129 + (s + 1)) j = μ (129 + s) j + μ (108 + (4 * s + d)) j) → (∀ q, q ≠ 129 + (s + 1) → m q = μ q) →
      ∃ μ', l_X1_addRow_32 (nI s) (nI d) (129 + s) (108 + (4 * s + d)) (129 + (s + 1)) f (nI k) m = some (nI n, μ') ∧ (∀ j, j < n → μ' (129 + (s + 1)) j = μ (129 + s) j + μ (108 + (4 * s + d)) j) ∧ ∀ q, q ≠ 129 + (s + 1) → μ' q = μ q := by
    intro f
    induction f with
    | zero => intro k m _ h2; omega
    | succ f ih =>
      intro k m g1 g2 g3 g4
      unfold l_X1_addRow_32
      rw [g4 106 (by omega), h9]
      by_cases hk : k = n
      · subst hk
        rw [if_pos (Int32.le_refl _)]
        exact ⟨m, rfl, g3, g4⟩
      · have hk40 : k < 40 := by omega
        rw [if_neg (nI_ge (by omega) (by omega)), if_pos (inb5 hk40 (by decide)), cl5 (by omega), g4 (129 + s) (by omega), g4 (108 + (4 * s + d)) (by omega)]
        simp only [lt, nI_inc]
        refine ih (k + 1) _ (by omega) (by omega) (fun j hj => ?_) (fun q a1 => by rw [st_ne a1]; exact g4 q a1)
        rw [st_same]
        by_cases hjk : j = k
        · subst hjk; rw [if_pos rfl]
        · rw [if_neg hjk]; exact g3 j (by omega)
  obtain ⟨m2, q1, q2, q3⟩ := key gF 0 μ (by omega) (by unfold gF; omega) (fun j hj => by omega) (fun _ _ => rfl)
  have q1' : l_X1_addRow_32 (nI s) (nI d) (129 + s) (108 + (4 * s + d)) (129 + (s + 1)) gF 0 μ = some (nI n, m2) := q1
  rw [q1']
  exact ⟨m2, rfl, q2, q3⟩
theorem c_judge (a n : Nat) (hn : n ≤ 40) (Q : Nat → Int32) (H ho l0 : Int32) (μ : gMem) (h4 : μ 1 4 = H) (h7 : μ 106 7 = l0) (h8 : μ 106 8 = ho) (h9 : μ 106 9 = nI n) (hQ : ∀ j, j < n → μ a j = Q j) :
    ∃ μ', f_X1_judge a μ = some μ' ∧ μ' 106 6 = (if hseq H ho l0 Q n ≤ μ 106 6 then μ 106 6 else hseq H ho l0 Q n) ∧ (∀ j, j < 5 → μ' 137 j = if hseq H ho l0 Q n ≤ μ 106 6 then μ 137 j else μ 135 j) ∧ (∀ k, k ≠ 6 → μ' 106 k = μ 106 k) ∧ ∀ q, q ≠ 106 → q ≠ 137 → μ' q = μ q := by
  have key : ∀ (f k : Nat), k ≤ n → n - k < f → l_X1_judge_22 a H f (hseq H ho l0 Q k) (lseq H ho l0 Q k) (nI k) μ = some (hseq H ho l0 Q n, lseq H ho l0 Q n, nI n, μ) := by
    intro f
    induction f with
    | zero => intro k _ h2; omega
    | succ f ih =>
      intro k g1 g2
      unfold l_X1_judge_22
      rw [h9]
      by_cases hk : k = n
      · subst hk
        rw [if_pos (Int32.le_refl _)]
      · have hk40 : k < 40 := by omega
        rw [if_neg (nI_ge (by omega) (by omega)), if_pos (inb5 hk40 (by decide)), cl5 (by omega), hQ k (by omega), h8]
        simp only [lt, e_lost, Option.bind_some, nI_inc]
        exact ih (k + 1) (by omega) (by omega)
  have k0 : l_X1_judge_22 a H gF l0 l0 0 μ = some (hseq H ho l0 Q n, lseq H ho l0 Q n, nI n, μ) := key gF 0 (by omega) (by unfold gF; omega)
  unfold f_X1_judge
  simp only [lt, h4, h7, k0, Option.bind_some]
  by_cases hv : hseq H ho l0 Q n ≤ μ 106 6
  · simp only [hv, if_true]
    exact ⟨μ, rfl, rfl, fun _ _ => rfl, fun _ _ => rfl, fun _ _ _ => rfl⟩
  · simp only [hv, if_false]
    refine ⟨_, rfl, ?_, fun j hj => ?_, fun k hk => ?_, fun q a1 a2 => ?_⟩
    · rw [if_neg (by decide), st_same, if_pos rfl]
    · rw [if_pos rfl, st_ne (by decide), st_ne (by decide)]
      have : va_cpy (μ 135) (μ 137) (0 : Int32).toNatClampNeg (0 : Int32).toNatClampNeg (5 : Int32).toNatClampNeg j = μ 135 ((0 : Int32).toNatClampNeg + (j - (0 : Int32).toNatClampNeg)) := pk_cpy_in (Nat.zero_le _) (by show j < 0 + 5; omega)
      rw [this]
      show μ 135 (0 + (j - 0)) = μ 135 j
      rw [Nat.zero_add, Nat.sub_zero]
    · rw [if_neg (by decide), st_same, if_neg hk]
    · rw [if_neg a2, st_ne a1]

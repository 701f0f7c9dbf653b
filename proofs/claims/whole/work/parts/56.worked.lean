/-! WORKED -/
noncomputable def fl (p : Prop) : Int32 := @ite _ p (Classical.propDecidable p) 1 0
theorem fl_t {p : Prop} (h : p) : fl p = 1 := by unfold fl; exact if_pos h
theorem fl_f {p : Prop} (h : ¬ p) : fl p = 0 := by unfold fl; exact if_neg h
theorem fl_0 {p : Prop} : fl p = 0 ↔ ¬ p := by
  by_cases h : p
  · rw [fl_t h]; simp [h]
  · rw [fl_f h]; simp [h]
theorem fl_c {p q : Prop} (h : p ↔ q) : fl p = fl q := by rw [propext h]
theorem fl_b (p : Prop) : bz (fl p) = true := by
  by_cases h : p
  · rw [fl_t h]; decide
  · rw [fl_f h]; decide
theorem fl_i {p : Prop} [Decidable p] : (if p then (1 : Int32) else 0) = fl p := by
  by_cases h : p
  · rw [if_pos h, fl_t h]
  · rw [if_neg h, fl_f h]
def z5 : V5 := (0, 0, 0, 0, 0)
theorem c_latest (q : Nat) (hq : q ≤ 6) (t : Nat → Nat) (μ : gMem) (h0 : μ 0 11 = nI q) (ht : ∀ i, i < q → t i ≤ 99 ∧ μ 138 i = nI (t i)) : ∃ n : Nat, n ≤ 99 ∧ (∀ i, i < q → t i ≤ n) ∧ f_X10_latestSeen μ = some (nI n, μ) := by
  have key : ∀ (f k n : Nat), k ≤ q → q - k < f → n ≤ 99 → (∀ i, i < k → t i ≤ n) → ∃ n' : Nat, n' ≤ 99 ∧ (∀ i, i < q → t i ≤ n') ∧ l_X10_latestSeen_4 f (nI n) (nI k) μ = some (nI n', nI q, μ) := by
    intro f
    induction f with
    | zero => intro k n _ h; omega
    | succ f ih =>
      intro k n h1 h2 h3 h4
      unfold l_X10_latestSeen_4
      rw [h0]
      by_cases hk : k = q
      · subst hk
        rw [if_pos (Int32.le_refl _)]
        exact ⟨n, h3, h4, rfl⟩
      · have hk6 : k < 6 := by omega
        obtain ⟨t1, t2⟩ := ht k (by omega)
        rw [if_neg (nI_ge (by omega) (by omega)), if_pos (inb5 hk6 (by decide)), cl5 (by omega), t2]
        simp only [lt, nI_inc]
        by_cases hl : n < t k
        · rw [if_pos (nI_lt hl (by omega))]
          refine ih (k + 1) (t k) (by omega) (by omega) t1 (fun i hi => ?_)
          by_cases hik : i = k
          · subst hik; exact Nat.le_refl _
          · have := h4 i (by omega); omega
        · rw [if_neg (nI_nlt (by omega) (by omega))]
          refine ih (k + 1) n (by omega) (by omega) h3 (fun i hi => ?_)
          by_cases hik : i = k
          · subst hik; omega
          · exact h4 i (by omega)
  obtain ⟨n, g1, g2, g3⟩ := key gF 0 0 (by omega) (by unfold gF; omega) (by omega) (fun i hi => by omega)
  refine ⟨n, g1, g2, ?_⟩
  unfold f_X10_latestSeen
  have g3' : l_X10_latestSeen_4 gF 0 0 μ = some (nI n, nI q, μ) := g3
  rw [g3']
  rfl
theorem c_takeBegun (c n : Nat) (hc : c ≤ 5) (hn : n ≤ 99) (μ : gMem) (h1 : μ 1 1 = nI c) :
    ∃ μ', f_X2_takeBegun (nI n) μ = some μ' ∧ PR μ' c n (fun s => pseq (cS μ s) (Fq (μ 1 6) (μ 1 7) 0) (drawT (cS μ s) z5)) ∧ ∀ q, (q < 97 ∨ 105 ≤ q) → μ' q = μ q := by
  have key : ∀ (f s : Nat) (m : gMem), s ≤ c → c - s < f → PR m s n (fun s => pseq (cS μ s) (Fq (μ 1 6) (μ 1 7) 0) (drawT (cS μ s) z5)) → (∀ q, (q < 97 ∨ 105 ≤ q) → m q = μ q) →
      ∃ μ', l_X2_takeBegun_2 (nI n) f (nI s) m = some (nI c, μ') ∧ PR μ' c n (fun s => pseq (cS μ s) (Fq (μ 1 6) (μ 1 7) 0) (drawT (cS μ s) z5)) ∧ ∀ q, (q < 97 ∨ 105 ≤ q) → μ' q = μ q := by
    intro f
    induction f with
    | zero => intro s m _ h2; omega
    | succ f ih =>
      intro s m h2 h3 h4 h5
      unfold l_X2_takeBegun_2
      rw [h5 1 (by omega), h1]
      by_cases hs : s = c
      · subst hs
        rw [if_pos (Int32.le_refl _)]
        exact ⟨m, rfl, h4, h5⟩
      · have hs5 : s < 5 := by omega
        rw [if_neg (nI_ge (by omega) (by omega))]
        obtain ⟨m1, p1, p2, p3⟩ := e_startAnewW 104 m
        rw [p1]
        simp only [Option.bind_some]
        rw [if_pos (inb5 hs5 (by decide)), cl5 (by omega), show 2 + 1 + s = 3 + s by omega]
        obtain ⟨m2, r1, r2, r3⟩ := e_draw (w := 104) (s := 3 + s) (by omega) m1
        rw [p2, p3 _ (by omega), h5 _ (by omega)] at r2
        rw [r1]
        simp only [Option.bind_some]
        obtain ⟨m3, q1, q2, q3⟩ := c_fill s 0 n hs5 hn (cS μ s) (drawT (cS μ s) z5) m2 (by rw [r3 _ (by omega), p3 _ (by omega), h5 _ (by omega)]; rfl) r2
        rw [r3 1 (by decide), p3 1 (by decide), h5 1 (by omega)] at q2
        have q1' : f_X2_fill (nI s) 0 (nI n) m2 = some m3 := q1
        rw [q1']
        simp only [Option.bind_some, lt, nI_inc]
        refine ih (s + 1) m3 (by omega) (by omega) (fun j hj k hk => ?_) (fun q hq => by rw [q3 q (by omega) (by omega), r3 q (by omega), p3 q (by omega)]; exact h5 q hq)
        by_cases hjs : j = s
        · subst hjs
          exact q2 k hk
        · rw [q3 _ (by omega) (by omega), r3 _ (by omega), p3 _ (by omega)]
          exact h4 j (by omega) k hk
  obtain ⟨m, p1, p2⟩ := key gF 0 μ (by omega) (by unfold gF; omega) (fun j hj => by omega) (fun _ _ => rfl)
  have p1' : l_X2_takeBegun_2 (nI n) gF 0 μ = some (nI c, m) := p1
  unfold f_X2_takeBegun
  rw [p1']
  exact ⟨m, rfl, p2⟩
theorem c_fits (q n : Nat) (hq : q ≤ 6) (hn : n ≤ 99) (t : Nat → Nat) (L : Nat → Int32) (μ : gMem) (h0 : μ 0 11 = nI q) (ht : ∀ i, i < q → t i ≤ n ∧ μ 138 i = nI (t i)) (hL : ∀ j, j ≤ n → μ 105 j = L j) : f_X10_fitsSeen μ = some (fl (∀ i, i < q → L (t i) = μ 139 i), μ) := by
  have key : ∀ (f k : Nat), k ≤ q → q - k < f → (∀ i, i < k → L (t i) = μ 139 i) → l_X10_fitsSeen_2 f (nI k) μ = some (fl (∀ i, i < q → L (t i) = μ 139 i), μ) := by
    intro f
    induction f with
    | zero => intro k _ h; omega
    | succ f ih =>
      intro k h1 h2 h3
      unfold l_X10_fitsSeen_2
      rw [h0]
      by_cases hk : k = q
      · subst hk
        rw [if_pos (Int32.le_refl _), fl_t h3]
      · have hk6 : k < 6 := by omega
        obtain ⟨t1, t2⟩ := ht k (by omega)
        have ht100 : t k < 100 := by omega
        rw [if_neg (nI_ge (by omega) (by omega)), if_pos (inb5 hk6 (by decide)), cl5 (show k < 1000 by omega), t2, if_pos (inb5 ht100 (by decide)), cl5 (show t k < 1000 by omega), hL _ t1]
        simp only [lt, nI_inc]
        by_cases he : L (t k) = μ 139 k
        · rw [if_pos he]
          refine ih (k + 1) (by omega) (by omega) (fun i hi => ?_)
          by_cases hik : i = k
          · subst hik; exact he
          · exact h3 i (by omega)
        · rw [if_neg he, fl_f (fun z => he (z k (by omega)))]
  exact key gF 0 (by omega) (by unfold gF; omega) (fun i hi => by omega)
/-- draws(s) in a row -/
theorem mSc_draw {ν ν2 : gMem} {x : V5} {w : W5} {s : Nat} (hs : s < 5) (h : mSc (ν 141) (ν 142) x w) (h1 : ν2 141 = ν 141) (g2 : ∀ k, k ≠ s → k ≠ 5 + s → k ≠ 10 + s → k ≠ 15 + s → ν2 142 k = ν 142 k) (g4 : ν2 142 s = 1) (g5 : ν2 142 (5 + s) = wkT (mS (ν 141) s) (ν 142 (20 + s))) (g6 : ν2 142 (10 + s) = wkT (mS (ν 141) s) (ν 142 (20 + s))) (g7 : ν2 142 (15 + s) = (mS (ν 141) s).2.2.1) : mSc (ν2 141) (ν2 142) x (upW w s (drawT (mS (ν 141) s) (w s))) := by
  refine ⟨?_, fun j hj => ?_⟩
  · rw [← h.1]
    simp only [v5]
    rw [g2 _ (by omega) (by omega) (by omega) (by omega), g2 _ (by omega) (by omega) (by omega) (by omega), g2 _ (by omega) (by omega) (by omega) (by omega), g2 _ (by omega) (by omega) (by omega) (by omega), g2 _ (by omega) (by omega) (by omega) (by omega)]
  · rw [h1]
    unfold upW
    by_cases hjs : j = s
    · subst hjs
      rw [if_pos rfl]
      obtain ⟨r0, r5, r15, r20, r25, r10, rh, rd, rg⟩ := h.2 j hj
      have q20 : ν2 142 (20 + j) = ν 142 (20 + j) := g2 _ (by omega) (by omega) (by omega) (by omega)
      have q25 : ν2 142 (25 + j) = ν 142 (25 + j) := g2 _ (by omega) (by omega) (by omega) (by omega)
      rw [r20] at g5 g6
      exact ⟨g4, g5, g7, by rw [q20]; exact r20, by rw [q25]; exact r25, fun _ => g6, Or.inr (Or.inl rfl), fun z => absurd z i12, by rw [q25]; exact rg⟩
    · rw [if_neg hjs]
      exact mrep_other hs hj hjs (fun k _ a1 a2 a3 a4 _ _ => g2 k a1 a2 a3 a4) (h.2 j hj)
theorem mz00 : mz 0 0 = 0 := by decide
theorem m_anew (ν : gMem) : ∃ ν', f_X11_anew ν = some ν' ∧ mSc (ν' 141) (ν' 142) (0, 0, ν 141 1, 0, 0) (fun _ => z5) ∧ ∀ b, b ≠ 142 → ν' b = ν b := by
  obtain ⟨m, p1, p2, p3, p4⟩ := lp_anew ν gF 0 ν (by omega) (by unfold gF; omega) (fun j hj => by omega) (fun _ _ => rfl) (fun _ _ => rfl)
  have p1' : l_X11_anew_2 gF 0 ν = some (nI 35, m) := p1
  unfold f_X11_anew
  simp only [p1', Option.bind_some, lt, Int32.reduceToNatClampNeg, p4 141 (by decide)]
  refine ⟨_, rfl, ⟨?_, fun s hs => ?_⟩, fun b hb => by rw [st_ne hb]; exact p4 b hb⟩
  · simp [v5, st_row, p2]
  · have e : ∀ q, q ≤ 5 → st m 142 32 (ν 141 1) 142 (5 * q + s) = 0 := fun q hq => by rw [st_same, if_neg (by omega)]; exact p2 _ (by omega)
    have e0 := e 0 (by omega)
    have e1 := e 1 (by omega)
    have e2 := e 2 (by omega)
    have e3 := e 3 (by omega)
    have e4 := e 4 (by omega)
    have e5 := e 5 (by omega)
    simp only [Nat.mul_zero, Nat.zero_add, Nat.mul_one, Nat.reduceMul] at e0 e1 e2 e3 e4 e5
    exact ⟨e0, e1, e3, e4, by rw [e5]; exact mz00, fun z => absurd z i01, Or.inl rfl, fun z => absurd z i02, by rw [e5]; exact ⟨by decide, by decide⟩⟩
/-- begun at the start: those of the mask -/
def begW (M k : Nat) (S : W5) : W5 := fun s => if s < k ∧ M / 2 ^ s % 2 = 1 then drawT (S s) z5 else z5
theorem m_begAll (M c : Nat) (hM : M < 32) (S : W5) (H fa fb : Int32) (x : V5) (ν : gMem) (hT : MT ν c S H fa fb) (h : mSc (ν 141) (ν 142) x (fun _ => z5)) : ∃ ν', l_X11_isBy_6 (nI M) gF 0 ν = some (nI c, ν') ∧ mSc (ν' 141) (ν' 142) x (begW M c S) ∧ ∀ b, b ≠ 142 → ν' b = ν b := by
  obtain ⟨hc, h1, t3, t4, t5, t6, t7⟩ := id hT
  have key : ∀ (f k : Nat) (m : gMem), k ≤ c → c - k < f → mSc (m 141) (m 142) x (begW M k S) → (∀ b, b ≠ 142 → m b = ν b) →
      ∃ ν', l_X11_isBy_6 (nI M) f (nI k) m = some (nI c, ν') ∧ mSc (ν' 141) (ν' 142) x (begW M c S) ∧ ∀ b, b ≠ 142 → ν' b = ν b := by
    intro f
    induction f with
    | zero => intro k m _ h2; omega
    | succ f ih =>
      intro k m g1 g2 g3 g4
      unfold l_X11_isBy_6
      rw [g4 140 (by decide), h1]
      by_cases hk : k = c
      · subst hk
        rw [if_pos (Int32.le_refl _)]
        exact ⟨m, rfl, g3, g4⟩
      · have hk5 : k < 5 := by omega
        rw [if_neg (nI_ge (by omega) (by omega)), e_has M k hM hk5]
        simp only [Option.bind_some, b01, lt, nI_inc]
        by_cases hb : M / 2 ^ k % 2 = 1
        · rw [if_neg (not_not_intro hb)]
          have e141 : m 141 = ν 141 := g4 141 (by decide)
          obtain ⟨m2, u1, u2, u3, u4, u5, u6, u7⟩ := m_draws hk5 m (by rw [e141]; exact t3 k (by omega))
          rw [u1]
          refine ih (k + 1) m2 (by omega) (by omega) ?_ (fun b hb => by rw [u3 b hb]; exact g4 b hb)
          have e : begW M (k + 1) S = upW (begW M k S) k (drawT (mS (m 141) k) (begW M k S k)) := by
            funext s
            unfold upW begW
            by_cases hsk : s = k
            · subst hsk
              simp only [if_true]
              rw [if_pos ⟨by omega, hb⟩, if_neg (fun z => by omega), e141, t4 s (by omega)]
            · rw [if_neg hsk]
              have : (s < k + 1 ∧ M / 2 ^ s % 2 = 1) ↔ (s < k ∧ M / 2 ^ s % 2 = 1) := by omega
              simp only [this]
          rw [e]
          exact mSc_draw hk5 g3 (u3 141 (by decide)) u2 u4 u5 u6 u7
        · rw [if_pos hb]
          refine ih (k + 1) m (by omega) (by omega) ?_ g4
          have e : begW M (k + 1) S = begW M k S := by
            funext s
            unfold begW
            by_cases hsk : s = k
            · subst hsk
              rw [if_neg (fun z => hb z.2), if_neg (fun z => hb z.2)]
            · have : (s < k + 1 ∧ M / 2 ^ s % 2 = 1) ↔ (s < k ∧ M / 2 ^ s % 2 = 1) := by omega
              simp only [this]
          rw [e]
          exact g3
  have e0 : begW M 0 S = fun _ => z5 := by
    funext s
    unfold begW
    rw [if_neg (fun z => by omega)]
  exact key gF 0 ν (by omega) (by unfold gF; omega) (by rw [e0]; exact h) (fun _ _ => rfl)
theorem m_isAt (a : Int32) (q m : Nat) (hq : q ≤ 6) (hm : m ≤ 99) (t : Nat → Nat) (A : Prop) (ν : gMem) (h0 : ν 140 19 = nI q) (ht : ∀ i, i < q → t i ≤ 99 ∧ ν 150 (2 * i) = nI (t i)) : l_X11_isBy_46 a (nI m) gF (fl A) 0 ν = some (fl (A ∧ ∀ i, i < q → t i = m → ν 150 (2 * i + 1) = ν 142 31), nI q, ν) := by
  have key : ∀ (f k : Nat), k ≤ q → q - k < f → l_X11_isBy_46 a (nI m) f (fl (A ∧ ∀ i, i < k → t i = m → ν 150 (2 * i + 1) = ν 142 31)) (nI k) ν = some (fl (A ∧ ∀ i, i < q → t i = m → ν 150 (2 * i + 1) = ν 142 31), nI q, ν) := by
    intro f
    induction f with
    | zero => intro k _ h; omega
    | succ f ih =>
      intro k h1 h2
      unfold l_X11_isBy_46
      rw [h0]
      by_cases hk : k = q
      · subst hk
        rw [if_pos (Int32.le_refl _)]
      · obtain ⟨t1, t2⟩ := ht k (by omega)
        have e2 : (2 : Int32) * nI k = nI (2 * k) := by rw [show (2 : Int32) = nI 2 from rfl, pk_mul]
        have hI := ih (k + 1) (by omega) (by omega)
        rw [if_neg (nI_ge (by omega) (by omega)), e2, if_pos (inb5 (show 2 * k < 12 by omega) (by decide)), cl5 (show 2 * k < 1000 by omega), t2, nI_1, if_pos (inb5 (show 2 * k + 1 < 12 by omega) (by decide)), cl5 (show 2 * k + 1 < 1000 by omega)]
        simp only [lt, nI_inc, Int32.reduceToNatClampNeg]
        by_cases hA : A ∧ ∀ i, i < k → t i = m → ν 150 (2 * i + 1) = ν 142 31
        · rw [if_neg (fun z => fl_0.mp z hA)]
          by_cases htm : t k = m
          · rw [if_pos (by rw [htm]), fl_i]
            have e : fl (ν 150 (2 * k + 1) = ν 142 31) = fl (A ∧ ∀ i, i < k + 1 → t i = m → ν 150 (2 * i + 1) = ν 142 31) := fl_c ⟨fun z => ⟨hA.1, fun i hi => by
              by_cases hik : i = k
              · subst hik; exact fun _ => z
              · exact hA.2 i (by omega)⟩, fun z => z.2 k (by omega) htm⟩
            rw [e]
            exact hI
          · rw [if_neg (fun z => htm ((nI_eq (by omega) (by omega)).mp z))]
            have e : (1 : Int32) = fl (A ∧ ∀ i, i < k + 1 → t i = m → ν 150 (2 * i + 1) = ν 142 31) := (fl_t ⟨hA.1, fun i hi => by
              by_cases hik : i = k
              · subst hik; exact fun z => absurd z htm
              · exact hA.2 i (by omega)⟩).symm
            rw [e]
            exact hI
        · rw [if_pos (fl_0.mpr hA)]
          have e : (0 : Int32) = fl (A ∧ ∀ i, i < k + 1 → t i = m → ν 150 (2 * i + 1) = ν 142 31) := (fl_f (fun z => hA ⟨z.1, fun i hi => z.2 i (by omega)⟩)).symm
          rw [e]
          exact hI
  have e : fl A = fl (A ∧ ∀ i, i < 0 → t i = m → ν 150 (2 * i + 1) = ν 142 31) := fl_c ⟨fun z => ⟨z, fun i hi => by omega⟩, fun z => z.1⟩
  rw [e]
  exact key gF 0 (by omega) (by unfold gF; omega)
theorem m_isBy (M q : Nat) (hM : M < 32) (hq : q ≤ 6) (c : Nat) (S : W5) (H fa fb : Int32) (t : Nat → Nat) (ν : gMem) (hT : MT ν c S H fa fb) (h0 : ν 140 19 = nI q) (ht : ∀ i, i < q → t i ≤ 99 ∧ ν 150 (2 * i) = nI (t i)) :
    ∃ ν', f_X11_isBy (nI M) ν = some (fl (∀ i, i < q → lseq H (ν 141 1) 0 (QQ c S (Fq fa fb 0) (begW M c S)) (t i) = ν 150 (2 * i + 1)), ν') ∧ (∀ k, k < 35 → ν' 142 k = ν 148 k) ∧ ∀ b, b ≠ 142 → ν' b = ν b := by
  obtain ⟨ν1, p1, p2, p3⟩ := m_anew ν
  have hT1 := hT.congr (ν' := ν1) (by rw [p3 140 (by decide)]) (p3 141 (by decide))
  obtain ⟨ν2, q1, q2, q3⟩ := m_begAll M c hM S H fa fb _ ν1 hT1 p2
  have hT2 := hT1.congr (ν' := ν2) (by rw [q3 140 (by decide)]) (q3 141 (by decide))
  generalize hL : lseq H (ν 141 1) 0 (QQ c S (Fq fa fb 0) (begW M c S)) = L
  have key : ∀ (f m : Nat) (ν' : gMem), m ≤ 100 → 100 - m < f → MI c S (Fq fa fb 0) H 0 (ν 141 1) 0 (begW M c S) ν2 ν' m →
      ∃ (j : Int32) (ν'' : gMem), l_X11_isBy_37 (nI M) f (fl (∀ i, i < q → t i < m → L (t i) = ν 150 (2 * i + 1))) (nI m) ν' = some (fl (∀ i, i < q → t i < 100 → L (t i) = ν 150 (2 * i + 1)), j, ν'') ∧ ∀ b, b ≠ 142 → ν'' b = ν b := by
    intro f
    induction f with
    | zero => intro m ν' _ h; omega
    | succ f ih =>
      intro m ν' g1 g2 g3
      unfold l_X11_isBy_37
      have kb : ∀ b, b ≠ 142 → ν' b = ν b := fun b hb => by rw [g3.1 b hb, q3 b hb, p3 b hb]
      by_cases hm : m = 100
      · subst hm
        rw [if_pos (show (99 : Int32) < nI 100 by decide)]
        exact ⟨_, ν', rfl, kb⟩
      · rw [if_neg (show ¬ (99 : Int32) < nI m from nI_nlt (b := m) (a := 99) (by omega) (by decide)), m_isAt (nI M) q m hq (by omega) t _ ν' (by rw [kb 140 (by decide)]; exact h0) (fun i hi => by rw [kb 150 (by decide)]; exact ht i hi)]
        simp only [Option.bind_some]
        obtain ⟨ν3, r1, r2⟩ := m_next hT2 (by omega) g3
        rw [r1]
        simp only [Option.bind_some, lt, nI_inc]
        have e31 : ν' 142 31 = L m := by
          obtain ⟨-, x', w', s1, s2, s3, -⟩ := g3
          rw [← hL, ← s3, ← s1.1]
          rfl
        have e : fl ((∀ i, i < q → t i < m → L (t i) = ν 150 (2 * i + 1)) ∧ ∀ i, i < q → t i = m → ν' 150 (2 * i + 1) = ν' 142 31) = fl (∀ i, i < q → t i < m + 1 → L (t i) = ν 150 (2 * i + 1)) := by
          refine fl_c ⟨fun z i hi htm => ?_, fun z => ⟨fun i hi htm => z i hi (by omega), fun i hi htm => ?_⟩⟩
          · by_cases htm2 : t i = m
            · have := z.2 i hi htm2
              rw [e31, kb 150 (by decide)] at this
              rw [htm2, this]
            · exact z.1 i hi (by omega)
          · rw [e31, kb 150 (by decide), ← z i hi (by omega), htm]
        rw [e]
        exact ih (m + 1) ν3 (by omega) (by omega) r2
  have hs : MI c S (Fq fa fb 0) H 0 (ν 141 1) 0 (begW M c S) ν2 ν2 0 := MI.start (x := (0, 0, ν 141 1, 0, 0)) q2 rfl (fun s hs _ => by unfold begW; rw [if_neg (fun z => by omega)]; rfl)
  obtain ⟨j, ν3, r1, r2⟩ := key gF 0 ν2 (by omega) (by unfold gF; omega) hs
  obtain ⟨ν4, u1, u2, u3⟩ := m_takeBack ν3
  have e0 : fl (∀ i, i < q → t i < 0 → L (t i) = ν 150 (2 * i + 1)) = 1 := fl_t (fun i _ z => by omega)
  have e1 : fl (∀ i, i < q → t i < 100 → L (t i) = ν 150 (2 * i + 1)) = fl (∀ i, i < q → L (t i) = ν 150 (2 * i + 1)) := fl_c ⟨fun z i hi => z i hi (by have := (ht i hi).1; omega), fun z i hi _ => z i hi⟩
  rw [e0, e1] at r1
  have r1' : l_X11_isBy_37 (nI M) gF 1 0 ν2 = some (fl (∀ i, i < q → L (t i) = ν 150 (2 * i + 1)), j, ν3) := r1
  unfold f_X11_isBy
  simp only [p1, Option.bind_some, q1, r1', u1, fl_b, if_true]
  exact ⟨ν4, rfl, fun k hk => by rw [u2 k hk, r2 148 (by decide)], fun b hb => by rw [u3 b hb, r2 b hb]⟩
/-! counted upwards and downwards -/
noncomputable def upC (P : Nat → Prop) (a : Int32) : Nat → Int32
  | 0 => a
  | k + 1 => upC P a k + fl (P k)
noncomputable def upF (P : Nat → Prop) : Nat → Int32
  | 0 => -1
  | k + 1 => if upF P k = -1 then (if fl (P k) = 0 then -1 else nI k) else upF P k
noncomputable def upA (P : Nat → Prop) (a : Int32) : Nat → Int32
  | 0 => a
  | k + 1 => if fl (P k) = 0 then upA P a k else upA P a k &&& nI k
theorem upC_add (P : Nat → Prop) (a b : Int32) : ∀ k, upC P (a + b) k = upC P a k + b
  | 0 => rfl
  | k + 1 => by rw [upC, upC, upC_add P a b k, Int32.add_assoc, Int32.add_assoc, Int32.add_comm b]
theorem upA_and (P : Nat → Prop) (a b : Int32) : ∀ k, upA P (a &&& b) k = upA P a k &&& b
  | 0 => rfl
  | k + 1 => by
    rw [upA, upA, upA_and P a b k]
    split
    · rfl
    · rw [Int32.and_assoc, Int32.and_assoc, Int32.and_comm b]
theorem upF_val (P : Nat → Prop) : ∀ k, upF P k = -1 ∨ ∃ j : Nat, j < k ∧ upF P k = nI j
  | 0 => Or.inl rfl
  | k + 1 => by
    rw [upF]
    rcases upF_val P k with e | ⟨j, h1, h2⟩
    · rw [e, if_pos rfl]
      split
      · exact Or.inl rfl
      · exact Or.inr ⟨k, by omega, rfl⟩
    · split
      · split
        · exact Or.inl rfl
        · exact Or.inr ⟨k, by omega, rfl⟩
      · exact Or.inr ⟨j, by omega, h2⟩

theorem s_worked (i : Int32) {μ ν : gMem} (h : Sim μ ν) : Res (f_X10_worked i) (f_X11_worked i) μ ν := by
  obtain ⟨c, x, w, mn, hc, h1, hT, sc1, sc2, hx, hmn, h0, hok, hH⟩ := h.unfold
  obtain ⟨⟨-, -, -, ⟨-, g1, -⟩, -⟩, -, -, -, -, ⟨q, hq, n1, n2, n3⟩, -⟩ := id h
  show RO (f_X10_worked i μ) (f_X11_worked i ν) μ ν
  unfold f_X10_worked f_X11_worked
  rw [e_isOutside, e_in0 i 0 2 ν 0 2 rfl rfl]
  simp only [Option.bind_some, b01, b10]
  by_cases hk : i < 0 ∨ ¬ i ≤ 2
  · simp only [hk, if_true, not_true, if_false]
    exact RO.rf h rfl
  · simp only [hk, if_false, not_false_eq_true, if_true]
    have hp := pow_tab c hc
    obtain ⟨t, ht⟩ : ∃ t : Nat → Nat, ∀ i, i < q → t i ≤ 99 ∧ μ 138 i = nI (t i) := by
      refine ⟨fun i => (μ 138 i).toNatClampNeg, fun i hi => ?_⟩
      obtain ⟨-, -, k, hk, ek⟩ := n3 i hi
      show (μ 138 i).toNatClampNeg ≤ 99 ∧ μ 138 i = nI (μ 138 i).toNatClampNeg
      rw [ek, cl5 (by omega)]
      exact ⟨hk, rfl⟩
    obtain ⟨n, hn, htn, eL⟩ := c_latest q hq t μ n1 ht
    obtain ⟨m10, p1, p2, p3⟩ := c_takeBegun c n hc hn μ h1
    obtain ⟨ν1, q1, q2, q3⟩ := m_putAside ν
    have k1 : m10 1 = μ 1 := p3 1 (by omega)
    simp only [eL, Option.bind_some, lt, p1, q1, k1, h1, q3 140 (by decide), hT.2.1, hp.1]
    generalize hP : (fun M : Nat => ∀ i, i < q → lseq (μ 1 4) (μ 1 5) 0 (QQ c (cS μ) (Fq (μ 1 6) (μ 1 7) 0) (begW M c (cS μ))) (t i) = μ 139 i) = P
    -- the class
    have keyC : ∀ (f k : Nat) (m : gMem), k ≤ 2 ^ c → 2 ^ c - k < f → PR m c n (fun s => pseq (cS μ s) (Fq (μ 1 6) (μ 1 7) 0) (drawT (cS μ s) z5)) → (∀ q, (q < 97 ∨ 106 ≤ q) → m q = μ q) →
        ∃ (m' : gMem), l_X10_worked_46 i (nI n) f (upC P 0 k) (upF P k) (upA P (nI (2 ^ c) - 1) k) (nI k) m = some (upC P 0 (2 ^ c), upF P (2 ^ c), upA P (nI (2 ^ c) - 1) (2 ^ c), nI (2 ^ c), m') ∧ (∀ q, (q < 97 ∨ 106 ≤ q) → m' q = μ q) := by
      intro f
      induction f with
      | zero => intro k m _ h2; omega
      | succ f ih =>
        intro k m a1 a2 a3 a4
        unfold l_X10_worked_46
        rw [a4 1 (by omega), h1, hp.1]
        by_cases hkc : k = 2 ^ c
        · rw [hkc, if_pos (Int32.le_refl _)]
          exact ⟨m, rfl, a4⟩
        · have hk32 : k < 32 := by omega
          rw [if_neg (nI_ge (show k < 2 ^ c by omega) (by omega))]
          simp only [lt]
          have e15 : st m 97 4 (nI k) 1 5 = μ 1 5 := by rw [st_ne (by decide), a4 1 (by omega)]
          rw [e15]
          obtain ⟨m9, z1, z2, z3, z4, z5', z6⟩ := c_run c n k hc hk32 hn (fun s => pseq (cS μ s) (Fq (μ 1 6) (μ 1 7) 0) (drawT (cS μ s) z5)) 0 (μ 1 5) (st m 97 4 (nI k)) (by rw [st_ne (by decide), a4 1 (by omega)]; exact h1) (fun s hs j hj => by rw [st_ne (by omega)]; exact a3 s hs j hj) (by rw [st_same, if_pos rfl])
          rw [st_ne (by decide), a4 1 (by omega), QQ_mask (cS μ) (fun s => drawT (cS μ s) z5) (begW k c (cS μ)) _ (fun s hs => ⟨fun hb => by unfold begW; rw [if_pos ⟨hs, hb⟩], fun hb => by unfold begW; rw [if_neg (fun z => hb z.2)]; rfl⟩)] at z2
          have hk9 : ∀ q, (q < 97 ∨ 106 ≤ q) → m9 q = μ q := fun q hq => by rw [z6 q (by omega) (by omega), st_ne (by omega)]; exact a4 q hq
          have hf := c_fits q n hq hn t _ m9 (by rw [hk9 0 (by omega)]; exact n1) (fun i hi => ⟨htn i hi, by rw [hk9 138 (by omega)]; exact (ht i hi).2⟩) z2
          rw [hk9 139 (by omega)] at hf
          have eP : (∀ i, i < q → lseq (μ 1 4) (μ 1 5) 0 (QQ c (cS μ) (Fq (μ 1 6) (μ 1 7) 0) (begW k c (cS μ))) (t i) = μ 139 i) = P k := by rw [← hP]
          rw [eP] at hf
          have hP9 : PR m9 c n (fun s => pseq (cS μ s) (Fq (μ 1 6) (μ 1 7) 0) (drawT (cS μ s) z5)) := fun s hs j hj => by rw [z6 _ (by omega) (by omega), st_ne (by omega)]; exact a3 s hs j hj
          simp only [z1, Option.bind_some, hf, nI_inc]
          have hI := ih (k + 1) m9 (by omega) (by omega) hP9 hk9
          rw [upC, upF, upA] at hI
          by_cases hz : P k
          · have e1 : ¬ fl (P k) = 0 := fun z => fl_0.mp z hz
            rw [if_neg e1]
            rw [if_neg e1, if_neg e1, fl_t hz] at hI
            exact hI
          · have e1 : fl (P k) = 0 := fl_0.mpr hz
            rw [if_pos e1]
            rw [if_pos e1, if_pos e1, e1, Int32.add_zero] at hI
            have e2 : (if upF P k = -1 then -1 else upF P k) = upF P k := by
              split
              · next z => exact z.symm
              · rfl
            rw [e2] at hI
            exact hI
    -- the reference
    have keyM : ∀ (f k : Nat) (a b d : Int32) (ν' : gMem), k ≤ 2 ^ c → k < f → (∀ b, b ≠ 142 → b ≠ 148 → ν' b = ν b) → (∀ k, k < 35 → ν' 142 k = ν 142 k ∧ ν' 148 k = ν 142 k) →
        ∃ (j : Int32) (ν'' : gMem), l_X11_worked_43 i f a b d (nI k - 1) ν' = some (upC P a k, (if upF P k = -1 then b else upF P k), upA P d k, j, ν'') ∧ (∀ b, b ≠ 142 → b ≠ 148 → ν'' b = ν b) ∧ (∀ k, k < 35 → ν'' 142 k = ν 142 k) := by
      intro f
      induction f with
      | zero => intro k a b d ν' _ h2; omega
      | succ f ih =>
        intro k a b d ν' a1 a2 a3 a4
        unfold l_X11_worked_43
        cases k with
        | zero =>
          rw [if_pos (show nI 0 - 1 < 0 by decide)]
          exact ⟨_, ν', rfl, a3, fun k hk => (a4 k hk).1⟩
        | succ k =>
          have hk32 : k < 32 := by omega
          rw [nI_pred, if_neg (nI_pos (by omega))]
          have hTn := hT.congr (ν' := ν') (by rw [a3 140 (by decide) (by decide)]) (a3 141 (by decide) (by decide))
          obtain ⟨ν3, u1, u2, u3⟩ := m_isBy k q hk32 hq c (cS μ) (μ 1 4) (μ 1 6) (μ 1 7) t ν' hTn (by rw [a3 140 (by decide) (by decide)]; exact n2) (fun i hi => by rw [a3 150 (by decide) (by decide), ← (n3 i hi).1]; exact ht i hi)
          have eP : (∀ i, i < q → lseq (μ 1 4) (ν' 141 1) 0 (QQ c (cS μ) (Fq (μ 1 6) (μ 1 7) 0) (begW k c (cS μ))) (t i) = ν' 150 (2 * i + 1)) = P k := by
            rw [← hP, a3 141 (by decide) (by decide), g1, a3 150 (by decide) (by decide)]
            refine propext ⟨fun z i hi => by rw [(n3 i hi).2.1]; exact z i hi, fun z i hi => by rw [← (n3 i hi).2.1]; exact z i hi⟩
          rw [eP] at u1
          rw [u1]
          have b3 : ∀ b, b ≠ 142 → b ≠ 148 → ν3 b = ν b := fun b b1 b2 => by rw [u3 b b1]; exact a3 b b1 b2
          have b4 : ∀ k, k < 35 → ν3 142 k = ν 142 k ∧ ν3 148 k = ν 142 k := fun k hk => by rw [u2 k hk, u3 148 (by decide)]; exact ⟨(a4 k hk).2, (a4 k hk).2⟩
          have em : nI k + Int32.ofInt (-1) = nI k - 1 := by rw [Int32.sub_eq_add_neg]; rfl
          simp only [Option.bind_some, lt, em]
          rw [upC, upF, upA]
          by_cases hz : P k
          · have e1 : ¬ fl (P k) = 0 := fun z => fl_0.mp z hz
            have hnk : ¬ nI k = -1 := fun z => absurd (show nI k < 0 by rw [z]; decide) (nI_pos (by omega))
            rw [if_neg e1, if_neg e1, if_neg e1, fl_t hz, ← upC_add, ← upA_and]
            have e2 : (if (if upF P k = -1 then nI k else upF P k) = -1 then b else (if upF P k = -1 then nI k else upF P k)) = (if upF P k = -1 then nI k else upF P k) := by
              by_cases hh : upF P k = -1
              · simp only [hh, if_true, hnk, if_false]
              · simp only [hh, if_false]
            rw [e2]
            exact ih k (a + 1) (nI k) (d &&& nI k) ν3 (by omega) (by omega) b3 b4
          · have e1 : fl (P k) = 0 := fl_0.mpr hz
            rw [if_pos e1, if_pos e1, if_pos e1, e1, Int32.add_zero]
            have e2 : (if upF P k = -1 then -1 else upF P k) = upF P k := by
              split
              · next z => exact z.symm
              · rfl
            rw [e2]
            exact ih k a b d ν3 (by omega) (by omega) b3 b4
    obtain ⟨m', r1, r2⟩ := keyC gF 0 m10 (by omega) (by unfold gF; omega) p2 (fun q hq => p3 q (by omega))
    obtain ⟨j, ν'', s1, s2, s3⟩ := keyM gF (2 ^ c) 0 (-1) (nI (2 ^ c) - 1) ν1 (Nat.le_refl _) (by unfold gF; omega) (fun b b1 b2 => q3 b b2) (fun k hk => ⟨by rw [q3 142 (by decide)], q2 k hk⟩)
    have r1' : l_X10_worked_46 i (nI n) gF 0 (-1) (nI (2 ^ c) - 1) 0 m10 = some (upC P 0 (2 ^ c), upF P (2 ^ c), upA P (nI (2 ^ c) - 1) (2 ^ c), nI (2 ^ c), m') := r1
    have e2 : (if upF P (2 ^ c) = -1 then -1 else upF P (2 ^ c)) = upF P (2 ^ c) := by
      split
      · next z => exact z.symm
      · rfl
    rw [e2] at s1
    simp only [r1', s1, Option.bind_some]
    refine RO.ite (fun _ => ?_) (fun _ => RO.ite (fun _ => ?_) (fun _ => ?_))
    all_goals exact RO.keep h rfl r2 (fun b b1 b2 _ => s2 b b1 b2) s3

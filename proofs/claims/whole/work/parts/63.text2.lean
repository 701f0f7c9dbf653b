/-! the reference's token -/
def KM (ν m : gMem) : Prop := (∀ k, k ≠ 5 → k ≠ 6 → k ≠ 7 → k ≠ 8 → m 140 k = ν 140 k) ∧ ∀ q, q ≠ 140 → m q = ν q
theorem KM.st {ν m : gMem} (h : KM ν m) (k : Nat) (v : Int32) (hk : k = 5 ∨ k = 6 ∨ k = 7 ∨ k = 8) : KM ν (st m 140 k v) := ⟨fun j h2 h3 h4 h5 => by rw [st_same, if_neg (by omega)]; exact h.1 j h2 h3 h4 h5, fun q hq => by rw [st_ne hq]; exact h.2 q hq⟩
theorem KM.rf (ν : gMem) : KM ν ν := ⟨fun _ _ _ _ _ => rfl, fun _ _ => rfl⟩
theorem KM.tr {μ m n : gMem} (h : KM μ m) (h2 : KM m n) : KM μ n := ⟨fun k a b c d => by rw [h2.1 k a b c d, h.1 k a b c d], fun q hq => by rw [h2.2 q hq, h.2 q hq]⟩
def MX (ν : gMem) (T : Nat → Int32) (t : Nat) : Prop := t ≤ 160 ∧ ν 140 4 = nI t ∧ ∀ i, i < t → ν 143 i = T i
theorem MX.km {ν m : gMem} {T : Nat → Int32} {t : Nat} (h : MX ν T t) (hk : KM ν m) : MX m T t := ⟨h.1, by rw [hk.1 4 (by decide) (by decide) (by decide) (by decide)]; exact h.2.1, fun i hi => by rw [hk.2 143 (by decide)]; exact h.2.2 i hi⟩
theorem e_letterAt {ν : gMem} {T : Nat → Int32} {t a : Nat} (h : MX ν T t) (ha : a ≤ t) : f_X11_letterAt (nI a) ν = some (if a = t then 0 else T a, ν) := by
  obtain ⟨h1, h2, h3⟩ := h
  unfold f_X11_letterAt
  rw [h2]
  by_cases hat : a = t
  · subst hat
    rw [if_pos (Int32.le_refl _), if_pos rfl]
  · have h160 : a < 160 := by omega
    rw [if_neg (nI_ge (show a < t by omega) (by omega)), if_pos (inb5 h160 (by decide)), cl5 (by omega), h3 a (by omega), if_neg hat]
theorem e_in2 (x lo hi : Int32) (μ : gMem) (l h : Int64) (el : l = lo.toInt64) (eh : h = hi.toInt64) : f_X11_in x.toInt64 l h μ = some (if x < lo ∨ hi < x then 0 else 1, μ) := by rw [el, eh, e_inI]
theorem m_skip {T : Nat → Int32} {t : Nat} : ∀ (f a : Nat) (m : gMem), a ≤ t → t - a < f → MX m T t → m 140 5 = nI a → ∃ m', l_X11_nextToken_0 f m = some m' ∧ m' 140 5 = nI (rn pSp T t a) ∧ KM m m' := by
  intro f
  induction f with
  | zero => intro a m _ h; omega
  | succ f ih =>
    intro a m h1 h2 h3 h4
    unfold l_X11_nextToken_0
    rw [h4, e_letterAt h3 h1]
    simp only [Option.bind_some]
    by_cases hat : a = t
    · subst hat
      rw [if_pos rfl, if_neg (show ¬ (0 : Int32) = 32 by decide), rn_end (Nat.le_refl _)]
      exact ⟨m, rfl, h4, KM.rf m⟩
    · rw [if_neg hat]
      by_cases hs : T a = 32
      · rw [if_pos hs, rn_yes (by omega) (pSp_t.mpr hs), h4]
        simp only [lt, nI_1]
        obtain ⟨m', p1, p2, p3⟩ := ih (a + 1) (st m 140 5 (nI (a + 1))) (by omega) (by omega) (h3.km ((KM.rf m).st 5 _ (by omega))) (by rw [st_same, if_pos rfl])
        exact ⟨m', p1, p2, ((KM.rf m).st 5 _ (by omega)).tr p3⟩
      · rw [if_neg hs, rn_no (fun z => hs (pSp_t.mp z))]
        exact ⟨m, rfl, h4, KM.rf m⟩
theorem m_lets {T : Nat → Int32} {t : Nat} : ∀ (f a : Nat) (m : gMem), a ≤ t → t - a < f → MX m T t → m 140 5 = nI a → (m 140 6 = 0 ∨ m 140 6 = 1) → ∃ m', l_X11_nextToken_59 f m = some m' ∧ m' 140 5 = nI (rn pLe T t a) ∧ m' 140 6 = (if rn pLe T t a = a then m 140 6 else 1) ∧ m' 140 7 = m 140 7 ∧ m' 140 8 = m 140 8 ∧ KM m m' := by
  intro f
  induction f with
  | zero => intro a m _ h; omega
  | succ f ih =>
    intro a m h1 h2 h3 h4 h5
    unfold l_X11_nextToken_59
    have h6 : ¬ (2 : Int32) ≤ m 140 6 := by rcases h5 with e | e <;> rw [e] <;> decide
    rw [if_neg h6, h4, e_letterAt h3 h1]
    simp only [Option.bind_some]
    rw [e_in2 _ 97 122 m 97 122 rfl rfl]
    simp only [Option.bind_some, b10]
    by_cases hat : a = t
    · subst hat
      rw [if_pos rfl, if_pos (show (0 : Int32) < 97 ∨ 122 < (0 : Int32) by decide), rn_end (Nat.le_refl _), if_pos rfl]
      exact ⟨m, rfl, h4, rfl, rfl, rfl, KM.rf m⟩
    · rw [if_neg hat]
      by_cases hs : pLe (T a) = true
      · rw [if_neg (pLe_t.mp hs), rn_yes (by omega) hs]
        simp only [lt]
        have e5 : st m 140 6 1 140 5 = nI a := by rw [st_same, if_neg (by decide)]; exact h4
        rw [e5, nI_1]
        have k1 := ((KM.rf m).st 6 1 (by omega)).st 5 (nI (a + 1)) (by omega)
        obtain ⟨m', p1, p2, p3, p4, p5, p6⟩ := ih (a + 1) (st (st m 140 6 1) 140 5 (nI (a + 1))) (by omega) (by omega) (h3.km k1) (by rw [st_same, if_pos rfl]) (Or.inr (by simp [st_row]))
        have hge := (rn_facts pLe T t _ (a + 1) rfl (by omega)).1
        refine ⟨m', p1, p2, ?_, by rw [p4]; simp [st_row], by rw [p5]; simp [st_row], k1.tr p6⟩
        rw [p3, if_neg (show ¬ rn pLe T t (a + 1) = a by omega)]
        split
        · simp [st_row]
        · rfl
      · have hs' : T a < 97 ∨ 122 < T a := Classical.byContradiction (fun z => hs (pLe_t.mpr z))
        rw [if_pos hs', rn_no hs, if_pos rfl]
        exact ⟨m, rfl, h4, rfl, rfl, rfl, KM.rf m⟩
def nv (T : Nat → Int32) (b : Nat) : Nat → Int32
  | 0 => 0
  | k + 1 => (10 : Int32) * nv T b k + T (b + k) - 48
theorem dig_of {c : Int32} (h : pDi c = true) : ∃ k : Nat, 48 ≤ k ∧ k ≤ 57 ∧ c = nI k := by
  rw [pDi_t] at h
  have h1 : ¬ c < 48 := fun z => h (Or.inl z)
  have h2 : ¬ 57 < c := fun z => h (Or.inr z)
  have h0 : ¬ c < 0 := fun z => h1 (Int32.lt_trans z (by decide))
  obtain ⟨k, hk, rfl⟩ := nI_of h0
  refine ⟨k, ?_, ?_, rfl⟩
  · apply Classical.byContradiction
    intro z
    exact h1 (nI_lt (b := 48) (by omega) (by decide))
  · apply Classical.byContradiction
    intro z
    exact h2 (nI_lt (a := 57) (by omega) hk)
theorem nv1 : ∀ k : Nat, k ≤ 57 → 48 ≤ k → (10 : Int32) * 0 + nI k - 48 = nI (k - 48) := by decide
theorem nv2 : ∀ k : Nat, k ≤ 57 → 48 ≤ k → ∀ j : Nat, j ≤ 9 → (10 : Int32) * nI j + nI k - 48 = nI (10 * j + (k - 48)) := by decide
theorem nv_val {T : Nat → Int32} {b k : Nat} (hk : k ≤ 2) (h : ∀ i, b ≤ i → i < b + k → pDi (T i) = true) : ∃ v : Nat, v ≤ 99 ∧ (k ≤ 1 → v ≤ 9) ∧ nv T b k = nI v := by
  have : k = 0 ∨ k = 1 ∨ k = 2 := by omega
  rcases this with rfl | rfl | rfl
  · exact ⟨0, by omega, fun _ => by omega, rfl⟩
  · obtain ⟨d, d1, d2, d3⟩ := dig_of (h b (by omega) (by omega))
    refine ⟨d - 48, by omega, fun _ => by omega, ?_⟩
    show (10 : Int32) * 0 + T (b + 0) - 48 = _
    rw [Nat.add_zero, d3]
    exact nv1 d d2 d1
  · obtain ⟨d, d1, d2, d3⟩ := dig_of (h b (by omega) (by omega))
    obtain ⟨g, g1, g2, g3⟩ := dig_of (h (b + 1) (by omega) (by omega))
    refine ⟨10 * (d - 48) + (g - 48), by omega, fun z => by omega, ?_⟩
    show (10 : Int32) * ((10 : Int32) * 0 + T (b + 0) - 48) + T (b + 1) - 48 = _
    rw [Nat.add_zero, d3, nv1 d d2 d1, g3]
    exact nv2 g g2 g1 (d - 48) (by omega)
theorem m_digs {T : Nat → Int32} {t b : Nat} : ∀ (f k : Nat) (m : gMem), b + k ≤ t → t - (b + k) < f → MX m T t → m 140 5 = nI (b + k) → ¬ m 140 6 = 1 → (∀ i, b ≤ i → i < b + k → pDi (T i) = true) → (k ≤ 2 → m 140 7 = nv T b k) → ∃ m', l_X11_nextToken_106 f m = some m' ∧ m' 140 5 = nI (rn pDi T t (b + k)) ∧ m' 140 6 = (if rn pDi T t (b + k) = b + k then m 140 6 else 2) ∧ (rn pDi T t (b + k) - b ≤ 2 → m' 140 7 = nv T b (rn pDi T t (b + k) - b)) ∧ m' 140 8 = m 140 8 ∧ KM m m' := by
  intro f
  induction f with
  | zero => intro k m _ h; omega
  | succ f ih =>
    intro k m h1 h2 h3 h4 h5 h6 h7
    unfold l_X11_nextToken_106
    rw [if_neg h5, h4, e_letterAt h3 h1]
    simp only [Option.bind_some]
    rw [e_in2 _ 48 57 m 48 57 rfl rfl]
    simp only [Option.bind_some, b10]
    by_cases hat : b + k = t
    · rw [if_pos hat, if_pos (show (0 : Int32) < 48 ∨ 57 < (0 : Int32) by decide), rn_end (by omega), if_pos rfl]
      refine ⟨m, rfl, h4, rfl, fun z => ?_, rfl, KM.rf m⟩
      rw [show b + k - b = k by omega] at z ⊢
      exact h7 z
    · rw [if_neg hat]
      by_cases hs : pDi (T (b + k)) = true
      · have hlt : b + k < t := by omega
        have h160 : b + k < 160 := by have := h3.1; omega
        rw [if_neg (pDi_t.mp hs), rn_yes hlt hs]
        have hge := (rn_facts pDi T t _ (b + k + 1) rfl (by omega)).1
        -- one digit on, whatever the number became
        have go : ∀ v : Int32, (k + 1 ≤ 2 → v = nv T b (k + 1)) → ∃ m', l_X11_nextToken_106 f (st (st (st m 140 7 v) 140 6 2) 140 5 (nI (b + k + 1))) = some m' ∧ m' 140 5 = nI (rn pDi T t (b + k + 1)) ∧ m' 140 6 = (if rn pDi T t (b + k + 1) = b + k then m 140 6 else 2) ∧ (rn pDi T t (b + k + 1) - b ≤ 2 → m' 140 7 = nv T b (rn pDi T t (b + k + 1) - b)) ∧ m' 140 8 = m 140 8 ∧ KM m m' := by
          intro v hv
          have k1 := (((KM.rf m).st 7 v (by omega)).st 6 2 (by omega)).st 5 (nI (b + k + 1)) (by omega)
          obtain ⟨m', p1, p2, p3, p4, p5, p6⟩ := ih (k + 1) (st (st (st m 140 7 v) 140 6 2) 140 5 (nI (b + k + 1))) (by omega) (by omega) (h3.km k1) (by rw [st_same, if_pos rfl]; rfl) (by simp [st_row]) (fun i i1 i2 => by
            by_cases hi : i = b + k
            · rw [hi]; exact hs
            · exact h6 i i1 (by omega)) (fun z => by simp [st_row]; exact hv z)
          rw [← Nat.add_assoc] at p2 p3 p4
          refine ⟨m', p1, p2, ?_, p4, by rw [p5]; simp [st_row], k1.tr p6⟩
          rw [p3, if_neg (show ¬ rn pDi T t (b + k + 1) = b + k by omega)]
          split
          · simp [st_row]
          · rfl
        by_cases h99 : m 140 7 ≤ 99
        · rw [if_pos h99, h4, if_pos (inb5 h160 (by decide)), cl5 (show b + k < 1000 by omega), h3.2.2 _ hlt]
          have e5 : ∀ v, st (st m 140 7 v) 140 6 2 140 5 = nI (b + k) := fun v => by simp [st_row, h4]
          simp only [lt, e5, nI_1]
          refine go _ (fun z => ?_)
          rw [h7 (by omega)]
          rfl
        · rw [if_neg h99]
          have e5 : ∀ v, st (st m 140 7 v) 140 6 2 140 5 = nI (b + k) := fun v => by simp [st_row, h4]
          simp only [lt, e5, nI_1]
          refine go _ (fun z => ?_)
          exfalso
          obtain ⟨v, v1, v2, v3⟩ := nv_val (T := T) (b := b) (k := k) (by omega) h6
          rw [h7 (by omega), v3] at h99
          exact h99 (nI_le (b := 99) v1 (by decide))
      · have hs' : T (b + k) < 48 ∨ 57 < T (b + k) := Classical.byContradiction (fun z => hs (pDi_t.mpr z))
        rw [if_pos hs', rn_no hs, if_pos rfl]
        refine ⟨m, rfl, h4, rfl, fun z => ?_, rfl, KM.rf m⟩
        rw [show b + k - b = k by omega] at z ⊢
        exact h7 z
def mK (ty : Int32) : Int32 := if ty = 0 then 3 else if ty = 3 then 0 else ty
theorem m_token {ν : gMem} {T : Nat → Int32} {t a : Nat} (h : MX ν T t) (ha : a ≤ t) (h5 : ν 140 5 = nI a) : ∃ ν', f_X11_nextToken ν = some ν' ∧ ν' 140 8 = nI (tkB T t a) ∧ ν' 140 5 = nI (tkE T t a) ∧ ν' 140 6 = mK (tkT T t a) ∧ (tkT T t a = 2 → ν' 140 7 = if tkE T t a - tkB T t a ≤ 2 then nv T (tkB T t a) (tkE T t a - tkB T t a) else 999) ∧ (tkT T t a = 3 → ν' 140 7 = T (tkB T t a)) ∧ KM ν ν' := by
  obtain ⟨c1, c2, c3⟩ := id h
  unfold f_X11_nextToken
  obtain ⟨m1, p1, p2, p3⟩ := m_skip gF a ν ha (by unfold gF; omega) h h5
  obtain ⟨f1, f2, f3⟩ := tk_facts (T := T) ha
  have eb : rn pSp T t a = tkB T t a := rfl
  rw [eb] at p2
  have hb : tkB T t a ≤ t := by omega
  rw [p1]
  simp only [Option.bind_some, lt, p2]
  have m14 : m1 140 4 = nI t := (h.km p3).2.1
  have e5 : st (st m1 140 8 (nI (tkB T t a))) 140 7 0 140 5 = nI (tkB T t a) := by simp [st_row, p2]
  have e4 : st (st m1 140 8 (nI (tkB T t a))) 140 7 0 140 4 = nI t := by simp [st_row, m14]
  rw [e5, e4]
  have k1 := (p3.st 8 (nI (tkB T t a)) (by omega)).st 7 0 (by omega)
  by_cases hbt : tkB T t a = t
  · have e0 : tkT T t a = 0 := by unfold tkT; rw [if_pos hbt]
    have ee : tkE T t a = tkB T t a := by unfold tkE; rw [if_pos hbt, hbt]
    rw [if_pos (show nI (tkB T t a) = nI t by rw [hbt])]
    have k2 := k1.st 6 3 (by omega)
    generalize hn : st (st (st m1 140 8 (nI (tkB T t a))) 140 7 0) 140 6 3 = n at k2
    have n6 : n 140 6 = 3 := by rw [← hn]; simp [st_row]
    have n5 : n 140 5 = nI (tkB T t a + 0) := by rw [← hn]; simp [st_row, p2]
    have n8 : n 140 8 = nI (tkB T t a) := by rw [← hn]; simp [st_row]
    have n7 : n 140 7 = 0 := by rw [← hn]; simp [st_row]
    have l59 : l_X11_nextToken_59 gF n = some n := by
      unfold gF l_X11_nextToken_59
      rw [n6, if_pos (by decide)]
    rw [l59]
    simp only [Option.bind_some]
    obtain ⟨n', q1, q2, q3, q4, q5, q6⟩ := m_digs (T := T) (t := t) (b := tkB T t a) gF 0 n (by omega) (by unfold gF; omega) (h.km k2) n5 (by rw [n6]; decide) (fun i _ _ => by omega) (fun _ => by rw [n7]; rfl)
    rw [Nat.add_zero, hbt, rn_end (Nat.le_refl _)] at q2 q3
    rw [if_pos rfl, n6] at q3
    rw [q1]
    simp only [Option.bind_some, q3, if_neg (show ¬ (3 : Int32) = 2 by decide), if_neg (show ¬ (3 : Int32) = 0 by decide)]
    exact ⟨n', rfl, by rw [q5]; exact n8, by rw [ee, hbt]; exact q2, by rw [e0]; exact q3, fun z => by rw [e0] at z; exact absurd z (by decide), fun z => by rw [e0] at z; exact absurd z (by decide), k2.tr q6⟩
  · have e0 : tkT T t a = tyC (T (tkB T t a)) := by unfold tkT; rw [if_neg hbt]
    have hblt : tkB T t a < t := by omega
    rw [if_neg (fun z => hbt ((nI_eq (by omega) (by omega)).mp z))]
    have k2 := k1.st 6 0 (by omega)
    generalize hn : st (st (st m1 140 8 (nI (tkB T t a))) 140 7 0) 140 6 0 = n at k2
    have n6 : n 140 6 = 0 := by rw [← hn]; simp [st_row]
    have n5 : n 140 5 = nI (tkB T t a) := by rw [← hn]; simp [st_row, p2]
    have n8 : n 140 8 = nI (tkB T t a) := by rw [← hn]; simp [st_row]
    have n7 : n 140 7 = 0 := by rw [← hn]; simp [st_row]
    obtain ⟨n2, r1, r2, r3, r4, r5, r6⟩ := m_lets (T := T) (t := t) gF (tkB T t a) n hb (by unfold gF; omega) (h.km k2) n5 (Or.inl n6)
    rw [r1]
    simp only [Option.bind_some]
    rw [n6] at r3
    rcases tyC_v (T (tkB T t a)) with e1 | e1 | e1
    · have ee : tkE T t a = rn pLe T t (tkB T t a) := by unfold tkE; rw [if_neg hbt, e1, if_neg (by decide), if_pos rfl]
      have hL := tyC_1.mp e1
      have hgt : ¬ rn pLe T t (tkB T t a) = tkB T t a := by
        rw [rn_yes hblt hL]
        have := (rn_facts pLe T t _ (tkB T t a + 1) rfl (by omega)).1
        omega
      rw [if_neg hgt] at r3
      have l106 : l_X11_nextToken_106 gF n2 = some n2 := by
        unfold gF l_X11_nextToken_106
        rw [r3, if_pos rfl]
      rw [l106]
      simp only [Option.bind_some, r3, if_neg (show ¬ (1 : Int32) = 2 by decide), if_neg (show ¬ (1 : Int32) = 0 by decide)]
      exact ⟨n2, rfl, by rw [r5]; exact n8, by rw [ee]; exact r2, by rw [e0, e1]; exact r3, fun z => by rw [e0, e1] at z; exact absurd z (by decide), fun z => by rw [e0, e1] at z; exact absurd z (by decide), k2.tr r6⟩
    · have ee : tkE T t a = rn pDi T t (tkB T t a) := by unfold tkE; rw [if_neg hbt, e1, if_neg (by decide), if_neg (by decide)]
      have hD := tyC_2.mp e1
      rw [rn_no (pDi_nLe hD)] at r2 r3
      rw [if_pos rfl] at r3
      obtain ⟨n', q1, q2, q3, q4, q5, q6⟩ := m_digs (T := T) (t := t) (b := tkB T t a) gF 0 n2 (by omega) (by unfold gF; omega) (h.km (k2.tr r6)) r2 (by rw [r3]; decide) (fun i _ _ => by omega) (fun _ => by rw [r4, n7]; rfl)
      have hgt : ¬ rn pDi T t (tkB T t a) = tkB T t a := by
        rw [rn_yes hblt hD]
        have := (rn_facts pDi T t _ (tkB T t a + 1) rfl (by omega)).1
        omega
      rw [Nat.add_zero] at q2 q3 q4
      rw [if_neg hgt] at q3
      rw [← ee] at q2 q4
      have q8 : n' 140 8 = nI (tkB T t a) := by rw [q5, r5]; exact n8
      rw [q1]
      simp only [Option.bind_some, q3, if_true, q2, q8]
      rw [pk_sub f2]
      by_cases hlen : tkE T t a - tkB T t a ≤ 2
      · rw [if_pos (show nI (tkE T t a - tkB T t a) ≤ (2 : Int32) from nI_le (b := 2) hlen (by decide)), if_neg (show ¬ (2 : Int32) = 0 by decide)]
        exact ⟨n', rfl, q8, q2, by rw [e0, e1]; exact q3, fun _ => by rw [if_pos hlen]; exact q4 hlen, fun z => by rw [e0, e1] at z; exact absurd z (by decide), (k2.tr r6).tr q6⟩
      · rw [if_neg (show ¬ nI (tkE T t a - tkB T t a) ≤ (2 : Int32) from nI_ge (a := 2) (by omega) (by omega))]
        have e6 : st n' 140 7 999 140 6 = 2 := by rw [st_same, if_neg (by decide)]; exact q3
        rw [e6, if_neg (show ¬ (2 : Int32) = 0 by decide)]
        exact ⟨_, rfl, by rw [st_same, if_neg (by decide)]; exact q8, by rw [st_same, if_neg (by decide)]; exact q2, by rw [e0, e1]; exact e6, fun _ => by rw [if_neg hlen, st_same, if_pos rfl], fun z => by rw [e0, e1] at z; exact absurd z (by decide), ((k2.tr r6).tr q6).st 7 _ (by omega)⟩
    · have ee : tkE T t a = tkB T t a + 1 := by unfold tkE; rw [if_neg hbt, e1, if_pos rfl]
      obtain ⟨hL, hD⟩ := tyC_3.mp e1
      rw [rn_no hL] at r2 r3
      rw [if_pos rfl] at r3
      obtain ⟨n', q1, q2, q3, q4, q5, q6⟩ := m_digs (T := T) (t := t) (b := tkB T t a) gF 0 n2 (by omega) (by unfold gF; omega) (h.km (k2.tr r6)) r2 (by rw [r3]; decide) (fun i _ _ => by omega) (fun _ => by rw [r4, n7]; rfl)
      rw [Nat.add_zero, rn_no hD] at q2 q3
      rw [if_pos rfl, r3] at q3
      have q8 : n' 140 8 = nI (tkB T t a) := by rw [q5, r5]; exact n8
      have h160 : tkB T t a < 160 := by omega
      have k3 := (k2.tr r6).tr q6
      have e143 : n' 143 (tkB T t a) = T (tkB T t a) := (h.km k3).2.2 _ hblt
      rw [q1]
      simp only [Option.bind_some, q3, if_neg (show ¬ (0 : Int32) = 2 by decide), if_true, q2, if_pos (inb5 h160 (by decide)), cl5 (show tkB T t a < 1000 by omega), e143]
      have e5' : st n' 140 7 (T (tkB T t a)) 140 5 = nI (tkB T t a) := by rw [st_same, if_neg (by decide)]; exact q2
      rw [e5', nI_1]
      exact ⟨_, rfl, by simp [st_row, q8], by rw [ee, st_same, if_pos rfl], by rw [e0, e1]; simp [st_row, q3, mK], fun z => by rw [e0, e1] at z; exact absurd z (by decide), fun _ => by simp [st_row], (k3.st 7 _ (by omega)).st 5 _ (by omega)⟩

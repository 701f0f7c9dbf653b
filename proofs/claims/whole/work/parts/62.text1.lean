/-! THE TEXT: its tokens, on both sides -/
def rnF (P : Int32 → Bool) (T : Nat → Int32) : Nat → Nat → Nat
  | 0, a => a
  | n + 1, a => if P (T a) = true then rnF P T n (a + 1) else a
def rn (P : Int32 → Bool) (T : Nat → Int32) (t a : Nat) : Nat := rnF P T (t - a) a
theorem rn_end {P : Int32 → Bool} {T : Nat → Int32} {t a : Nat} (h : t ≤ a) : rn P T t a = a := by
  unfold rn
  rw [show t - a = 0 by omega]
  rfl
theorem rn_yes {P : Int32 → Bool} {T : Nat → Int32} {t a : Nat} (h : a < t) (hp : P (T a) = true) : rn P T t a = rn P T t (a + 1) := by
  unfold rn
  rw [show t - a = (t - (a + 1)) + 1 by omega, rnF, if_pos hp]
theorem rn_no {P : Int32 → Bool} {T : Nat → Int32} {t a : Nat} (hp : ¬ P (T a) = true) : rn P T t a = a := by
  unfold rn
  cases t - a with
  | zero => rfl
  | succ n => rw [rnF, if_neg hp]
theorem rn_facts (P : Int32 → Bool) (T : Nat → Int32) (t : Nat) : ∀ (n a : Nat), t - a = n → a ≤ t → a ≤ rn P T t a ∧ rn P T t a ≤ t ∧ (∀ i, a ≤ i → i < rn P T t a → P (T i) = true) ∧ (rn P T t a < t → ¬ P (T (rn P T t a)) = true)
  | 0, a, h, h2 => by
    rw [rn_end (by omega)]
    exact ⟨by omega, by omega, fun i _ _ => by omega, fun z => by omega⟩
  | n + 1, a, h, h2 => by
    by_cases hp : P (T a) = true
    · obtain ⟨i1, i2, i3, i4⟩ := rn_facts P T t n (a + 1) (by omega) (by omega)
      rw [rn_yes (by omega) hp]
      refine ⟨by omega, i2, fun i h3 h4 => ?_, i4⟩
      by_cases hi : i = a
      · subst hi; exact hp
      · exact i3 i (by omega) h4
    · rw [rn_no hp]
      exact ⟨by omega, h2, fun i _ _ => by omega, fun _ => hp⟩
def pSp (c : Int32) : Bool := decide (c = 32)
def pLe (c : Int32) : Bool := decide (¬ (c < 97 ∨ 122 < c))
def pDi (c : Int32) : Bool := decide (¬ (c < 48 ∨ 57 < c))
theorem pSp_t {c : Int32} : pSp c = true ↔ c = 32 := by unfold pSp; exact decide_eq_true_iff
theorem pLe_t {c : Int32} : pLe c = true ↔ ¬ (c < 97 ∨ 122 < c) := by unfold pLe; exact decide_eq_true_iff
theorem pDi_t {c : Int32} : pDi c = true ↔ ¬ (c < 48 ∨ 57 < c) := by unfold pDi; exact decide_eq_true_iff
def tyC (c : Int32) : Int32 := if pLe c = true then 1 else if pDi c = true then 2 else 3
theorem pDi_nLe {c : Int32} (h : pDi c = true) : ¬ pLe c = true := by
  intro z
  rw [pDi_t] at h
  rw [pLe_t] at z
  have h1 : ¬ 57 < c := fun y => h (Or.inr y)
  have h2 : ¬ c < 97 := fun y => z (Or.inl y)
  exact h2 (Int32.lt_of_le_of_lt (Int32.not_lt.mp h1) (by decide))
theorem tyC_1 {c : Int32} : tyC c = 1 ↔ pLe c = true := by
  unfold tyC
  by_cases h : pLe c = true
  · simp [h]
  · by_cases h2 : pDi c = true <;> simp [h, h2]
theorem tyC_2 {c : Int32} : tyC c = 2 ↔ pDi c = true := by
  unfold tyC
  by_cases h2 : pDi c = true
  · simp [h2, pDi_nLe h2]
  · by_cases h : pLe c = true <;> simp [h, h2]
theorem tyC_3 {c : Int32} : tyC c = 3 ↔ (¬ pLe c = true ∧ ¬ pDi c = true) := by
  unfold tyC
  by_cases h : pLe c = true
  · simp [h]
  · by_cases h2 : pDi c = true <;> simp [h, h2]
theorem tyC_v (c : Int32) : tyC c = 1 ∨ tyC c = 2 ∨ tyC c = 3 := by
  unfold tyC
  split
  · exact Or.inl rfl
  · split
    · exact Or.inr (Or.inl rfl)
    · exact Or.inr (Or.inr rfl)
def tkB (T : Nat → Int32) (t a : Nat) : Nat := rn pSp T t a
def tkT (T : Nat → Int32) (t a : Nat) : Int32 := if tkB T t a = t then 0 else tyC (T (tkB T t a))
def tkE (T : Nat → Int32) (t a : Nat) : Nat := if tkB T t a = t then t else if tyC (T (tkB T t a)) = 3 then tkB T t a + 1 else if tyC (T (tkB T t a)) = 1 then rn pLe T t (tkB T t a) else rn pDi T t (tkB T t a)
theorem tk_facts {T : Nat → Int32} {t a : Nat} (h : a ≤ t) : a ≤ tkB T t a ∧ tkB T t a ≤ tkE T t a ∧ tkE T t a ≤ t := by
  obtain ⟨h1, h2, h3, h4⟩ := rn_facts pSp T t (t - a) a rfl h
  have hb : tkB T t a = rn pSp T t a := rfl
  unfold tkE
  rw [hb]
  refine ⟨h1, ?_⟩
  split
  · next z => omega
  · split
    · omega
    · split
      · obtain ⟨g1, g2, -, -⟩ := rn_facts pLe T t _ (rn pSp T t a) rfl h2
        exact ⟨g1, g2⟩
      · obtain ⟨g1, g2, -, -⟩ := rn_facts pDi T t _ (rn pSp T t a) rfl h2
        exact ⟨g1, g2⟩
/-! the class's token -/
def KC (μ m : gMem) : Prop := (∀ k, k ≠ 2 → k ≠ 3 → k ≠ 4 → m 8 k = μ 8 k) ∧ ∀ q, q ≠ 8 → m q = μ q
theorem KC.st {μ m : gMem} (h : KC μ m) (k : Nat) (v : Int32) (hk : k = 2 ∨ k = 3 ∨ k = 4) : KC μ (st m 8 k v) := ⟨fun j h2 h3 h4 => by rw [st_same, if_neg (by omega)]; exact h.1 j h2 h3 h4, fun q hq => by rw [st_ne hq]; exact h.2 q hq⟩
theorem KC.rf (μ : gMem) : KC μ μ := ⟨fun _ _ _ _ => rfl, fun _ _ => rfl⟩
theorem KC.tr {μ m n : gMem} (h : KC μ m) (h2 : KC m n) : KC μ n := ⟨fun k a b c => by rw [h2.1 k a b c, h.1 k a b c], fun q hq => by rw [h2.2 q hq, h.2 q hq]⟩
def CX (μ : gMem) (T : Nat → Int32) (t : Nat) : Prop := t ≤ 160 ∧ μ 8 1 = nI t ∧ ∀ i, i < t → μ 9 i = T i
theorem CX.kc {μ m : gMem} {T : Nat → Int32} {t : Nat} (h : CX μ T t) (hk : KC μ m) : CX m T t := ⟨h.1, by rw [hk.1 1 (by decide) (by decide) (by decide)]; exact h.2.1, fun i hi => by rw [hk.2 9 (by decide)]; exact h.2.2 i hi⟩
theorem e_typeAt {μ : gMem} {T : Nat → Int32} {t a : Nat} (h : CX μ T t) (ha : a ≤ t) : f_X3_typeAt (nI a) μ = some (if a = t then 0 else tyC (T a), μ) := by
  obtain ⟨h1, h2, h3⟩ := h
  unfold f_X3_typeAt
  rw [if_neg (nI_pos (by omega)), h2]
  by_cases hat : a = t
  · subst hat
    rw [if_neg (nI_nlt (Nat.le_refl _) (by omega)), if_pos rfl]
  · have h160 : a < 160 := by omega
    rw [if_pos (nI_lt (show a < t by omega) (by omega)), if_pos (inb5 h160 (by decide)), cl5 (by omega), h3 a (by omega), if_neg hat]
    simp only [lt]
    unfold tyC
    by_cases c1 : T a < 97
    · have hL : ¬ pLe (T a) = true := fun z => pLe_t.mp z (Or.inl c1)
      rw [if_pos c1, if_neg hL]
      by_cases c2 : T a < 48
      · have hD : ¬ pDi (T a) = true := fun z => pDi_t.mp z (Or.inl c2)
        rw [if_pos c2, if_neg hD]
      · rw [if_neg c2]
        by_cases c3 : 57 < T a
        · have hD : ¬ pDi (T a) = true := fun z => pDi_t.mp z (Or.inr c3)
          rw [if_pos c3, if_neg hD]
        · have hD : pDi (T a) = true := pDi_t.mpr (fun z => z.elim c2 c3)
          rw [if_neg c3, if_pos hD]
    · rw [if_neg c1]
      by_cases c2 : 122 < T a
      · have hL : ¬ pLe (T a) = true := fun z => pLe_t.mp z (Or.inr c2)
        have c3 : ¬ T a < 48 := fun z => c1 (Int32.lt_trans z (by decide))
        have c4 : 57 < T a := Int32.lt_trans (by decide) c2
        have hD : ¬ pDi (T a) = true := fun z => pDi_t.mp z (Or.inr c4)
        rw [if_pos c2, if_neg hL, if_neg c3, if_pos c4, if_neg hD]
      · have hL : pLe (T a) = true := pLe_t.mpr (fun z => z.elim c1 c2)
        rw [if_neg c2, if_pos hL]
theorem c_skip {T : Nat → Int32} {t : Nat} : ∀ (f a : Nat) (m : gMem), a ≤ t → t - a < f → CX m T t → m 8 3 = nI a → ∃ m', l_X3_readToken_8 f m = some m' ∧ m' 8 3 = nI (rn pSp T t a) ∧ KC m m' := by
  intro f
  induction f with
  | zero => intro a m _ h; omega
  | succ f ih =>
    intro a m h1 h2 h3 h4
    obtain ⟨c1, c2, c3⟩ := id h3
    unfold l_X3_readToken_8
    rw [c2, h4]
    by_cases hat : a = t
    · subst hat
      rw [if_pos (Int32.le_refl _), rn_end (Nat.le_refl _)]
      exact ⟨m, rfl, h4, KC.rf m⟩
    · have h160 : a < 160 := by omega
      rw [if_neg (nI_ge (show a < t by omega) (by omega)), if_pos (inb5 h160 (by decide)), cl5 (by omega), c3 a (by omega)]
      by_cases hs : T a = 32
      · rw [if_pos hs, rn_yes (by omega) (pSp_t.mpr hs)]
        simp only [lt, nI_1]
        obtain ⟨m', p1, p2, p3⟩ := ih (a + 1) (st m 8 3 (nI (a + 1))) (by omega) (by omega) (h3.kc ((KC.rf m).st 3 _ (by omega))) (by rw [st_same, if_pos rfl])
        exact ⟨m', p1, p2, ((KC.rf m).st 3 _ (by omega)).tr p3⟩
      · rw [if_neg hs, rn_no (fun z => hs (pSp_t.mp z))]
        exact ⟨m, rfl, h4, KC.rf m⟩
theorem c_more {T : Nat → Int32} {t : Nat} (ty : Int32) (P : Int32 → Bool) (hP : ∀ c, tyC c = ty ↔ P c = true) (hty : ¬ ty = 0) : ∀ (f a : Nat) (m : gMem), a ≤ t → t - a < f → CX m T t → m 8 4 = nI a → m 8 2 = ty → ∃ m', l_X3_readToken_106 1 f m = some m' ∧ m' 8 4 = nI (rn P T t a) ∧ (∀ k, k ≠ 4 → m' 8 k = m 8 k) ∧ ∀ q, q ≠ 8 → m' q = m q := by
  intro f
  induction f with
  | zero => intro a m _ h; omega
  | succ f ih =>
    intro a m h1 h2 h3 h4 h5
    obtain ⟨c1, c2, c3⟩ := id h3
    unfold l_X3_readToken_106
    rw [if_neg (show ¬ (1 : Int32) = 0 by decide), c2, h4]
    by_cases hat : a = t
    · subst hat
      rw [if_pos (Int32.le_refl _), rn_end (Nat.le_refl _)]
      exact ⟨m, rfl, h4, fun _ _ => rfl, fun _ _ => rfl⟩
    · rw [if_neg (nI_ge (show a < t by omega) (by omega)), e_typeAt h3 h1, if_neg hat]
      simp only [Option.bind_some, h5, h4]
      by_cases hs : tyC (T a) = ty
      · rw [if_pos hs, rn_yes (by omega) ((hP _).mp hs)]
        simp only [lt, nI_1]
        obtain ⟨m', p1, p2, p3, p4⟩ := ih (a + 1) (st m 8 4 (nI (a + 1))) (by omega) (by omega) (h3.kc ((KC.rf m).st 4 _ (by omega))) (by rw [st_same, if_pos rfl]) (by rw [st_same, if_neg (by decide)]; exact h5)
        exact ⟨m', p1, p2, fun k hk => by rw [p3 k hk, st_same, if_neg hk], fun q hq => by rw [p4 q hq, st_ne hq]⟩
      · rw [if_neg hs, rn_no (fun z => hs ((hP _).mpr z))]
        exact ⟨m, rfl, h4, fun _ _ => rfl, fun _ _ => rfl⟩
theorem c_none (m : gMem) : l_X3_readToken_106 0 gF m = some m := by
  unfold gF l_X3_readToken_106
  rw [if_pos rfl]
theorem c_token {μ : gMem} {T : Nat → Int32} {t a : Nat} (h : CX μ T t) (ha : a ≤ t) (h4 : μ 8 4 = nI a) : ∃ μ', f_X3_readToken μ = some μ' ∧ μ' 8 3 = nI (tkB T t a) ∧ μ' 8 4 = nI (tkE T t a) ∧ μ' 8 2 = tkT T t a ∧ KC μ μ' := by
  obtain ⟨c1, c2, c3⟩ := id h
  unfold f_X3_readToken
  simp only [lt, h4]
  obtain ⟨m1, p1, p2, p3⟩ := c_skip gF a (st μ 8 3 (nI a)) ha (by unfold gF; omega) (h.kc ((KC.rf μ).st 3 _ (by omega))) (by rw [st_same, if_pos rfl])
  have k1 : KC μ m1 := ((KC.rf μ).st 3 _ (by omega)).tr p3
  have eb : rn pSp T t a = tkB T t a := rfl
  rw [eb] at p2
  obtain ⟨f1, f2, f3⟩ := tk_facts (T := T) ha
  rw [p1]
  have e83 : st m1 8 4 (nI (tkB T t a)) 8 3 = nI (tkB T t a) := by rw [st_same, if_neg (by decide)]; exact p2
  simp only [Option.bind_some, p2, e83]
  have hb : tkB T t a ≤ t := by omega
  have k2 := k1.st 4 (nI (tkB T t a)) (by omega)
  rw [e_typeAt (h.kc k2) hb]
  simp only [Option.bind_some]
  have et : (if tkB T t a = t then 0 else tyC (T (tkB T t a))) = tkT T t a := rfl
  rw [et]
  have k3 := k2.st 2 (tkT T t a) (by omega)
  have m3 : st (st m1 8 4 (nI (tkB T t a))) 8 2 (tkT T t a) 8 3 = nI (tkB T t a) := by simp [st_row, p2]
  have m4 : st (st m1 8 4 (nI (tkB T t a))) 8 2 (tkT T t a) 8 4 = nI (tkB T t a) := by simp [st_row]
  have m2 : st (st m1 8 4 (nI (tkB T t a))) 8 2 (tkT T t a) 8 2 = tkT T t a := by simp [st_row]
  generalize st (st m1 8 4 (nI (tkB T t a))) 8 2 (tkT T t a) = n at k3 m2 m3 m4
  simp only [m2]
  by_cases hbt : tkB T t a = t
  · have e0 : tkT T t a = 0 := by unfold tkT; rw [if_pos hbt]
    have ee : tkE T t a = tkB T t a := by unfold tkE; rw [if_pos hbt, hbt]
    simp only [e0, if_neg (show ¬ (0 : Int32) = 3 by decide), if_neg (show ¬ (0 : Int32) = 1 by decide), if_neg (show ¬ (0 : Int32) = 2 by decide), c_none, Option.bind_some]
    exact ⟨n, rfl, m3, by rw [ee]; exact m4, by rw [m2, e0], k3⟩
  · have e0 : tkT T t a = tyC (T (tkB T t a)) := by unfold tkT; rw [if_neg hbt]
    rcases tyC_v (T (tkB T t a)) with e1 | e1 | e1
    · have ee : tkE T t a = rn pLe T t (tkB T t a) := by unfold tkE; rw [if_neg hbt, e1, if_neg (by decide), if_pos rfl]
      obtain ⟨n', q1, q2, q3, q4⟩ := c_more (T := T) (t := t) 1 pLe (fun c => tyC_1) (by decide) gF (tkB T t a) n hb (by unfold gF; omega) (h.kc k3) m4 (by rw [m2, e0, e1])
      rw [e0, e1]
      simp only [if_neg (show ¬ (1 : Int32) = 3 by decide), if_true, q1, Option.bind_some]
      exact ⟨n', rfl, by rw [q3 3 (by decide)]; exact m3, by rw [ee]; exact q2, by rw [q3 2 (by decide), m2, e0, e1], k3.tr ⟨fun k _ _ a4 => q3 k a4, q4⟩⟩
    · have ee : tkE T t a = rn pDi T t (tkB T t a) := by unfold tkE; rw [if_neg hbt, e1, if_neg (by decide), if_neg (by decide)]
      obtain ⟨n', q1, q2, q3, q4⟩ := c_more (T := T) (t := t) 2 pDi (fun c => tyC_2) (by decide) gF (tkB T t a) n hb (by unfold gF; omega) (h.kc k3) m4 (by rw [m2, e0, e1])
      rw [e0, e1]
      simp only [if_neg (show ¬ (2 : Int32) = 3 by decide), if_neg (show ¬ (2 : Int32) = 1 by decide), if_true, q1, Option.bind_some]
      exact ⟨n', rfl, by rw [q3 3 (by decide)]; exact m3, by rw [ee]; exact q2, by rw [q3 2 (by decide), m2, e0, e1], k3.tr ⟨fun k _ _ a4 => q3 k a4, q4⟩⟩
    · have ee : tkE T t a = tkB T t a + 1 := by unfold tkE; rw [if_neg hbt, e1, if_pos rfl]
      rw [e0, e1]
      have k4 := k3.st 4 (nI (tkB T t a + 1)) (by omega)
      have e82 : st n 8 4 (nI (tkB T t a + 1)) 8 2 = 3 := by rw [st_same, if_neg (by decide), m2, e0, e1]
      simp only [if_true, m4, nI_1, e82, if_neg (show ¬ (3 : Int32) = 1 by decide), if_neg (show ¬ (3 : Int32) = 2 by decide), c_none, Option.bind_some]
      exact ⟨_, rfl, by rw [st_same, if_neg (by decide)]; exact m3, by rw [ee, st_same, if_pos rfl], e82, k4⟩

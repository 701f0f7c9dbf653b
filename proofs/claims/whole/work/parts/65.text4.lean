/-! a clause, by both -/
def tx_k (j : Nat) : Nat := [0, 2, 2, 2, 1, 1, 1, 1, 1, 1, 2, 0].getD j 0
def tx_lo (j p x : Nat) : Nat := if p = 1 ∧ j = 10 then x else [0, 1, 1, 1, 0, 0, 0, 0, 1, 0, 0, 0].getD j 0
def tx_hi (j p : Nat) : Nat := if p = 1 ∧ j ≤ 3 then 40 else [9, 6, 6, 6, 9, 9, 9, 9, 99, 9, 99, 9].getD j 0
theorem tx_12 {j : Nat} (h : j < 12) : j = 0 ∨ j = 1 ∨ j = 2 ∨ j = 3 ∨ j = 4 ∨ j = 5 ∨ j = 6 ∨ j = 7 ∨ j = 8 ∨ j = 9 ∨ j = 10 ∨ j = 11 := by omega
theorem tx_numbers {j : Nat} (hj : j < 12) (μ : gMem) : f_X9_numbers j μ = some (nI (tx_k j), μ) := by
  rcases tx_12 hj with rfl | rfl | rfl | rfl | rfl | rfl | rfl | rfl | rfl | rfl | rfl | rfl <;> rfl
theorem tx_least {j p : Nat} (hj : j < 12) (hp : p < 2) (x : Nat) (μ : gMem) : f_X9_leastNumber j (nI p) (nI x) μ = some (nI (tx_lo j p x), μ) := by
  rcases (show p = 0 ∨ p = 1 by omega) with rfl | rfl <;> rcases tx_12 hj with rfl | rfl | rfl | rfl | rfl | rfl | rfl | rfl | rfl | rfl | rfl | rfl <;> rfl
theorem tx_most {j p : Nat} (hj : j < 12) (hp : p < tx_k j) (μ : gMem) : f_X9_mostNumber j (nI p) μ = some (nI (tx_hi j p), μ) := by
  have key : ∀ j : Nat, j < 12 → tx_k j ≤ 2 := by decide
  have := key j hj
  rcases (show p = 0 ∨ p = 1 by omega) with rfl | rfl <;> rcases tx_12 hj with rfl | rfl | rfl | rfl | rfl | rfl | rfl | rfl | rfl | rfl | rfl | rfl <;> first | rfl | exact absurd hp (by decide)
theorem tx_kle : ∀ j : Nat, j < 12 → tx_k j ≤ 2 := by decide
theorem tx_lo99 {j p x : Nat} (hj : j < 12) (hx : x ≤ 99) : tx_lo j p x ≤ 99 := by
  have key : ∀ j : Nat, j < 12 → [0, 1, 1, 1, 0, 0, 0, 0, 1, 0, 0, 0].getD j 0 ≤ 99 := by decide
  unfold tx_lo
  split
  · exact hx
  · exact key j hj
theorem tx_hi99 {j p : Nat} (hj : j < 12) : tx_hi j p ≤ 99 := by
  have key : ∀ j : Nat, j < 12 → [9, 6, 6, 6, 9, 9, 9, 9, 99, 9, 99, 9].getD j 0 ≤ 99 := by decide
  unfold tx_hi
  split
  · decide
  · exact key j hj
theorem c_num {μ : gMem} {T : Nat → Int32} {t a : Nat} (h : CX μ T t) (ha : a ≤ t) (h4 : μ 8 4 = nI a) (j : Nat) (hj : j < 12) (p : Nat) (hp : p < tx_k j) (x : Nat) (hx : x ≤ 99) (i4 : Int32) (f : Nat) : ∃ μ1, KC μ μ1 ∧ μ1 8 4 = nI (tkE T t a) ∧ μ1 8 3 = nI (tkB T t a) ∧ ((RdN T t a (tx_lo j p x) (tx_hi j p) = none ∧ l_X0_readClause_32 j (f + 1) (nI x) i4 (nI p) μ = some (0, μ1)) ∨ ∃ v, RdN T t a (tx_lo j p x) (tx_hi j p) = some v ∧ tx_lo j p x ≤ v ∧ v ≤ tx_hi j p ∧ l_X0_readClause_32 j (f + 1) (nI x) i4 (nI p) μ = if p = 0 then l_X0_readClause_32 j f (nI v) i4 (nI (p + 1)) μ1 else l_X0_readClause_32 j f (nI x) (nI v) (nI (p + 1)) μ1) := by
  have hk := tx_kle j hj
  have hp2 : p < 2 := by omega
  obtain ⟨μ1, p1, p2, p3, p4, p5⟩ := c_token h ha h4
  refine ⟨μ1, p5, p3, p2, ?_⟩
  have eN := c_number (h.kc p5) ha p2 p3 p4
  have e : l_X0_readClause_32 j (f + 1) (nI x) i4 (nI p) μ = (if ¬ (NV T t a < nI (tx_lo j p x) ∨ ¬ NV T t a ≤ nI (tx_hi j p)) then (if nI p = 0 then l_X0_readClause_32 j f (NV T t a) i4 (nI (p + 1)) μ1 else l_X0_readClause_32 j f (nI x) (NV T t a) (nI (p + 1)) μ1) else some (0, μ1)) := by
    rw [l_X0_readClause_32, tx_numbers hj]
    simp only [Option.bind_some]
    rw [if_neg (nI_ge hp (by omega)), p1]
    simp only [Option.bind_some, eN, lt, tx_least hj hp2, tx_most hj hp, e_isOutside, nI_inc, b01]
  rw [e]
  rcases NV_rd (T := T) ha (tx_lo j p x) (tx_hi j p) (tx_lo99 hj hx) (tx_hi99 hj) with ⟨e1, e2⟩ | ⟨v, e1, e2, e3, e4, e5⟩
  · exact Or.inl ⟨e1, by rw [if_neg (not_not_intro e2)]⟩
  · refine Or.inr ⟨v, e1, e2, e3, ?_⟩
    rw [if_pos e5, e4]
    by_cases hp0 : p = 0
    · rw [if_pos (show nI p = 0 by rw [hp0]; rfl), if_pos hp0]
    · rw [if_neg (nI_ne0 (by omega) (by omega)), if_neg hp0]
def tx_S (m : gMem) (c j : Nat) (x y : Int32) : gMem := st (st (st (st m 12 c (gDeed.getD j 0)) 13 c (gKind.getD j 0)) 14 c x) 15 c y
theorem c_fin {μ : gMem} {c : Nat} (h5 : μ 10 5 = nI c) (hc : c < 14) (j : Nat) (hj : j < 12) (p : Nat) (hp : tx_k j ≤ p) (hp2 : p ≤ 2) (i3 i4 : Int32) (f : Nat) : l_X0_readClause_32 j (f + 1) i3 i4 (nI p) μ = some (1, tx_S μ c j i3 i4) := by
  rw [l_X0_readClause_32, tx_numbers hj]
  simp only [Option.bind_some]
  have q1 : ∀ v, st μ 12 c v 10 5 = nI c := fun v => by rw [st_ne (by decide)]; exact h5
  have q2 : ∀ v w, st (st μ 12 c v) 13 c w 10 5 = nI c := fun v w => by rw [st_ne (by decide)]; exact q1 v
  have q3 : ∀ v w z, st (st (st μ 12 c v) 13 c w) 14 c z 10 5 = nI c := fun v w z => by rw [st_ne (by decide)]; exact q2 v w
  have i1 : inb (nI c) 14 = true := inb5 hc (by decide)
  have i2 : (nI c).toNatClampNeg = c := cl5 (by omega)
  rw [if_pos (nI_le hp (by omega))]
  simp only [lt, h5, q1, q2, q3, i1, i2, if_true]
  rfl
theorem tx_S12 (m : gMem) (c j : Nat) (x y : Int32) : tx_S m c j x y 12 = upd (m 12) c (gDeed.getD j 0) := by
  unfold tx_S
  rw [st_ne (by decide), st_ne (by decide), st_ne (by decide), st_eq]
theorem tx_S13 (m : gMem) (c j : Nat) (x y : Int32) : tx_S m c j x y 13 = upd (m 13) c (gKind.getD j 0) := by
  unfold tx_S
  rw [st_ne (by decide), st_ne (by decide), st_eq, st_ne (by decide)]
theorem tx_S14 (m : gMem) (c j : Nat) (x y : Int32) : tx_S m c j x y 14 = upd (m 14) c x := by
  unfold tx_S
  rw [st_ne (by decide), st_eq, st_ne (by decide), st_ne (by decide)]
theorem tx_S15 (m : gMem) (c j : Nat) (x y : Int32) : tx_S m c j x y 15 = upd (m 15) c y := by
  unfold tx_S
  rw [st_eq, st_ne (by decide), st_ne (by decide), st_ne (by decide)]
theorem tx_So (m : gMem) (c j : Nat) (x y : Int32) {q : Nat} (h2 : q ≠ 12) (h3 : q ≠ 13) (h4 : q ≠ 14) (h5 : q ≠ 15) : tx_S m c j x y q = m q := by
  unfold tx_S
  rw [st_ne h5, st_ne h4, st_ne h3, st_ne h2]
theorem c_loop0 {m : gMem} {c : Nat} (h5 : m 10 5 = nI c) (hc : c < 14) (j : Nat) (hj : j < 12) (hk : tx_k j = 0) : l_X0_readClause_32 j gF 0 0 0 m = some (1, tx_S m c j 0 0) := c_fin h5 hc j hj 0 (by omega) (by omega) 0 0 4999
theorem c_loop1 {m : gMem} {T : Nat → Int32} {t a c : Nat} (h : CX m T t) (ha : a ≤ t) (h4 : m 8 4 = nI a) (h5 : m 10 5 = nI c) (hc : c < 14) (j : Nat) (hj : j < 12) (hk : tx_k j = 1) : ∃ m1, KC m m1 ∧ m1 8 4 = nI (tkE T t a) ∧ m1 8 3 = nI (tkB T t a) ∧ ((RdN T t a (tx_lo j 0 0) (tx_hi j 0) = none ∧ l_X0_readClause_32 j gF 0 0 0 m = some (0, m1)) ∨ ∃ v, RdN T t a (tx_lo j 0 0) (tx_hi j 0) = some v ∧ tx_lo j 0 0 ≤ v ∧ v ≤ tx_hi j 0 ∧ l_X0_readClause_32 j gF 0 0 0 m = some (1, tx_S m1 c j (nI v) 0)) := by
  obtain ⟨m1, p1, p2, p3, p4⟩ := c_num h ha h4 j hj 0 (by omega) 0 (by omega) 0 4999
  refine ⟨m1, p1, p2, p3, ?_⟩
  rcases p4 with ⟨e1, e2⟩ | ⟨v, e1, e2, e3, e4⟩
  · exact Or.inl ⟨e1, e2⟩
  · refine Or.inr ⟨v, e1, e2, e3, ?_⟩
    rw [if_pos rfl] at e4
    exact e4.trans (c_fin (by rw [p1.2 10 (by decide)]; exact h5) hc j hj 1 (by omega) (by omega) _ _ 4998)
theorem c_loop2 {m : gMem} {T : Nat → Int32} {t a c : Nat} (h : CX m T t) (ha : a ≤ t) (h4 : m 8 4 = nI a) (h5 : m 10 5 = nI c) (hc : c < 14) (j : Nat) (hj : j < 12) (hk : tx_k j = 2) : ∃ m1, KC m m1 ∧ m1 8 4 = nI (tkE T t a) ∧ m1 8 3 = nI (tkB T t a) ∧ ((RdN T t a (tx_lo j 0 0) (tx_hi j 0) = none ∧ l_X0_readClause_32 j gF 0 0 0 m = some (0, m1)) ∨ ∃ v, RdN T t a (tx_lo j 0 0) (tx_hi j 0) = some v ∧ tx_lo j 0 0 ≤ v ∧ v ≤ tx_hi j 0 ∧ ∃ m2, KC m1 m2 ∧ m2 8 4 = nI (tkE T t (tkE T t a)) ∧ m2 8 3 = nI (tkB T t (tkE T t a)) ∧ ((RdN T t (tkE T t a) (tx_lo j 1 v) (tx_hi j 1) = none ∧ l_X0_readClause_32 j gF 0 0 0 m = some (0, m2)) ∨ ∃ w, RdN T t (tkE T t a) (tx_lo j 1 v) (tx_hi j 1) = some w ∧ tx_lo j 1 v ≤ w ∧ w ≤ tx_hi j 1 ∧ l_X0_readClause_32 j gF 0 0 0 m = some (1, tx_S m2 c j (nI v) (nI w)))) := by
  obtain ⟨m1, p1, p2, p3, p4⟩ := c_num h ha h4 j hj 0 (by omega) 0 (by omega) 0 4999
  refine ⟨m1, p1, p2, p3, ?_⟩
  rcases p4 with ⟨e1, e2⟩ | ⟨v, e1, e2, e3, e4⟩
  · exact Or.inl ⟨e1, e2⟩
  · refine Or.inr ⟨v, e1, e2, e3, ?_⟩
    rw [if_pos rfl] at e4
    have hh := tx_hi99 (p := 0) hj
    obtain ⟨m2, q1, q2, q3, q4⟩ := c_num (h.kc p1) (tk_facts (T := T) ha).2.2 p2 j hj 1 (by omega) v (by omega) 0 4998
    refine ⟨m2, q1, q2, q3, ?_⟩
    rcases q4 with ⟨g1, g2⟩ | ⟨w, g1, g2, g3, g4⟩
    · exact Or.inl ⟨g1, e4.trans g2⟩
    · refine Or.inr ⟨w, g1, g2, g3, ?_⟩
      rw [if_neg (show ¬ (1 : Nat) = 0 by decide)] at g4
      exact (e4.trans g4).trans (c_fin (by rw [q1.2 10 (by decide), p1.2 10 (by decide)]; exact h5) hc j hj 2 (by omega) (by omega) _ _ 4997)
/-! frames of a clause -/
def KC2 (μ m : gMem) : Prop := (∀ k, k ≠ 2 → k ≠ 3 → k ≠ 4 → m 8 k = μ 8 k) ∧ ∀ q, q ≠ 8 → q ≠ 10 → q ≠ 12 → q ≠ 13 → q ≠ 14 → q ≠ 15 → m q = μ q
theorem KC2.rf (μ : gMem) : KC2 μ μ := ⟨fun _ _ _ _ => rfl, fun _ _ _ _ _ _ _ => rfl⟩
theorem KC2.tr {μ m n : gMem} (h : KC2 μ m) (h2 : KC2 m n) : KC2 μ n := ⟨fun k a b c => by rw [h2.1 k a b c, h.1 k a b c], fun q a b c d e f => by rw [h2.2 q a b c d e f, h.2 q a b c d e f]⟩
theorem KC.two {μ m : gMem} (h : KC μ m) : KC2 μ m := ⟨h.1, fun q a _ _ _ _ _ => h.2 q a⟩
theorem KC2.st10 (μ : gMem) (k : Nat) (v : Int32) : KC2 μ (st μ 10 k v) := ⟨fun _ _ _ _ => by rw [st_ne (by decide)], fun q _ b _ _ _ _ => st_ne b⟩
theorem KC2.S (m : gMem) (c j : Nat) (x y : Int32) : KC2 m (tx_S m c j x y) := ⟨fun _ _ _ _ => by rw [tx_So _ _ _ _ _ (by decide) (by decide) (by decide) (by decide)], fun q _ _ c d e f => tx_So _ _ _ _ _ c d e f⟩
def KM2 (ν m : gMem) : Prop := (∀ k, k ≠ 5 → k ≠ 6 → k ≠ 7 → k ≠ 8 → k ≠ 10 → k ≠ 11 → m 140 k = ν 140 k) ∧ ∀ q, q ≠ 140 → q ≠ 144 → m q = ν q
theorem KM2.rf (ν : gMem) : KM2 ν ν := ⟨fun _ _ _ _ _ _ _ => rfl, fun _ _ _ => rfl⟩
theorem KM2.tr {μ m n : gMem} (h : KM2 μ m) (h2 : KM2 m n) : KM2 μ n := ⟨fun k a b c d e f => by rw [h2.1 k a b c d e f, h.1 k a b c d e f], fun q a b => by rw [h2.2 q a b, h.2 q a b]⟩
theorem KM.two {μ m : gMem} (h : KM μ m) : KM2 μ m := ⟨fun k a b c d _ _ => h.1 k a b c d, fun q a _ => h.2 q a⟩
theorem KM2.st144 (ν : gMem) (k : Nat) (v : Int32) : KM2 ν (st ν 144 k v) := ⟨fun _ _ _ _ _ _ _ => by rw [st_ne (by decide)], fun q _ b => st_ne b⟩
theorem KM2.st140 (ν : gMem) (k : Nat) (v : Int32) (h : k = 5 ∨ k = 10 ∨ k = 11) : KM2 ν (st ν 140 k v) := ⟨fun i _ _ _ _ _ _ => by rw [st_same, if_neg (by omega)], fun q a _ => st_ne a⟩
def TOK (n : Nat) (R : Nat → Int32) : Prop := n ≤ 5 ∧ (∀ s, s < n → sok (mS R s)) ∧ (∃ k : Nat, 1 ≤ k ∧ k ≤ 99 ∧ R 0 = nI k) ∧ (∃ k : Nat, k ≤ 9 ∧ R 1 = nI k) ∧ (R 4 = 0 ∨ R 4 = 1 ∨ R 4 = 2 ∨ R 4 = 3) ∧ ∃ k : Nat, k ≤ 9 ∧ R 5 = nI k
/-- what a clause does to what is told: how many sisters, the row -/
def hP (d k x y : Int32) (n : Nat) (R : Nat → Int32) : Nat × (Nat → Int32) :=
  if d = 0 then (0, upd (upd (upd (upd (upd (upd R 0 50) 1 2) 2 (-1)) 3 (-1)) 4 0) 5 3)
  else if d = 1 then (n + 1, upd (upd (upd (upd (upd R (6 + 5 * n) k) (6 + 5 * n + 1) x) (6 + 5 * n + 2) y) (6 + 5 * n + 3) (R 4)) (6 + 5 * n + 4) (R 5))
  else if d = 2 then (n, upd (upd R 4 k) 5 x)
  else if d = 3 then (n, upd R 0 x)
  else if d = 4 then (n, upd R 1 x)
  else if d = 5 then (n, upd (upd R 2 x) 3 y)
  else (n, upd (upd R 2 (-1)) 3 (-1))
theorem upd_ne {f : Nat → Int32} {k i : Nat} {v : Int32} (h : i ≠ k) : upd f k v i = f i := by unfold upd; rw [if_neg h]
theorem upd_eq {f : Nat → Int32} {k : Nat} {v : Int32} : upd f k v k = v := by unfold upd; rw [if_pos rfl]
theorem mS_upd {R : Nat → Int32} {k s : Nat} {v : Int32} (h : k < 6 + 5 * s ∨ 6 + 5 * s + 4 < k) : mS (upd R k v) s = mS R s := by
  unfold mS
  rw [upd_ne (by omega), upd_ne (by omega), upd_ne (by omega), upd_ne (by omega), upd_ne (by omega)]
theorem TOK.low {n : Nat} {R : Nat → Int32} (h : TOK n R) (i : Nat) (v : Int32) (hi : i = 0 ∨ i = 1 ∨ i = 2 ∨ i = 3 ∨ i = 4 ∨ i = 5) (h0 : i = 0 → ∃ k : Nat, 1 ≤ k ∧ k ≤ 99 ∧ v = nI k) (h1 : i = 1 ∨ i = 5 → ∃ k : Nat, k ≤ 9 ∧ v = nI k) (h4 : i = 4 → v = 0 ∨ v = 1 ∨ v = 2 ∨ v = 3) : TOK n (upd R i v) := by
  have hi6 : i < 6 := by rcases hi with rfl | rfl | rfl | rfl | rfl | rfl <;> decide
  obtain ⟨a1, a2, a3, a4, a5, a6⟩ := h
  refine ⟨a1, fun s hs => by rw [mS_upd (Or.inl (Nat.lt_of_lt_of_le hi6 (Nat.le_add_right 6 _)))]; exact a2 s hs, ?_, ?_, ?_, ?_⟩
  · by_cases q : i = 0
    · subst q; rw [upd_eq]; exact h0 rfl
    · rw [upd_ne (Ne.symm q)]; exact a3
  · by_cases q : i = 1
    · subst q; rw [upd_eq]; exact h1 (Or.inl rfl)
    · rw [upd_ne (Ne.symm q)]; exact a4
  · by_cases q : i = 4
    · subst q; rw [upd_eq]; exact h4 rfl
    · rw [upd_ne (Ne.symm q)]; exact a5
  · by_cases q : i = 5
    · subst q; rw [upd_eq]; exact h1 (Or.inr rfl)
    · rw [upd_ne (Ne.symm q)]; exact a6
theorem TOK.sis {n : Nat} {R : Nat → Int32} (h : TOK n R) (hn : n < 5) {k : Int32} {x y : Nat} (hk : k = 0 ∨ k = 1 ∨ k = 2) (hx : 1 ≤ x ∧ x ≤ 6) (hy : y ≤ 40) : TOK (n + 1) (upd (upd (upd (upd (upd R (6 + 5 * n) k) (6 + 5 * n + 1) (nI x)) (6 + 5 * n + 2) (nI y)) (6 + 5 * n + 3) (R 4)) (6 + 5 * n + 4) (R 5)) := by
  obtain ⟨a1, a2, a3, a4, a5, a6⟩ := h
  have low : ∀ i, i < 6 → (upd (upd (upd (upd (upd R (6 + 5 * n) k) (6 + 5 * n + 1) (nI x)) (6 + 5 * n + 2) (nI y)) (6 + 5 * n + 3) (R 4)) (6 + 5 * n + 4) (R 5)) i = R i := fun i hi => by
    rw [upd_ne (by omega), upd_ne (by omega), upd_ne (by omega), upd_ne (by omega), upd_ne (by omega)]
  refine ⟨by omega, fun s hs => ?_, by rw [low 0 (by omega)]; exact a3, by rw [low 1 (by omega)]; exact a4, by rw [low 4 (by omega)]; exact a5, by rw [low 5 (by omega)]; exact a6⟩
  by_cases hsn : s = n
  · subst hsn
    have e : mS (upd (upd (upd (upd (upd R (6 + 5 * s) k) (6 + 5 * s + 1) (nI x)) (6 + 5 * s + 2) (nI y)) (6 + 5 * s + 3) (R 4)) (6 + 5 * s + 4) (R 5)) s = (k, nI x, nI y, R 4, R 5) := by
      unfold mS
      simp only [upd_eq, upd_ne (show 6 + 5 * s ≠ 6 + 5 * s + 4 by omega), upd_ne (show 6 + 5 * s ≠ 6 + 5 * s + 3 by omega), upd_ne (show 6 + 5 * s ≠ 6 + 5 * s + 2 by omega), upd_ne (show 6 + 5 * s ≠ 6 + 5 * s + 1 by omega), upd_ne (show 6 + 5 * s + 1 ≠ 6 + 5 * s + 4 by omega), upd_ne (show 6 + 5 * s + 1 ≠ 6 + 5 * s + 3 by omega), upd_ne (show 6 + 5 * s + 1 ≠ 6 + 5 * s + 2 by omega), upd_ne (show 6 + 5 * s + 2 ≠ 6 + 5 * s + 4 by omega), upd_ne (show 6 + 5 * s + 2 ≠ 6 + 5 * s + 3 by omega), upd_ne (show 6 + 5 * s + 3 ≠ 6 + 5 * s + 4 by omega)]
    rw [e]
    exact ⟨hk, ⟨x, hx.1, hx.2, rfl⟩, ⟨y, hy, rfl⟩, a5, a6⟩
  · rw [mS_upd (by omega), mS_upd (by omega), mS_upd (by omega), mS_upd (by omega), mS_upd (by omega)]
    exact a2 s (by omega)

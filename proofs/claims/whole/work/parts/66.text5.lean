/-! a clause's word, by both -/
def cC (j : Nat) (μ : gMem) : Option (Int32 × gMem) := (f_X0_countSisters j μ).bind (fun p9 =>
  if p9.1 = 0 then
  (some ((0 : Int32), p9.2))
else
  (l_X0_readClause_32 j gF (0 : Int32) (0 : Int32) (0 : Int32) p9.2))
def mC (x3 : Int32) (ν : gMem) : Option (Int32 × gMem) :=
  if 0 ≤ x3 then
  (if (3 : Int32) ≤ x3 then
  (if (7 : Int32) ≤ x3 then
  (if x3 = (7 : Int32) then
  ((f_X11_asAtFirst 144 ν).bind (fun m34 =>
  lt (st m34 140 10 (0 : Int32)) (fun m35 =>
  some ((1 : Int32), m35))))
else
  (if x3 = (8 : Int32) then
  ((f_X11_takes (0 : Int32) (1 : Int32) (99 : Int32) ν).bind (fun p31 =>
  some (p31.1, p31.2)))
else
  (if x3 = (9 : Int32) then
  ((f_X11_takes (1 : Int32) (0 : Int32) (9 : Int32) ν).bind (fun p28 =>
  some (p28.1, p28.2)))
else
  (if x3 = (10 : Int32) then
  ((f_X11_takes (2 : Int32) (0 : Int32) (99 : Int32) ν).bind (fun p17 =>
  if p17.1 = 0 then
  (some ((0 : Int32), p17.2))
else
  ((f_X11_takes (3 : Int32) (p17.2 144 (2 : Int32).toNatClampNeg) (99 : Int32) p17.2).bind (fun p21 =>
  lt (if p21.1 = 0 then (0 : Int32) else (1 : Int32)) (fun x23 =>
  some (x23, p21.2))))))
else
  (lt (st ν 144 (2 : Int32).toNatClampNeg (-1 : Int32)) (fun m12 =>
  lt (st m12 144 (3 : Int32).toNatClampNeg (-1 : Int32)) (fun m14 =>
  some ((1 : Int32), m14))))))))
else
  (lt (st ν 144 (4 : Int32).toNatClampNeg (x3 - (3 : Int32))) (fun m37 =>
  (f_X11_takes (5 : Int32) (0 : Int32) (9 : Int32) m37).bind (fun p40 =>
  some (p40.1, p40.2)))))
else
  ((f_X11_readSister x3 ν).bind (fun p43 =>
  some (p43.1, p43.2))))
else
  (some ((0 : Int32), ν))
theorem mC_of (ν : gMem) : f_X11_readClause ν = (f_X11_verb ν).bind (fun p => mC p.1 p.2) := rfl
theorem ob_id {α β : Type} (o : Option (α × β)) : (o.bind fun p => some (p.1, p.2)) = o := by cases o <;> rfl
def CI (T : Nat → Int32) (t a c n e : Nat) (μ ν : gMem) : Prop := (CX μ T t ∧ MX ν T t) ∧ (a ≤ t ∧ μ 8 4 = nI a ∧ ν 140 5 = nI a) ∧ (e ≤ 160 ∧ μ 8 3 = nI e ∧ ν 140 8 = nI e) ∧ (c < 14 ∧ μ 10 5 = nI c ∧ ν 140 11 = nI c) ∧ (μ 10 6 = nI n ∧ ν 140 10 = nI n) ∧ TOK n (ν 144)
def CRes (t c n : Nat) (μ ν : gMem) (A B : Option (Int32 × gMem)) : Prop := ∃ (r : Int32) (μ' ν' : gMem), A = some (r, μ') ∧ B = some (r, ν') ∧ KC2 μ μ' ∧ KM2 ν ν' ∧ ((r = 0 ∧ ∃ e : Nat, e ≤ 160 ∧ μ' 8 3 = nI e ∧ ν' 140 8 = nI e) ∨ (r = 1 ∧ μ' 10 5 = nI c ∧ ν' 140 11 = nI c ∧ ∃ a' n' j x y : Nat, (a' ≤ t ∧ μ' 8 4 = nI a' ∧ ν' 140 5 = nI a') ∧ j < 12 ∧ (μ' 12 = upd (μ 12) c (gDeed.getD j 0) ∧ μ' 13 = upd (μ 13) c (gKind.getD j 0) ∧ μ' 14 = upd (μ 14) c (nI x) ∧ μ' 15 = upd (μ 15) c (nI y)) ∧ (μ' 10 6 = nI n' ∧ ν' 140 10 = nI n') ∧ (n', ν' 144) = hP (gDeed.getD j 0) (gKind.getD j 0) (nI x) (nI y) n (ν 144) ∧ TOK n' (ν' 144)))
theorem CRes.bad {t c n e : Nat} {μ ν μ' ν' : gMem} {A B : Option (Int32 × gMem)} (hA : A = some (0, μ')) (hB : B = some (0, ν')) (k1 : KC2 μ μ') (k2 : KM2 ν ν') (he : e ≤ 160) (h3 : μ' 8 3 = nI e) (h8 : ν' 140 8 = nI e) : CRes t c n μ ν A B := ⟨0, μ', ν', hA, hB, k1, k2, Or.inl ⟨rfl, e, he, h3, h8⟩⟩
def KB (μ m : gMem) : Prop := (∀ k, k ≠ 2 → k ≠ 3 → k ≠ 4 → m 8 k = μ 8 k) ∧ m 10 5 = μ 10 5 ∧ ∀ q, q ≠ 8 → q ≠ 10 → m q = μ q
theorem KB.of {μ m : gMem} (h : KC μ m) : KB μ m := ⟨h.1, by rw [h.2 10 (by decide)], fun q a _ => h.2 q a⟩
theorem KB.tr {μ m n : gMem} (h : KB μ m) (h2 : KB m n) : KB μ n := ⟨fun k a b c => by rw [h2.1 k a b c, h.1 k a b c], by rw [h2.2.1, h.2.1], fun q a b => by rw [h2.2.2 q a b, h.2.2 q a b]⟩
theorem KB.st6 (μ : gMem) (v : Int32) : KB μ (st μ 10 6 v) := ⟨fun _ _ _ _ => by rw [st_ne (by decide)], by rw [st_same, if_neg (by decide)], fun q _ b => st_ne b⟩
theorem KB.two {μ m : gMem} (h : KB μ m) : KC2 μ m := ⟨h.1, fun q a b _ _ _ _ => h.2.2 q a b⟩
theorem CRes.good {t c n : Nat} {μ ν m1 ν' : gMem} {A B : Option (Int32 × gMem)} {j x y n' a' : Nat} (hA : A = some (1, tx_S m1 c j (nI x) (nI y))) (hB : B = some (1, ν')) (k1 : KB μ m1) (k2 : KM2 ν ν') (hj : j < 12) (ha : a' ≤ t) (h4 : m1 8 4 = nI a') (m5 : ν' 140 5 = nI a') (h5 : μ 10 5 = nI c) (h11 : ν' 140 11 = nI c) (h6 : m1 10 6 = nI n') (h10 : ν' 140 10 = nI n') (hh : (n', ν' 144) = hP (gDeed.getD j 0) (gKind.getD j 0) (nI x) (nI y) n (ν 144)) (hT : TOK n' (ν' 144)) : CRes t c n μ ν A B := by
  refine ⟨1, _, ν', hA, hB, k1.two.tr (KC2.S _ _ _ _ _), k2, Or.inr ⟨rfl, ?_, h11, a', n', j, x, y, ⟨ha, ?_, m5⟩, hj, ⟨?_, ?_, ?_, ?_⟩, ⟨?_, h10⟩, hh, hT⟩⟩
  · rw [tx_So _ _ _ _ _ (by decide) (by decide) (by decide) (by decide), k1.2.1]; exact h5
  · rw [tx_So _ _ _ _ _ (by decide) (by decide) (by decide) (by decide)]; exact h4
  · rw [tx_S12, k1.2.2 12 (by decide) (by decide)]
  · rw [tx_S13, k1.2.2 13 (by decide) (by decide)]
  · rw [tx_S14, k1.2.2 14 (by decide) (by decide)]
  · rw [tx_S15, k1.2.2 15 (by decide) (by decide)]
  · rw [tx_So _ _ _ _ _ (by decide) (by decide) (by decide) (by decide)]; exact h6
theorem m_takes {ν : gMem} {T : Nat → Int32} {t a : Nat} (h : MX ν T t) (ha : a ≤ t) (h5 : ν 140 5 = nI a) (i lo hi : Nat) (hi31 : i < 31) (hlo : lo ≤ 99) (hhi : hi ≤ 99) : ∃ ν', KM ν ν' ∧ ν' 140 8 = nI (tkB T t a) ∧ ν' 140 5 = nI (tkE T t a) ∧ ((RdN T t a lo hi = none ∧ f_X11_takes (nI i) (nI lo) (nI hi) ν = some (0, st ν' 144 i (ν' 144 i))) ∨ ∃ v, RdN T t a lo hi = some v ∧ f_X11_takes (nI i) (nI lo) (nI hi) ν = some (1, st ν' 144 i (nI v))) := by
  obtain ⟨ν', p1, p2, p3, p4⟩ := m_number h ha h5 lo hi hlo hhi
  refine ⟨ν', p4, p2, p3, ?_⟩
  have i1 : inb (nI i) 31 = true := inb5 hi31 (by decide)
  have i2 : (nI i).toNatClampNeg = i := cl5 (by omega)
  rcases NV_rd (T := T) ha lo hi hlo hhi with ⟨e1, -⟩ | ⟨v, e1, e2, e3, -, -⟩
  · refine Or.inl ⟨e1, ?_⟩
    unfold f_X11_takes
    rw [p1, e1]
    simp only [Option.bind_some, lt, rO, i1, i2, if_true, if_neg (show ¬ (0 : Int32) ≤ -1 by decide), if_pos (show (-1 : Int32) < 0 by decide)]
  · refine Or.inr ⟨v, e1, ?_⟩
    unfold f_X11_takes
    rw [p1, e1]
    simp only [Option.bind_some, lt, rO, i1, i2, if_true, if_pos (show (0 : Int32) ≤ nI v from nI_pos' (by omega)), if_neg (show ¬ nI v < 0 from nI_pos (by omega))]
theorem cs_oth {μ : gMem} {n : Nat} (h6 : μ 10 6 = nI n) (hn : n ≤ 5) (j : Nat) (hd0 : ¬ gDeed.getD j 0 = 0) (hd1 : ¬ gDeed.getD j 0 = 1) : f_X0_countSisters j μ = some (1, μ) := by
  unfold f_X0_countSisters
  rw [if_neg hd0, if_neg hd1, h6]
  simp only [lt, if_neg (show ¬ (5 : Int32) < nI n from nI_nlt (b := n) (a := 5) hn (by decide))]
theorem cC_oth {μ : gMem} {n : Nat} (h6 : μ 10 6 = nI n) (hn : n ≤ 5) (j : Nat) (hd0 : ¬ gDeed.getD j 0 = 0) (hd1 : ¬ gDeed.getD j 0 = 1) : cC j μ = l_X0_readClause_32 j gF 0 0 0 μ := by
  unfold cC
  rw [cs_oth h6 hn j hd0 hd1]
  simp only [Option.bind_some, if_neg (show ¬ (1 : Int32) = 0 by decide)]
theorem MX.of {ν ν0 : gMem} {T : Nat → Int32} {t : Nat} (h : MX ν T t) (h0 : ν0 140 4 = ν 140 4) (h3 : ν0 143 = ν 143) : MX ν0 T t := ⟨h.1, by rw [h0]; exact h.2.1, fun i hi => by rw [h3]; exact h.2.2 i hi⟩
theorem CX.of {μ m : gMem} {T : Nat → Int32} {t : Nat} (h : CX μ T t) (h0 : m 8 1 = μ 8 1) (h3 : m 9 = μ 9) : CX m T t := ⟨h.1, by rw [h0]; exact h.2.1, fun i hi => by rw [h3]; exact h.2.2 i hi⟩
theorem cl_one {T : Nat → Int32} {t a c n e : Nat} {μ ν : gMem} (h : CI T t a c n e μ ν) (j : Nat) (hj : j < 12) (hk : tx_k j = 1) (hd0 : ¬ gDeed.getD j 0 = 0) (hd1 : ¬ gDeed.getD j 0 = 1) (i : Nat) (hi : i < 31) (ν0 : gMem) (k0 : KM2 ν ν0) (h0 : ν0 140 = ν 140) (hν : mC (nI (vjN j)) ν = f_X11_takes (nI i) (nI (tx_lo j 0 0)) (nI (tx_hi j 0)) ν0) (hH : ∀ v, tx_lo j 0 0 ≤ v → v ≤ tx_hi j 0 → (n, upd (ν0 144) i (nI v)) = hP (gDeed.getD j 0) (gKind.getD j 0) (nI v) (nI 0) n (ν 144) ∧ TOK n (upd (ν0 144) i (nI v))) : CRes t c n μ ν (cC j μ) (mC (nI (vjN j)) ν) := by
  obtain ⟨⟨hc, hm⟩, ⟨ha, c4, m5⟩, ⟨he, c3, m8⟩, ⟨hc14, h5, h11⟩, ⟨h6, h10⟩, hT⟩ := h
  rw [cC_oth h6 hT.1 j hd0 hd1, hν]
  have tk := tk_facts (T := T) ha
  have ht := hc.1
  obtain ⟨m1, p1, p2, p3, p4⟩ := c_loop1 hc ha c4 h5 hc14 j hj hk
  obtain ⟨ν1, q1, q2, q3, q4⟩ := m_takes (hm.of (by rw [h0]) (k0.2 143 (by decide) (by decide))) ha (by rw [h0]; exact m5) i (tx_lo j 0 0) (tx_hi j 0) hi (tx_lo99 hj (by omega)) (tx_hi99 hj)
  have kk : ∀ v, KM2 ν (st ν1 144 i v) := fun v => k0.tr (q1.two.tr (KM2.st144 _ _ _))
  have e140 : ∀ v, st ν1 144 i v 140 = ν1 140 := fun v => st_ne (by decide)
  rcases p4 with ⟨e1, e2⟩ | ⟨v, e1, e2, e3, e4⟩
  · rcases q4 with ⟨g1, g2⟩ | ⟨w, g1, g2⟩
    · exact CRes.bad (e := tkB T t a) e2 g2 p1.two (kk _) (by omega) p3 (by rw [e140]; exact q2)
    · rw [e1] at g1; cases g1
  · rcases q4 with ⟨g1, g2⟩ | ⟨w, g1, g2⟩
    · rw [e1] at g1; cases g1
    · rw [e1] at g1
      cases g1
      obtain ⟨x1, x2⟩ := hH v e2 e3
      have e144 : st ν1 144 i (nI v) 144 = upd (ν0 144) i (nI v) := by rw [st_eq, q1.2 144 (by decide)]
      exact CRes.good (y := 0) e4 g2 (KB.of p1) (kk _) hj tk.2.2 p2 (by rw [e140]; exact q3) h5 (by rw [e140, q1.1 11 (by decide) (by decide) (by decide) (by decide), h0]; exact h11) (by rw [p1.2 10 (by decide)]; exact h6) (by rw [e140, q1.1 10 (by decide) (by decide) (by decide) (by decide), h0]; exact h10) (by rw [e144]; exact x1) (by rw [e144]; exact x2)
theorem cl_tub {T : Nat → Int32} {t a c n e : Nat} {μ ν : gMem} (h : CI T t a c n e μ ν) : CRes t c n μ ν (cC 8 μ) (mC (nI (vjN 8)) ν) := by
  refine cl_one h 8 (by decide) rfl (by decide) (by decide) 0 (by decide) ν (KM2.rf ν) rfl ?_ (fun v h1 h2 => ⟨rfl, ?_⟩)
  · show mC 8 ν = f_X11_takes 0 1 99 ν
    unfold mC
    rw [if_pos (by decide), if_pos (by decide), if_pos (by decide), if_neg (by decide), if_pos (by decide), ob_id]
  · exact h.2.2.2.2.2.low 0 _ (by omega) (fun _ => ⟨v, h1, h2, rfl⟩) (fun z => by omega) (fun z => by omega)
theorem cl_hole {T : Nat → Int32} {t a c n e : Nat} {μ ν : gMem} (h : CI T t a c n e μ ν) : CRes t c n μ ν (cC 9 μ) (mC (nI (vjN 9)) ν) := by
  refine cl_one h 9 (by decide) rfl (by decide) (by decide) 1 (by decide) ν (KM2.rf ν) rfl ?_ (fun v h1 h2 => ⟨rfl, ?_⟩)
  · show mC 9 ν = f_X11_takes 1 0 9 ν
    unfold mC
    rw [if_pos (by decide), if_pos (by decide), if_pos (by decide), if_neg (by decide), if_neg (by decide), if_pos (by decide), ob_id]
  · exact h.2.2.2.2.2.low 1 _ (by omega) (fun z => by omega) (fun _ => ⟨v, h2, rfl⟩) (fun z => by omega)
theorem cl_siv {T : Nat → Int32} {t a c n e : Nat} {μ ν : gMem} (h : CI T t a c n e μ ν) (j : Nat) (hj : j = 4 ∨ j = 5 ∨ j = 6 ∨ j = 7) : CRes t c n μ ν (cC j μ) (mC (nI (vjN j)) ν) := by
  have key : mC (nI (vjN j)) ν = f_X11_takes 5 0 9 (st ν 144 4 (gKind.getD j 0)) := by
    unfold mC
    rcases hj with rfl | rfl | rfl | rfl
    · rw [if_pos (by decide), if_pos (by decide), if_neg (by decide)]
      simp only [lt, ob_id]
      rfl
    · rw [if_pos (by decide), if_pos (by decide), if_neg (by decide)]
      simp only [lt, ob_id]
      rfl
    · rw [if_pos (by decide), if_pos (by decide), if_neg (by decide)]
      simp only [lt, ob_id]
      rfl
    · rw [if_pos (by decide), if_pos (by decide), if_neg (by decide)]
      simp only [lt, ob_id]
      rfl
  have hd : gDeed.getD j 0 = 2 := by rcases hj with rfl | rfl | rfl | rfl <;> rfl
  have hl : tx_lo j 0 0 = 0 := by rcases hj with rfl | rfl | rfl | rfl <;> rfl
  have hh : tx_hi j 0 = 9 := by rcases hj with rfl | rfl | rfl | rfl <;> rfl
  have hkd : gKind.getD j 0 = 0 ∨ gKind.getD j 0 = 1 ∨ gKind.getD j 0 = 2 ∨ gKind.getD j 0 = 3 := by rcases hj with rfl | rfl | rfl | rfl <;> decide
  refine cl_one h j (by omega) (by rcases hj with rfl | rfl | rfl | rfl <;> rfl) (by rw [hd]; decide) (by rw [hd]; decide) 5 (by decide) (st ν 144 4 (gKind.getD j 0)) (KM2.st144 _ _ _) (st_ne (by decide)) ?_ (fun v h1 h2 => ⟨?_, ?_⟩)
  · rw [key, hl, hh]; rfl
  · rw [st_eq, hd]; rfl
  · rw [st_eq]
    rw [hh] at h2
    exact (h.2.2.2.2.2.low 4 _ (by omega) (fun z => by omega) (fun z => by omega) (fun _ => hkd)).low 5 _ (by omega) (fun z => by omega) (fun _ => ⟨v, h2, rfl⟩) (fun z => by omega)
theorem cl_frost {T : Nat → Int32} {t a c n e : Nat} {μ ν : gMem} (h : CI T t a c n e μ ν) : CRes t c n μ ν (cC 10 μ) (mC (nI (vjN 10)) ν) := by
  obtain ⟨⟨hc, hm⟩, ⟨ha, c4, m5⟩, ⟨he, c3, m8⟩, ⟨hc14, h5, h11⟩, ⟨h6, h10⟩, hT⟩ := h
  have key : mC (nI (vjN 10)) ν = (f_X11_takes (nI 2) (nI 0) (nI 99) ν).bind (fun p17 => if p17.1 = 0 then (some ((0 : Int32), p17.2)) else ((f_X11_takes (nI 3) (p17.2 144 2) (nI 99) p17.2).bind (fun p21 => some ((if p21.1 = 0 then (0 : Int32) else (1 : Int32)), p21.2)))) := by
    show mC 10 ν = _
    unfold mC
    rw [if_pos (by decide), if_pos (by decide), if_pos (by decide), if_neg (by decide), if_neg (by decide), if_neg (by decide), if_pos (by decide)]
    rfl
  rw [cC_oth h6 hT.1 10 (by decide) (by decide), key]
  have tk := tk_facts (T := T) ha
  have tk2 := tk_facts (T := T) tk.2.2
  have ht := hc.1
  obtain ⟨m1, p1, p2, p3, p4⟩ := c_loop2 hc ha c4 h5 hc14 10 (by decide) rfl
  obtain ⟨ν1, q1, q2, q3, q4⟩ := m_takes hm ha m5 2 0 99 (by decide) (by decide) (by decide)
  have kk : ∀ v, KM2 ν (st ν1 144 2 v) := fun v => q1.two.tr (KM2.st144 _ _ _)
  have e140 : ∀ v, st ν1 144 2 v 140 = ν1 140 := fun v => st_ne (by decide)
  rcases p4 with ⟨e1, e2⟩ | ⟨v, e1, e2, e3, m2, r1, r2, r3, r4⟩
  · rcases q4 with ⟨g1, g2⟩ | ⟨w, g1, g2⟩
    · rw [g2]
      simp only [Option.bind_some, if_true]
      exact CRes.bad (e := tkB T t a) e2 rfl p1.two (kk _) (by omega) p3 (by rw [e140]; exact q2)
    · rw [show RdN T t a 0 99 = none from e1] at g1; cases g1
  · have e1' : RdN T t a 0 99 = some v := e1
    have e3' : v ≤ 99 := e3
    rcases q4 with ⟨g1, g2⟩ | ⟨w, g1, g2⟩
    · rw [e1'] at g1; cases g1
    · rw [e1'] at g1
      cases g1
      rw [g2]
      simp only [Option.bind_some, if_neg (show ¬ (1 : Int32) = 0 by decide)]
      have e144 : st ν1 144 2 (nI v) 144 = upd (ν 144) 2 (nI v) := by rw [st_eq, q1.2 144 (by decide)]
      have e2' : st ν1 144 2 (nI v) 144 2 = nI v := by rw [st_same, if_pos rfl]
      rw [e2']
      obtain ⟨ν2, s1, s2, s3, s4⟩ := m_takes (ν := st ν1 144 2 (nI v)) (T := T) (t := t) ((hm.km q1).of (by rw [e140]) (st_ne (by decide))) tk.2.2 (by rw [e140]; exact q3) 3 v 99 (by decide) (by omega) (by decide)
      have kk2 : ∀ w, KM2 ν (st ν2 144 3 w) := fun w => (kk _).tr (s1.two.tr (KM2.st144 _ _ _))
      have f140 : ∀ w, st ν2 144 3 w 140 = ν2 140 := fun w => st_ne (by decide)
      rcases r4 with ⟨x1, x2⟩ | ⟨w, x1, x2, x3, x4⟩
      · have x1' : RdN T t (tkE T t a) v 99 = none := x1
        rcases s4 with ⟨g1, g2⟩ | ⟨w, g1, g2⟩
        · rw [g2]
          simp only [Option.bind_some, if_true]
          exact CRes.bad (e := tkB T t (tkE T t a)) x2 rfl (p1.tr r1).two (kk2 _) (by omega) r3 (by rw [f140]; exact s2)
        · rw [x1'] at g1; cases g1
      · have x1' : RdN T t (tkE T t a) v 99 = some w := x1
        rcases s4 with ⟨g1, g2⟩ | ⟨z, g1, g2⟩
        · rw [x1'] at g1; cases g1
        · rw [x1'] at g1
          cases g1
          rw [g2]
          simp only [Option.bind_some, if_neg (show ¬ (1 : Int32) = 0 by decide)]
          have f144 : st ν2 144 3 (nI w) 144 = upd (upd (ν 144) 2 (nI v)) 3 (nI w) := by rw [st_eq, s1.2 144 (by decide), e144]
          have g11 : ∀ k, k ≠ 5 → k ≠ 6 → k ≠ 7 → k ≠ 8 → ν2 140 k = ν 140 k := fun k a b c d => by rw [s1.1 k a b c d, e140, q1.1 k a b c d]
          exact CRes.good x4 rfl ((KB.of p1).tr (KB.of r1)) (kk2 _) (by decide) tk2.2.2 r2 (by rw [f140]; exact s3) h5 (by rw [f140, g11 11 (by decide) (by decide) (by decide) (by decide)]; exact h11) (by rw [r1.2 10 (by decide), p1.2 10 (by decide)]; exact h6) (by rw [f140, g11 10 (by decide) (by decide) (by decide) (by decide)]; exact h10) (by rw [f144]; rfl) (by rw [f144]; exact (hT.low 2 _ (by omega) (fun z => by omega) (fun z => by omega) (fun z => by omega)).low 3 _ (by omega) (fun z => by omega) (fun z => by omega) (fun z => by omega))
theorem cl_thaw {T : Nat → Int32} {t a c n e : Nat} {μ ν : gMem} (h : CI T t a c n e μ ν) : CRes t c n μ ν (cC 11 μ) (mC (nI (vjN 11)) ν) := by
  obtain ⟨⟨hc, hm⟩, ⟨ha, c4, m5⟩, ⟨he, c3, m8⟩, ⟨hc14, h5, h11⟩, ⟨h6, h10⟩, hT⟩ := h
  have key : mC (nI (vjN 11)) ν = some (1, st (st ν 144 2 (-1)) 144 3 (-1)) := by
    show mC 11 ν = _
    unfold mC
    rw [if_pos (by decide), if_pos (by decide), if_pos (by decide), if_neg (by decide), if_neg (by decide), if_neg (by decide), if_neg (by decide)]
    rfl
  rw [cC_oth h6 hT.1 11 (by decide) (by decide), key]
  have f140 : st (st ν 144 2 (-1)) 144 3 (-1) 140 = ν 140 := by rw [st_ne (by decide), st_ne (by decide)]
  have f144 : st (st ν 144 2 (-1)) 144 3 (-1) 144 = upd (upd (ν 144) 2 (-1)) 3 (-1) := by rw [st_eq, st_eq]
  exact CRes.good (x := 0) (y := 0) (c_loop0 h5 hc14 11 (by decide) rfl) rfl (KB.of (KC.rf μ)) ((KM2.st144 _ _ _).tr (KM2.st144 _ _ _)) (by decide) ha c4 (by rw [f140]; exact m5) h5 (by rw [f140]; exact h11) h6 (by rw [f140]; exact h10) (by rw [f144]; rfl) (by rw [f144]; exact (hT.low 2 _ (by omega) (fun z => by omega) (fun z => by omega) (fun z => by omega)).low 3 _ (by omega) (fun z => by omega) (fun z => by omega) (fun z => by omega))
theorem tok_first (R : Nat → Int32) : TOK 0 (upd (upd (upd (upd (upd (upd R 0 50) 1 2) 2 (-1)) 3 (-1)) 4 0) 5 3) := by
  refine ⟨by omega, fun s hs => by omega, ⟨50, by omega, by omega, ?_⟩, ⟨2, by omega, ?_⟩, Or.inl ?_, ⟨3, by omega, ?_⟩⟩
  · rw [upd_ne (by decide), upd_ne (by decide), upd_ne (by decide), upd_ne (by decide), upd_ne (by decide), upd_eq]; rfl
  · rw [upd_ne (by decide), upd_ne (by decide), upd_ne (by decide), upd_ne (by decide), upd_eq]; rfl
  · rw [upd_ne (by decide), upd_eq]
  · rw [upd_eq]; rfl
theorem cl_well {T : Nat → Int32} {t a c n e : Nat} {μ ν : gMem} (h : CI T t a c n e μ ν) : CRes t c n μ ν (cC 0 μ) (mC (nI (vjN 0)) ν) := by
  obtain ⟨⟨hc, hm⟩, ⟨ha, c4, m5⟩, ⟨he, c3, m8⟩, ⟨hc14, h5, h11⟩, ⟨h6, h10⟩, hT⟩ := h
  have key : mC (nI (vjN 0)) ν = some (1, st (st (st (st (st (st (st ν 144 0 50) 144 1 2) 144 2 (-1)) 144 3 (-1)) 144 4 0) 144 5 3) 140 10 0) := by
    show mC 7 ν = _
    unfold mC
    rw [if_pos (by decide), if_pos (by decide), if_pos (by decide), if_pos (by decide)]
    rfl
  have kC : cC 0 μ = l_X0_readClause_32 0 gF 0 0 0 (st μ 10 6 0) := by
    unfold cC f_X0_countSisters
    rw [if_pos (by decide)]
    have e : st μ 10 6 0 10 6 = 0 := by rw [st_same, if_pos rfl]
    simp only [lt, Option.bind_some, e, if_neg (show ¬ (5 : Int32) < 0 by decide), if_neg (show ¬ (1 : Int32) = 0 by decide)]
  rw [kC, key]
  have f144 : st (st (st (st (st (st (st ν 144 0 50) 144 1 2) 144 2 (-1)) 144 3 (-1)) 144 4 0) 144 5 3) 140 10 0 144 = upd (upd (upd (upd (upd (upd (ν 144) 0 50) 1 2) 2 (-1)) 3 (-1)) 4 0) 5 3 := by rw [st_ne (by decide), st_eq, st_eq, st_eq, st_eq, st_eq, st_eq]
  have f140 : ∀ k, k ≠ 10 → st (st (st (st (st (st (st ν 144 0 50) 144 1 2) 144 2 (-1)) 144 3 (-1)) 144 4 0) 144 5 3) 140 10 0 140 k = ν 140 k := fun k hk => by rw [st_same, if_neg hk, st_ne (by decide), st_ne (by decide), st_ne (by decide), st_ne (by decide), st_ne (by decide), st_ne (by decide)]
  have k5 : (st μ 10 6 0) 10 5 = nI c := by rw [st_same, if_neg (by decide)]; exact h5
  exact CRes.good (x := 0) (y := 0) (n' := 0) (c_loop0 k5 hc14 0 (by decide) rfl) rfl (KB.st6 _ _) ((((((((KM2.st144 _ _ _).tr (KM2.st144 _ _ _)).tr (KM2.st144 _ _ _)).tr (KM2.st144 _ _ _)).tr (KM2.st144 _ _ _)).tr (KM2.st144 _ _ _)).tr (KM2.st140 _ _ _ (by omega)))) (by decide) ha (by rw [st_ne (by decide)]; exact c4) (by rw [f140 5 (by decide)]; exact m5) h5 (by rw [f140 11 (by decide)]; exact h11) (by rw [st_same, if_pos rfl]; rfl) (by rw [st_same, if_pos rfl]; rfl) (by rw [f144]; rfl) (by rw [f144]; exact tok_first _)

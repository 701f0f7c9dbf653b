/-! a sister's clause; any clause; the whole text -/
theorem m_sput {ν2 : gMem} {n : Nat} (h10 : ν2 140 10 = nI n) (hn : n < 5) (i1 x4 x9 : Int32) :
    (lt ((6 : Int32) + ((5 : Int32) * (ν2 140 10))) (fun x12 =>
  if inb x12 31 = true then
  lt (st ν2 144 x12.toNatClampNeg i1) (fun m14 =>
  if inb (x12 + (1 : Int32)) 31 = true then
  lt (st m14 144 (x12 + (1 : Int32)).toNatClampNeg x4) (fun m17 =>
  if inb (x12 + (2 : Int32)) 31 = true then
  lt (st m17 144 (x12 + (2 : Int32)).toNatClampNeg x9) (fun m20 =>
  if inb (x12 + (3 : Int32)) 31 = true then
  lt (st m20 144 (x12 + (3 : Int32)).toNatClampNeg (m20 144 (4 : Int32).toNatClampNeg)) (fun m23 =>
  if inb (x12 + (4 : Int32)) 31 = true then
  lt (st m23 144 (x12 + (4 : Int32)).toNatClampNeg (m23 144 (5 : Int32).toNatClampNeg)) (fun m26 =>
  lt (st m26 140 10 ((m26 140 10) + (1 : Int32))) (fun m29 =>
  some ((1 : Int32), m29))) else none) else none) else none) else none) else none) : Option (Int32 × gMem))
    = some (1, st (st (st (st (st (st ν2 144 (6 + 5 * n) i1) 144 (6 + 5 * n + 1) x4) 144 (6 + 5 * n + 2) x9) 144 (6 + 5 * n + 3) (ν2 144 4)) 144 (6 + 5 * n + 4) (ν2 144 5)) 140 10 (nI (n + 1))) := by
  have ex : (6 : Int32) + ((5 : Int32) * (ν2 140 10)) = nI (6 + 5 * n) := by rw [h10, show (6 : Int32) = nI 6 from rfl, show (5 : Int32) = nI 5 from rfl, pk_mul, nI_add]
  have y1 : nI (6 + 5 * n) + 1 = nI (6 + 5 * n + 1) := nI_add _ 1
  have y2 : nI (6 + 5 * n) + 2 = nI (6 + 5 * n + 2) := nI_add _ 2
  have y3 : nI (6 + 5 * n) + 3 = nI (6 + 5 * n + 3) := nI_add _ 3
  have y4 : nI (6 + 5 * n) + 4 = nI (6 + 5 * n + 4) := nI_add _ 4
  have b0 : inb (nI (6 + 5 * n)) 31 = true := inb5 (by omega) (by decide)
  have b1 : inb (nI (6 + 5 * n + 1)) 31 = true := inb5 (by omega) (by decide)
  have b2 : inb (nI (6 + 5 * n + 2)) 31 = true := inb5 (by omega) (by decide)
  have b3 : inb (nI (6 + 5 * n + 3)) 31 = true := inb5 (by omega) (by decide)
  have b4 : inb (nI (6 + 5 * n + 4)) 31 = true := inb5 (by omega) (by decide)
  have d0 : (nI (6 + 5 * n)).toNatClampNeg = 6 + 5 * n := cl5 (by omega)
  have d1 : (nI (6 + 5 * n + 1)).toNatClampNeg = 6 + 5 * n + 1 := cl5 (by omega)
  have d2 : (nI (6 + 5 * n + 2)).toNatClampNeg = 6 + 5 * n + 2 := cl5 (by omega)
  have d3 : (nI (6 + 5 * n + 3)).toNatClampNeg = 6 + 5 * n + 3 := cl5 (by omega)
  have d4 : (nI (6 + 5 * n + 4)).toNatClampNeg = 6 + 5 * n + 4 := cl5 (by omega)
  have t4 : (4 : Int32).toNatClampNeg = 4 := rfl
  have t5 : (5 : Int32).toNatClampNeg = 5 := rfl
  have r4 : st (st (st ν2 144 (6 + 5 * n) i1) 144 (6 + 5 * n + 1) x4) 144 (6 + 5 * n + 2) x9 144 4 = ν2 144 4 := by
    rw [st_same, if_neg (by omega), st_same, if_neg (by omega), st_same, if_neg (by omega)]
  have r5 : st (st (st (st ν2 144 (6 + 5 * n) i1) 144 (6 + 5 * n + 1) x4) 144 (6 + 5 * n + 2) x9) 144 (6 + 5 * n + 3) (ν2 144 4) 144 5 = ν2 144 5 := by
    rw [st_same, if_neg (by omega), st_same, if_neg (by omega), st_same, if_neg (by omega), st_same, if_neg (by omega)]
  have r10 : st (st (st (st (st ν2 144 (6 + 5 * n) i1) 144 (6 + 5 * n + 1) x4) 144 (6 + 5 * n + 2) x9) 144 (6 + 5 * n + 3) (ν2 144 4)) 144 (6 + 5 * n + 4) (ν2 144 5) 140 10 = nI n := by
    rw [st_ne (by decide), st_ne (by decide), st_ne (by decide), st_ne (by decide), st_ne (by decide)]; exact h10
  rw [ex]
  simp only [lt, y1, y2, y3, y4, b0, b1, b2, b3, b4, d0, d1, d2, d3, d4, t4, t5, if_true, r4, r5, r10, nI_1]
theorem cl_sis {T : Nat → Int32} {t a c n e : Nat} {μ ν : gMem} (h : CI T t a c n e μ ν) (j : Nat) (hj : j = 1 ∨ j = 2 ∨ j = 3) : CRes t c n μ ν (cC j μ) (mC (nI (vjN j)) ν) := by
  obtain ⟨⟨hc, hm⟩, ⟨ha, c4, m5⟩, ⟨he, c3, m8⟩, ⟨hc14, h5, h11⟩, ⟨h6, h10⟩, hT⟩ := h
  have hn := hT.1
  have hj12 : j < 12 := by omega
  have key : mC (nI (vjN j)) ν = f_X11_readSister (gKind.getD j 0) ν := by
    unfold mC
    rcases hj with rfl | rfl | rfl
    · rw [if_pos (by decide), if_neg (by decide), ob_id]; rfl
    · rw [if_pos (by decide), if_neg (by decide), ob_id]; rfl
    · rw [if_pos (by decide), if_neg (by decide), ob_id]; rfl
  have hd : gDeed.getD j 0 = 1 := by rcases hj with rfl | rfl | rfl <;> rfl
  have l0 : tx_lo j 0 0 = 1 := by rcases hj with rfl | rfl | rfl <;> rfl
  have u0 : tx_hi j 0 = 6 := by rcases hj with rfl | rfl | rfl <;> rfl
  have l1 : ∀ v, tx_lo j 1 v = 1 := fun v => by rcases hj with rfl | rfl | rfl <;> rfl
  have u1 : tx_hi j 1 = 40 := by rcases hj with rfl | rfl | rfl <;> rfl
  have hkk : tx_k j = 2 := by rcases hj with rfl | rfl | rfl <;> rfl
  have hkd : gKind.getD j 0 = 0 ∨ gKind.getD j 0 = 1 ∨ gKind.getD j 0 = 2 := by rcases hj with rfl | rfl | rfl <;> decide
  have e6 : st μ 10 6 (nI (n + 1)) 10 6 = nI (n + 1) := by rw [st_same, if_pos rfl]
  have kC : cC j μ = if n = 5 then some (0, st μ 10 6 (nI (n + 1))) else l_X0_readClause_32 j gF 0 0 0 (st μ 10 6 (nI (n + 1))) := by
    unfold cC f_X0_countSisters
    rw [hd, if_neg (show ¬ (1 : Int32) = 0 by decide), if_pos rfl, h6, nI_1]
    simp only [lt, e6]
    by_cases h5n : n = 5
    · rw [if_pos h5n, if_pos (show (5 : Int32) < nI (n + 1) from nI_lt (a := 5) (by omega) (by omega))]
      simp only [Option.bind_some, if_true]
    · rw [if_neg h5n, if_neg (show ¬ (5 : Int32) < nI (n + 1) from nI_nlt (a := 5) (by omega) (by decide))]
      simp only [Option.bind_some, if_neg (show ¬ (1 : Int32) = 0 by decide)]
  rw [kC, key]
  have ht := hc.1
  unfold f_X11_readSister
  rw [h10]
  by_cases h5n : n = 5
  · rw [if_pos h5n, if_pos (show nI n = 5 by rw [h5n]; rfl)]
    exact CRes.bad (e := e) rfl rfl (KC2.st10 _ _ _) (KM2.rf ν) he (by rw [st_ne (by decide)]; exact c3) m8
  · have hn5 : n < 5 := by omega
    rw [if_neg h5n, if_neg (show ¬ nI n = 5 from fun z => h5n ((nI_eq (b := 5) (by omega) (by decide)).mp z))]
    have tk := tk_facts (T := T) ha
    have tk2 := tk_facts (T := T) tk.2.2
    have k6 := KB.st6 μ (nI (n + 1))
    have hc6 : CX (st μ 10 6 (nI (n + 1))) T t := hc.of (by rw [st_ne (by decide)]) (st_ne (by decide))
    obtain ⟨m1, p1, p2, p3, p4⟩ := c_loop2 hc6 ha (by rw [st_ne (by decide)]; exact c4) (by rw [k6.2.1]; exact h5) hc14 j hj12 hkk
    obtain ⟨ν1, q1, q2, q3, q4⟩ := m_number hm ha m5 1 6 (by decide) (by decide)
    have q1' : f_X11_number 1 6 ν = some (rO (RdN T t a 1 6), ν1) := q1
    rw [q1']
    simp only [Option.bind_some, lt]
    rcases p4 with ⟨e1, e2⟩ | ⟨v, e1, e2, e3, m2, r1, r2, r3, r4⟩
    · rw [l0, u0] at e1
      rw [e1]
      simp only [rO, if_neg (show ¬ (0 : Int32) ≤ -1 by decide)]
      exact CRes.bad (e := tkB T t a) e2 rfl (k6.two.tr p1.two) q4.two (by omega) p3 q2
    · rw [l0, u0] at e1
      rw [l0] at e2
      rw [u0] at e3
      have z1 : rO (some v) = nI v := rfl
      rw [e1, z1, if_pos (show (0 : Int32) ≤ nI v from nI_pos' (by omega))]
      obtain ⟨ν2, s1, s2, s3, s4⟩ := m_number (hm.km q4) tk.2.2 q3 1 40 (by decide) (by decide)
      have s1' : f_X11_number 1 40 ν1 = some (rO (RdN T t (tkE T t a) 1 40), ν2) := s1
      rw [s1']
      simp only [Option.bind_some]
      rcases r4 with ⟨x1, x2⟩ | ⟨w, x1, x2, x3, x4⟩
      · rw [l1, u1] at x1
        have z2 : rO none = -1 := rfl
        rw [x1, z2, if_neg (show ¬ (0 : Int32) ≤ -1 by decide)]
        exact CRes.bad (e := tkB T t (tkE T t a)) x2 rfl (k6.two.tr (p1.tr r1).two) (q4.tr s4).two (by omega) r3 s2
      · rw [l1, u1] at x1
        rw [l1] at x2
        rw [u1] at x3
        have z2 : rO (some w) = nI w := rfl
        rw [x1, z2, if_pos (show (0 : Int32) ≤ nI w from nI_pos' (by omega))]
        have g11 : ∀ k, k ≠ 5 → k ≠ 6 → k ≠ 7 → k ≠ 8 → ν2 140 k = ν 140 k := fun k a b c d => (q4.tr s4).1 k a b c d
        have g10 : ν2 140 10 = nI n := by rw [g11 10 (by decide) (by decide) (by decide) (by decide)]; exact h10
        have sp := m_sput g10 hn5 (gKind.getD j 0) (nI v) (nI w)
        simp only [lt] at sp
        rw [sp]
        have g144 : ν2 144 = ν 144 := (q4.tr s4).2 144 (by decide)
        have f144 : st (st (st (st (st (st ν2 144 (6 + 5 * n) (gKind.getD j 0)) 144 (6 + 5 * n + 1) (nI v)) 144 (6 + 5 * n + 2) (nI w)) 144 (6 + 5 * n + 3) (ν2 144 4)) 144 (6 + 5 * n + 4) (ν2 144 5)) 140 10 (nI (n + 1)) 144 = upd (upd (upd (upd (upd (ν 144) (6 + 5 * n) (gKind.getD j 0)) (6 + 5 * n + 1) (nI v)) (6 + 5 * n + 2) (nI w)) (6 + 5 * n + 3) (ν 144 4)) (6 + 5 * n + 4) (ν 144 5) := by
          rw [st_ne (by decide), st_eq, st_eq, st_eq, st_eq, st_eq, g144]
        have f140 : ∀ k, k ≠ 10 → st (st (st (st (st (st ν2 144 (6 + 5 * n) (gKind.getD j 0)) 144 (6 + 5 * n + 1) (nI v)) 144 (6 + 5 * n + 2) (nI w)) 144 (6 + 5 * n + 3) (ν2 144 4)) 144 (6 + 5 * n + 4) (ν2 144 5)) 140 10 (nI (n + 1)) 140 k = ν2 140 k := fun k hk => by
          rw [st_same, if_neg hk, st_ne (by decide), st_ne (by decide), st_ne (by decide), st_ne (by decide), st_ne (by decide)]
        have hh : hP (gDeed.getD j 0) (gKind.getD j 0) (nI v) (nI w) n (ν 144) = (n + 1, upd (upd (upd (upd (upd (ν 144) (6 + 5 * n) (gKind.getD j 0)) (6 + 5 * n + 1) (nI v)) (6 + 5 * n + 2) (nI w)) (6 + 5 * n + 3) (ν 144 4)) (6 + 5 * n + 4) (ν 144 5)) := by
          unfold hP
          rw [hd, if_neg (by decide), if_pos rfl]
        exact CRes.good x4 rfl (k6.tr (KB.of (p1.tr r1))) ((((((((q4.tr s4).two.tr (KM2.st144 _ _ _)).tr (KM2.st144 _ _ _)).tr (KM2.st144 _ _ _)).tr (KM2.st144 _ _ _)).tr (KM2.st144 _ _ _)).tr (KM2.st140 _ 10 _ (by omega)))) hj12 tk2.2.2 r2 (by rw [f140 5 (by decide)]; exact s3) h5 (by rw [f140 11 (by decide), g11 11 (by decide) (by decide) (by decide) (by decide)]; exact h11) (by rw [(p1.tr r1).2 10 (by decide)]; exact e6) (by rw [st_same, if_pos rfl]) (by rw [f144, hh]) (by rw [f144]; exact hT.sis hn5 hkd ⟨e2, e3⟩ x3)
theorem CRes.fro {t c n : Nat} {μ ν μ1 ν1 : gMem} {A B : Option (Int32 × gMem)} (h : CRes t c n μ1 ν1 A B) (hk : KC μ μ1) (hm : KM ν ν1) : CRes t c n μ ν A B := by
  obtain ⟨r, μ', ν', a, b, k1, k2, d⟩ := h
  refine ⟨r, μ', ν', a, b, hk.two.tr k1, hm.two.tr k2, ?_⟩
  rcases d with d | ⟨d1, d2, d3, a', n', j, x, y, d4, d5, d6, d7, d8, d9⟩
  · exact Or.inl d
  · rw [hk.2 12 (by decide), hk.2 13 (by decide), hk.2 14 (by decide), hk.2 15 (by decide)] at d6
    rw [hm.2 144 (by decide)] at d8
    exact Or.inr ⟨d1, d2, d3, a', n', j, x, y, d4, d5, d6, d7, d8, d9⟩
theorem cl_both {T : Nat → Int32} {t a c n : Nat} {μ ν : gMem} (hc : CX μ T t) (hm : MX ν T t) (ha : a ≤ t) (c4 : μ 8 4 = nI a) (m5 : ν 140 5 = nI a) (hc14 : c < 14) (h5 : μ 10 5 = nI c) (h11 : ν 140 11 = nI c) (h6 : μ 10 6 = nI n) (h10 : ν 140 10 = nI n) (hT : TOK n (ν 144)) : CRes t c n μ ν (f_X0_readClause μ) ((f_X11_nextToken ν).bind (fun m => f_X11_readClause m)) := by
  obtain ⟨μ1, p1, p2, p3, p4, p5⟩ := c_token hc ha c4
  obtain ⟨ν1, q1, q2, q3, q4, q5, q6, q7⟩ := m_token hm ha m5
  obtain ⟨o, o1, o2, o3⟩ := w_both (hc.kc p5) (hm.km q7) ha p2 p3 p4 q2 q3 q4
  have tk := tk_facts (T := T) ha
  have ht := hc.1
  unfold f_X0_readClause
  rw [p1, q1]
  simp only [Option.bind_some, mC_of, o1, o2]
  have hCI : CI T t (tkE T t a) c n (tkB T t a) μ1 ν1 := ⟨⟨hc.kc p5, hm.km q7⟩, ⟨tk.2.2, p3, q3⟩, ⟨by omega, p2, q2⟩, ⟨hc14, by rw [p5.2 10 (by decide)]; exact h5, by rw [q7.1 11 (by decide) (by decide) (by decide) (by decide)]; exact h11⟩, ⟨by rw [p5.2 10 (by decide)]; exact h6, by rw [q7.1 10 (by decide) (by decide) (by decide) (by decide)]; exact h10⟩, by rw [q7.2 144 (by decide)]; exact hT⟩
  cases o with
  | none =>
    have e : mC (vO none) ν1 = some (0, ν1) := by
      show mC (-1) ν1 = _
      unfold mC
      rw [if_neg (by decide)]
    exact CRes.bad (e := tkB T t a) rfl e p5.two q7.two (by omega) p2 q2
  | some j =>
    have R : CRes t c n μ1 ν1 (cC j μ1) (mC (nI (vjN j)) ν1) := by
      rcases tx_12 (o3 j rfl) with rfl | rfl | rfl | rfl | rfl | rfl | rfl | rfl | rfl | rfl | rfl | rfl
      · exact cl_well hCI
      · exact cl_sis hCI 1 (by omega)
      · exact cl_sis hCI 2 (by omega)
      · exact cl_sis hCI 3 (by omega)
      · exact cl_siv hCI 4 (by omega)
      · exact cl_siv hCI 5 (by omega)
      · exact cl_siv hCI 6 (by omega)
      · exact cl_siv hCI 7 (by omega)
      · exact cl_tub hCI
      · exact cl_hole hCI
      · exact cl_frost hCI
      · exact cl_thaw hCI
    exact R.fro p5 q7
/-- what the first c clauses do -/
def hN (D K X Y : Nat → Int32) (n : Nat) (R : Nat → Int32) : Nat → Nat × (Nat → Int32)
  | 0 => (n, R)
  | c + 1 => hP (D c) (K c) (X c) (Y c) (hN D K X Y n R c).1 (hN D K X Y n R c).2
theorem hN_upd {D K X Y : Nat → Int32} {n : Nat} {R : Nat → Int32} {c : Nat} {d k x y : Int32} : ∀ i, i ≤ c → hN (upd D c d) (upd K c k) (upd X c x) (upd Y c y) n R i = hN D K X Y n R i
  | 0, _ => rfl
  | i + 1, h => by rw [hN, hN, hN_upd i (by omega), upd_ne (by omega), upd_ne (by omega), upd_ne (by omega), upd_ne (by omega)]
theorem e_semi {μ : gMem} {T : Nat → Int32} {t a : Nat} (h : CX μ T t) (ha : a ≤ t) (h3 : μ 8 3 = nI (tkB T t a)) (h2 : μ 8 2 = tkT T t a) : f_X3_isSemicolon μ = some (if tkT T t a = 3 ∧ T (tkB T t a) = 59 then 1 else 0, μ) := by
  have tk := tk_facts (T := T) ha
  have ht := h.1
  unfold f_X3_isSemicolon
  rw [h2, h3]
  by_cases c3 : tkT T t a = 3
  · have hlt : tkB T t a < t := by
      apply Classical.byContradiction
      intro z
      have : tkB T t a = t := by omega
      unfold tkT at c3
      rw [if_pos this] at c3
      exact absurd c3 (by decide)
    rw [if_pos c3, if_pos (inb5 (show tkB T t a < 160 by omega) (by decide)), cl5 (show tkB T t a < 1000 by omega), h.2.2 _ hlt]
    simp only [lt, c3, true_and]
  · rw [if_neg c3, if_neg (fun z => c3 z.1)]
/-- what the reading of a text comes to -/
def RRes (n0 : Nat) (R0 : Nat → Int32) (μ ν : gMem) (A B : Option (Int32 × gMem)) : Prop := ∃ μ' ν', KC2 μ μ' ∧ KM2 ν ν' ∧ ((∃ e : Nat, e ≤ 160 ∧ A = some (nI e, μ') ∧ B = some (0, ν') ∧ ν' 140 8 = nI e) ∨ (A = some (-1, μ') ∧ B = some (1, ν') ∧ ∃ c n : Nat, c ≤ 14 ∧ μ' 10 5 = nI c ∧ ν' 140 11 = nI c ∧ ν' 140 10 = nI n ∧ hN (μ' 12) (μ' 13) (μ' 14) (μ' 15) n0 R0 c = (n, ν' 144) ∧ ∀ i, i ≤ c → TOK (hN (μ' 12) (μ' 13) (μ' 14) (μ' 15) n0 R0 i).1 (hN (μ' 12) (μ' 13) (μ' 14) (μ' 15) n0 R0 i).2))
theorem rd_both {T : Nat → Int32} {t : Nat} (n0 : Nat) (R0 : Nat → Int32) (i2 i1 : Int32) : ∀ (f a c n : Nat) (μ ν : gMem), 14 - c < f → c < 14 → CX μ T t → MX ν T t → a ≤ t → μ 8 4 = nI a → ν 140 5 = nI a → μ 10 5 = nI c → ν 140 11 = nI c → μ 10 6 = nI n → ν 140 10 = nI n → hN (μ 12) (μ 13) (μ 14) (μ 15) n0 R0 c = (n, ν 144) → (∀ i, i ≤ c → TOK (hN (μ 12) (μ 13) (μ 14) (μ 15) n0 R0 i).1 (hN (μ 12) (μ 13) (μ 14) (μ 15) n0 R0 i).2) → RRes n0 R0 μ ν (l_X0_read_14 i2 f μ) (l_X11_readText_44 i1 f ν) := by
  intro f
  induction f with
  | zero => intro a c n μ ν h; omega
  | succ f ih =>
    intro a c n μ ν hf hc14 hc hm ha c4 m5 h5 h11 h6 h10 hN0 hT
    have hTc : TOK n (ν 144) := by have := hT c (Nat.le_refl c); rw [hN0] at this; exact this
    obtain ⟨r, μ1, ν1, eA, eB, k1, k2, d⟩ := cl_both hc hm ha c4 m5 hc14 h5 h11 h6 h10 hTc
    have ht := hc.1
    have eL : l_X0_read_14 i2 (f + 1) μ = (if r = 0 then some ((μ1 8 3), μ1) else (f_X3_readToken (st μ1 10 5 ((μ1 10 5) + (1 : Int32)))).bind (fun m15 => if (m15 8 2) = 0 then (some ((-1 : Int32), m15)) else ((f_X3_isSemicolon m15).bind (fun p18 => if p18.1 = 0 then (some ((p18.2 8 3), p18.2)) else (l_X0_read_14 i2 f p18.2))))) := by
      rw [l_X0_read_14, h5, if_neg (show ¬ (14 : Int32) ≤ nI c from nI_ge (b := 14) hc14 (by decide)), eA]
      rfl
    have eR : l_X11_readText_44 i1 (f + 1) ν = (if r = 0 then some ((0 : Int32), ν1) else (f_X11_nextToken (st ν1 140 11 ((ν1 140 11) + (1 : Int32)))).bind (fun m26 => if (m26 140 6) = (3 : Int32) then (some ((1 : Int32), m26)) else (if (m26 140 6) = 0 then (if (m26 140 7) = (59 : Int32) then (if (m26 140 11) = (14 : Int32) then (some ((0 : Int32), m26)) else (l_X11_readText_44 i1 f m26)) else (some ((0 : Int32), m26))) else (some ((0 : Int32), m26))))) := by
      have e0 : l_X11_readText_44 i1 (f + 1) ν = ((f_X11_nextToken ν).bind (fun m => f_X11_readClause m)).bind (fun p20 => if p20.1 = 0 then (some ((0 : Int32), p20.2)) else (f_X11_nextToken (st p20.2 140 11 ((p20.2 140 11) + (1 : Int32)))).bind (fun m26 => if (m26 140 6) = (3 : Int32) then (some ((1 : Int32), m26)) else (if (m26 140 6) = 0 then (if (m26 140 7) = (59 : Int32) then (if (m26 140 11) = (14 : Int32) then (some ((0 : Int32), m26)) else (l_X11_readText_44 i1 f m26)) else (some ((0 : Int32), m26))) else (some ((0 : Int32), m26))))) := by
        rw [l_X11_readText_44]
        cases f_X11_nextToken ν <;> rfl
      rw [e0, eB]
      rfl
    rw [eL, eR]
    rcases d with ⟨d1, e, e1, e2, e3⟩ | ⟨d1, d2, d3, a', n', j, x, y, ⟨w1, w2, w3⟩, hj, ⟨w4, w5, w6, w7⟩, ⟨w8, w9⟩, w10, w11⟩
    · rw [if_pos d1, if_pos d1]
      exact ⟨μ1, ν1, k1, k2, Or.inl ⟨e, e1, by rw [e2], rfl, e3⟩⟩
    · have r0 : ¬ r = 0 := by rw [d1]; decide
      rw [if_neg r0, if_neg r0, d2, d3, nI_1]
      have k1' : KC2 μ (st μ1 10 5 (nI (c + 1))) := k1.tr (KC2.st10 _ _ _)
      have k2' : KM2 ν (st ν1 140 11 (nI (c + 1))) := k2.tr (KM2.st140 _ _ _ (by omega))
      have hc1 : CX (st μ1 10 5 (nI (c + 1))) T t := hc.of (k1'.1 1 (by decide) (by decide) (by decide)) (k1'.2 9 (by decide) (by decide) (by decide) (by decide) (by decide) (by decide))
      have hm1 : MX (st ν1 140 11 (nI (c + 1))) T t := hm.of (k2'.1 4 (by decide) (by decide) (by decide) (by decide) (by decide) (by decide)) (k2'.2 143 (by decide) (by decide))
      obtain ⟨μ2, p1, p2, p3, p4, p5⟩ := c_token hc1 w1 (by rw [st_ne (by decide)]; exact w2)
      obtain ⟨ν2, q1, q2, q3, q4, q5, q6, q7⟩ := m_token hm1 w1 (by rw [st_same, if_neg (by decide)]; exact w3)
      have tk := tk_facts (T := T) w1
      rw [p1, q1]
      simp only [Option.bind_some, p4, q4]
      have e12 : μ2 12 = upd (μ 12) c (gDeed.getD j 0) := by rw [p5.2 12 (by decide), st_ne (by decide)]; exact w4
      have e13 : μ2 13 = upd (μ 13) c (gKind.getD j 0) := by rw [p5.2 13 (by decide), st_ne (by decide)]; exact w5
      have e14 : μ2 14 = upd (μ 14) c (nI x) := by rw [p5.2 14 (by decide), st_ne (by decide)]; exact w6
      have e15 : μ2 15 = upd (μ 15) c (nI y) := by rw [p5.2 15 (by decide), st_ne (by decide)]; exact w7
      have e144 : ν2 144 = ν1 144 := by rw [q7.2 144 (by decide), st_ne (by decide)]
      have e105 : μ2 10 5 = nI (c + 1) := by rw [p5.2 10 (by decide), st_same, if_pos rfl]
      have e106 : μ2 10 6 = nI n' := by rw [p5.2 10 (by decide), st_same, if_neg (by decide)]; exact w8
      have f11 : ν2 140 11 = nI (c + 1) := by rw [q7.1 11 (by decide) (by decide) (by decide) (by decide), st_same, if_pos rfl]
      have f10 : ν2 140 10 = nI n' := by rw [q7.1 10 (by decide) (by decide) (by decide) (by decide), st_same, if_neg (by decide)]; exact w9
      have hNe : hN (μ2 12) (μ2 13) (μ2 14) (μ2 15) n0 R0 (c + 1) = (n', ν2 144) := by
        rw [hN, e12, e13, e14, e15, hN_upd c (Nat.le_refl c), hN0, upd_eq, upd_eq, upd_eq, upd_eq, e144]
        exact w10.symm
      have hTe : ∀ i, i ≤ c + 1 → TOK (hN (μ2 12) (μ2 13) (μ2 14) (μ2 15) n0 R0 i).1 (hN (μ2 12) (μ2 13) (μ2 14) (μ2 15) n0 R0 i).2 := by
        intro i hi
        by_cases hic : i = c + 1
        · rw [hic, hNe, e144]; exact w11
        · rw [e12, e13, e14, e15, hN_upd i (by omega)]; exact hT i (by omega)
      have kA : KC2 μ μ2 := k1'.tr p5.two
      have kB : KM2 ν ν2 := k2'.tr q7.two
      have hc2 : CX μ2 T t := hc1.kc p5
      by_cases t0 : tkT T t a' = 0
      · rw [t0, if_pos rfl, if_pos (show mK 0 = 3 by decide)]
        exact ⟨μ2, ν2, kA, kB, Or.inr ⟨rfl, rfl, c + 1, n', by omega, e105, f11, f10, hNe, hTe⟩⟩
      · have hty : tkT T t a' = 1 ∨ tkT T t a' = 2 ∨ tkT T t a' = 3 := by
          unfold tkT
          split
          · next z => exfalso; apply t0; unfold tkT; rw [if_pos z]
          · exact tyC_v _
        have t3 : ¬ mK (tkT T t a') = 3 := by rcases hty with z | z | z <;> rw [z] <;> decide
        rw [if_neg t0, if_neg t3, e_semi hc2 w1 p2 p4]
        simp only [Option.bind_some, b01]
        by_cases hs : tkT T t a' = 3 ∧ T (tkB T t a') = 59
        · rw [if_neg (not_not_intro hs), if_pos (show mK (tkT T t a') = 0 by rw [hs.1]; decide), if_pos (show ν2 140 7 = 59 by rw [q6 hs.1]; exact hs.2), f11]
          by_cases h14 : c + 1 = 14
          · rw [if_pos (show nI (c + 1) = 14 by rw [h14]; rfl)]
            have ec : l_X0_read_14 i2 f μ2 = some (μ2 8 3, μ2) := by
              obtain ⟨g, rfl⟩ : ∃ g, f = g + 1 := ⟨f - 1, by omega⟩
              rw [l_X0_read_14, e105, if_pos (show (14 : Int32) ≤ nI (c + 1) by rw [h14]; decide)]
            rw [ec, p2]
            exact ⟨μ2, ν2, kA, kB, Or.inl ⟨tkB T t a', by omega, rfl, rfl, q2⟩⟩
          · rw [if_neg (show ¬ nI (c + 1) = 14 from fun z => h14 ((nI_eq (b := 14) (by omega) (by decide)).mp z))]
            obtain ⟨μ3, ν3, g1, g2, g3⟩ := ih (tkE T t a') (c + 1) n' μ2 ν2 (by omega) (by omega) hc2 (hm1.km q7) tk.2.2 p3 q3 e105 f11 e106 f10 hNe hTe
            exact ⟨μ3, ν3, kA.tr g1, kB.tr g2, g3⟩
        · rw [if_pos hs, p2]
          have : (if mK (tkT T t a') = 0 then (if ν2 140 7 = 59 then (if ν2 140 11 = 14 then some ((0 : Int32), ν2) else l_X11_readText_44 i1 f ν2) else some (0, ν2)) else some (0, ν2)) = some (0, ν2) := by
            by_cases z3 : tkT T t a' = 3
            · rw [if_pos (show mK (tkT T t a') = 0 by rw [z3]; decide), if_neg (fun z => hs ⟨z3, by rw [← q6 z3]; exact z⟩)]
            · have : ¬ mK (tkT T t a') = 0 := by
                rcases hty with z | z | z
                · rw [z]; decide
                · rw [z]; decide
                · exact absurd z z3
              rw [if_neg this]
          rw [this]
          exact ⟨μ2, ν2, kA, kB, Or.inl ⟨tkB T t a', by omega, rfl, rfl, q2⟩⟩

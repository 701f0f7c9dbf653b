theorem lv_tab (n k p b : Nat) (hn : n ≤ 6) (hk : k ≤ 6) (hp : p ≤ 10) (hb : b ≤ 1) : lvOk n k p b = true := by
  by_cases h4 : n < 4
  · exact lv_tab0 n h4 k (by omega) p (by omega) b (by omega)
  · have : n = 4 ∨ n = 5 ∨ n = 6 := by omega
    rcases this with rfl | rfl | rfl
    · exact lv_tab4 k (by omega) p (by omega) b (by omega)
    · exact lv_tab5 k (by omega) p (by omega) b (by omega)
    · exact lv_tab6 k (by omega) p (by omega) b (by omega)
theorem s_leaves (a b c d : Int32) {μ ν : gMem} (h : Sim μ ν) : Res (f_X10_leaves a b c d) (f_X11_leaves a b c d) μ ν := by
  show RO (f_X10_leaves a b c d μ) (f_X11_leaves a b c d ν) μ ν
  have ea : ∀ μ, f_X11_in a.toInt64 0 6 μ = some (if a < 0 ∨ ¬ a ≤ 6 then 0 else 1, μ) := fun μ => e_in0 a 0 6 μ 0 6 rfl rfl
  have eb : ∀ μ, f_X11_in b.toInt64 0 6 μ = some (if b < 0 ∨ ¬ b ≤ 6 then 0 else 1, μ) := fun μ => e_in0 b 0 6 μ 0 6 rfl rfl
  have ec : ∀ μ, f_X11_in c.toInt64 0 10 μ = some (if c < 0 ∨ ¬ c ≤ 10 then 0 else 1, μ) := fun μ => e_in0 c 0 10 μ 0 10 rfl rfl
  have ed : ∀ μ, f_X11_in d.toInt64 0 1 μ = some (if d < 0 ∨ ¬ d ≤ 1 then 0 else 1, μ) := fun μ => e_in0 d 0 1 μ 0 1 rfl rfl
  by_cases h1 : a < 0 ∨ ¬ a ≤ 6
  · unfold f_X10_leaves f_X11_leaves
    simp only [e_isOutside, ea, eb, ec, ed, Option.bind_some, b01, b10, if_pos h1, if_neg (not_not_intro h1)]
    exact RO.rf h rfl
  by_cases h2 : b < 0 ∨ ¬ b ≤ 6
  · unfold f_X10_leaves f_X11_leaves
    simp only [e_isOutside, ea, eb, ec, ed, Option.bind_some, b01, b10, if_neg h1, if_pos h1, if_pos h2, if_neg (not_not_intro h2)]
    exact RO.rf h rfl
  by_cases h3 : c < 0 ∨ ¬ c ≤ 10
  · unfold f_X10_leaves f_X11_leaves
    simp only [e_isOutside, ea, eb, ec, ed, Option.bind_some, b01, b10, if_neg h1, if_pos h1, if_neg h2, if_pos h2, if_pos h3, if_neg (not_not_intro h3)]
    exact RO.rf h rfl
  by_cases h4 : d < 0 ∨ ¬ d ≤ 1
  · unfold f_X10_leaves f_X11_leaves
    simp only [e_isOutside, ea, eb, ec, ed, Option.bind_some, b01, b10, if_neg h1, if_pos h1, if_neg h2, if_pos h2, if_neg h3, if_pos h3, if_pos h4, if_neg (not_not_intro h4)]
    exact RO.rf h rfl
  obtain ⟨n, hn, rfl⟩ := in0 (b := 6) (by decide) h1
  obtain ⟨k, hk, rfl⟩ := in0 (b := 6) (by decide) h2
  obtain ⟨p, hp, rfl⟩ := in0 (b := 10) (by decide) h3
  obtain ⟨q, hq, rfl⟩ := in0 (b := 1) (by decide) h4
  have t := lv_tab n k p q hn hk hp hq
  obtain ⟨oC, hC⟩ := p_leavesC (nI n) (nI k) (nI p) (nI q)
  obtain ⟨oM, hM⟩ := p_leavesM (nI n) (nI k) (nI p) (nI q)
  unfold lvOk at t
  rw [hC, hM] at t
  rw [hC, hM]
  cases oC with
  | none => simp at t
  | some r =>
    cases oM with
    | none => simp at t
    | some r' =>
      simp only [Option.map_some] at t ⊢
      exact RO.rf h (of_decide_eq_true t).symm
/-! TOGETHER -/
def dpre (S : V5) (δ : Int32) (m : Nat) (v : V5) : V5 := if δ = nI m then drawT S v else v
def dw (S : V5) (F : Nat → Int32) (w : V5) (δ : Int32) : Nat → V5
  | 0 => w
  | m + 1 => (pmT S (F m) (dpre S δ m (dw S F w δ m))).2
def dp (S : V5) (F : Nat → Int32) (w : V5) (δ : Int32) (m : Nat) : Int32 := (pmT S (F m) (dpre S δ m (dw S F w δ m))).1
def epre (S : V5) (d m : Nat) (v : V5) : V5 := if m = d ∧ v.1 = 0 then drawT S v else v
def ew (S : V5) (F : Nat → Int32) (w : V5) (d : Nat) : Nat → V5
  | 0 => w
  | m + 1 => (pmT S (F m) (epre S d m (ew S F w d m))).2
def ep (S : V5) (F : Nat → Int32) (w : V5) (d : Nat) (m : Nat) : Int32 := (pmT S (F m) (epre S d m (ew S F w d m))).1
theorem pm_sit (S : V5) (fr : Int32) {w : V5} (h : w.1 = 0) : (pmT S fr w).2.1 = 0 := by
  unfold pmT stT
  by_cases h2 : w.2.2.2.2 ≤ 0
  · rw [if_pos h2, if_pos h]; exact h
  · rw [if_neg h2, if_pos h]; exact h
theorem ew_sit (S : V5) (F : Nat → Int32) {w : V5} (d : Nat) (h : w.1 = 0) : ∀ m, m ≤ d → (ew S F w d m).1 = 0
  | 0, _ => h
  | m + 1, hm => by
    have ih := ew_sit S F d h m (by omega)
    have e : epre S d m (ew S F w d m) = ew S F w d m := by unfold epre; rw [if_neg (fun z => by omega)]
    rw [ew, e]
    exact pm_sit S (F m) ih
theorem ew_idle (S : V5) (F : Nat → Int32) {w : V5} (d : Nat) (hd : d < 1000) (h : w.1 = 0) : ∀ m, m < 1000 → ew S F w d m = dw S F w (nI d) m ∧ epre S d m (ew S F w d m) = dpre S (nI d) m (dw S F w (nI d) m)
  | 0, hm => by
    refine ⟨rfl, ?_⟩
    unfold epre dpre
    show (if 0 = d ∧ w.1 = 0 then drawT S w else w) = if nI d = nI 0 then drawT S w else w
    by_cases hd0 : d = 0
    · subst hd0; rw [if_pos ⟨rfl, h⟩, if_pos rfl]
    · rw [if_neg (fun z => hd0 z.1.symm), if_neg (fun z => hd0 ((nI_eq (by omega) (by omega)).mp z))]
  | m + 1, hm => by
    obtain ⟨e1, e2⟩ := ew_idle S F d hd h m (by omega)
    have e3 : ew S F w d (m + 1) = dw S F w (nI d) (m + 1) := by rw [ew, dw, e2]
    refine ⟨e3, ?_⟩
    rw [← e3]
    unfold epre dpre
    by_cases hd0 : d = m + 1
    · subst hd0; rw [if_pos ⟨rfl, ew_sit S F (m + 1) h (m + 1) (Nat.le_refl _)⟩, if_pos rfl]
    · rw [if_neg (fun z => hd0 z.1.symm), if_neg (fun z => hd0 ((nI_eq (by omega) (by omega)).mp z))]
theorem nI_m1 {m : Nat} (h : m < 2 ^ 31) : ¬ (-1 : Int32) = nI m := fun z => absurd (show nI m < 0 by rw [← z]; decide) (nI_pos h)
theorem ew_work (S : V5) (F : Nat → Int32) {w : V5} (h : ¬ w.1 = 0) : ∀ m, m < 1000 → ew S F w 0 m = dw S F w (-1) m ∧ epre S 0 m (ew S F w 0 m) = dpre S (-1) m (dw S F w (-1) m)
  | 0, hm => by
    refine ⟨rfl, ?_⟩
    unfold epre dpre
    exact (if_neg (fun z => h z.2)).trans (if_neg (nI_m1 (by omega))).symm
  | m + 1, hm => by
    obtain ⟨e1, e2⟩ := ew_work S F h m (by omega)
    have e3 : ew S F w 0 (m + 1) = dw S F w (-1) (m + 1) := by rw [ew, dw, e2]
    refine ⟨e3, ?_⟩
    rw [← e3]
    unfold epre dpre
    rw [if_neg (fun z => by omega), if_neg (nI_m1 (by omega))]
theorem c_dfill (s d n mn : Nat) (hs : s < 5) (hd : d < 4) (hn : n ≤ 40) (μ : gMem) (x : V5) (w : W5) (hx : cSc μ 16 x w) (hmn : x.1 = nI mn) (h9 : μ 106 9 = nI n) :
    ∃ μ', f_X1_fill 16 (nI s) (nI d) μ = some μ' ∧ (∀ j, j < n → μ' (108 + (4 * s + d)) j = ep (cS μ s) (Fq (μ 1 6) (μ 1 7) mn) (w s) d j) ∧ ∀ q, q ≠ 136 → q ≠ 108 + (4 * s + d) → μ' q = μ q := by
  have ei : nI s * (4 : Int32) + nI d = nI (4 * s + d) := by rw [show (4 : Int32) = nI 4 from rfl, pk_mul, nI_add, Nat.mul_comm]
  unfold f_X1_fill
  rw [ei, if_pos (inb5 (show 4 * s + d < 20 by omega) (by decide)), if_pos (inb5 hs (by decide)), cl5 (show s < 1000 by omega), cl5 (show 4 * s + d < 1000 by omega)]
  obtain ⟨m1, p1, p2, p3⟩ := e_copyW (w := 136) (s := 16 + 1 + 1 + s) (by omega) μ
  rw [p1, show 107 + 1 + (4 * s + d) = 108 + (4 * s + d) by omega]
  simp only [Option.bind_some]
  have ew0 : v5 (m1 136) = w s := by rw [p2]; exact hx.2 s hs
  have key : ∀ (f k : Nat) (m : gMem), k ≤ n → n - k < f → v5 (m 136) = ew (cS μ s) (Fq (μ 1 6) (μ 1 7) mn) (w s) d k → (∀ j, j < k → m (108 + (4 * s + d)) j = ep (cS μ s) (Fq (μ 1 6) (μ 1 7) mn) (w s) d j) → (∀ q, q ≠ 136 → q ≠ 108 + (4 * s + d) → m q = μ q) →
      ∃ μ', l_X1_fill_28 16 (nI s) (nI d) (108 + (4 * s + d)) f (nI k) m = some (nI n, μ') ∧ (∀ j, j < n → μ' (108 + (4 * s + d)) j = ep (cS μ s) (Fq (μ 1 6) (μ 1 7) mn) (w s) d j) ∧ ∀ q, q ≠ 136 → q ≠ 108 + (4 * s + d) → μ' q = μ q := by
    intro f
    induction f with
    | zero => intro k m _ h2; omega
    | succ f ih =>
      intro k m h1 h2 h3 h4 h5
      unfold l_X1_fill_28
      rw [h5 106 (by decide) (by omega), h9]
      by_cases hk : k = n
      · subst hk
        rw [if_pos (Int32.le_refl _)]
        exact ⟨m, rfl, h4, h5⟩
      · rw [if_neg (nI_ge (by omega) (by omega))]
        simp only [if_pos (inb5 hs (by decide))]
        -- the tail of the round, behind what may have been drawn
        have tail : ∀ m2 : gMem, v5 (m2 136) = epre (cS μ s) d k (ew (cS μ s) (Fq (μ 1 6) (μ 1 7) mn) (w s) d k) → (∀ q, q ≠ 136 → m2 q = m q) →
            ∃ μ', ((f_X7_isFrost ((m2 16 0) + nI k) m2).bind (fun p25 => (f_X8_passMinute 136 (2 + 1 + (nI s).toNatClampNeg) p25.1 p25.2).bind (fun p28 => if inb (nI k) 40 = true then lt (st p28.2 (108 + (4 * s + d)) (nI k).toNatClampNeg p28.1) (fun m29 => lt (nI k + Int32.ofInt 1) (fun x32 => l_X1_fill_28 16 (nI s) (nI d) (108 + (4 * s + d)) f x32 m29)) else none))) = some (nI n, μ') ∧ (∀ j, j < n → μ' (108 + (4 * s + d)) j = ep (cS μ s) (Fq (μ 1 6) (μ 1 7) mn) (w s) d j) ∧ ∀ q, q ≠ 136 → q ≠ 108 + (4 * s + d) → μ' q = μ q := by
          intro m2 g1 g2
          have e16 : m2 16 0 = nI mn := by rw [g2 16 (by decide), h5 16 (by decide) (by omega), ← hmn, ← hx.1]; rfl
          rw [e16, nI_add, e_isFrost, g2 1 (by decide), h5 1 (by decide) (by omega)]
          simp only [Option.bind_some]
          rw [cl5 (show s < 1000 by omega), show 2 + 1 + s = 3 + s by omega]
          obtain ⟨m3, q1, q2, q3⟩ := e_pm (w := 136) (s := 3 + s) (by omega) (frT (μ 1 6) (μ 1 7) (nI (mn + k))) m2
          rw [g2 (3 + s) (by omega), h5 (3 + s) (by omega) (by omega), g1] at q1 q2
          rw [q1]
          have hk40 : k < 40 := by omega
          simp only [Option.bind_some, if_pos (inb5 hk40 (by decide)), cl5 (show k < 1000 by omega), lt, nI_inc]
          refine ih (k + 1) _ (by omega) (by omega) (by rw [st_ne (by omega)]; exact q2) (fun j hj => ?_) (fun q a1 a2 => by rw [st_ne a2, q3 q a1, g2 q a1]; exact h5 q a1 a2)
          rw [st_same]
          by_cases hjk : j = k
          · subst hjk
            rw [if_pos rfl]
            rfl
          · rw [if_neg hjk, q3 _ (by omega), g2 _ (by omega)]
            exact h4 j (by omega)
        by_cases hkd : k = d
        · rw [if_pos (by rw [hkd])]
          have e0 : m 136 0 = (ew (cS μ s) (Fq (μ 1 6) (μ 1 7) mn) (w s) d k).1 := by rw [← h3]; rfl
          rw [e0]
          by_cases h0 : (ew (cS μ s) (Fq (μ 1 6) (μ 1 7) mn) (w s) d k).1 = 0
          · rw [if_pos h0]
            obtain ⟨m2, q1, q2, q3⟩ := e_draw (w := 136) (s := 2 + 1 + (nI s).toNatClampNeg) (by rw [cl5 (show s < 1000 by omega)]; omega) m
            rw [q1]
            simp only [Option.bind_some]
            refine tail m2 ?_ q3
            rw [q2, h3, cl5 (show s < 1000 by omega), show 2 + 1 + s = 3 + s by omega, h5 _ (by omega) (by omega)]
            unfold epre
            rw [if_pos ⟨hkd, h0⟩]
            rfl
          · rw [if_neg h0]
            refine tail m ?_ (fun _ _ => rfl)
            rw [h3]
            unfold epre
            rw [if_neg (fun z => h0 z.2)]
        · rw [if_neg (fun z => hkd ((nI_eq (by omega) (by omega)).mp z))]
          refine tail m ?_ (fun _ _ => rfl)
          rw [h3]
          unfold epre
          rw [if_neg (fun z => hkd z.1)]
  obtain ⟨m2, q1, q2, q3⟩ := key gF 0 m1 (by omega) (by unfold gF; omega) ew0 (fun j hj => by omega) (fun q a1 a2 => p3 q a1)
  have q1' : l_X1_fill_28 16 (nI s) (nI d) (108 + (4 * s + d)) gF 0 m1 = some (nI n, m2) := q1
  rw [q1']
  exact ⟨m2, rfl, q2, q3⟩

/-! the order of the delays -/
def idk (c B : Nat) : Nat → Nat
  | 0 => 0
  | k + 1 => idk c B k + (if B / 2 ^ (c - (k + 1)) % 2 = 0 then 1 else 0)
def EE (c B s : Nat) : Nat := 4 ^ idk c B (c - s)
theorem EE_end (c B : Nat) : EE c B c = 1 := by unfold EE; rw [Nat.sub_self]; rfl
theorem EE_pos (c B s : Nat) : 0 < EE c B s := Nat.pow_pos (by decide)
theorem EE_idle {c B s : Nat} (hs : s < c) (h : B / 2 ^ s % 2 = 0) : EE c B s = 4 * EE c B (s + 1) := by
  unfold EE
  have e : c - s = (c - (s + 1)) + 1 := by omega
  rw [e, idk, show c - (c - (s + 1) + 1) = s by omega, if_pos h, Nat.pow_succ, Nat.mul_comm]
theorem EE_work {c B s : Nat} (hs : s < c) (h : ¬ B / 2 ^ s % 2 = 0) : EE c B s = EE c B (s + 1) := by
  unfold EE
  have e : c - s = (c - (s + 1)) + 1 := by omega
  rw [e, idk, show c - (c - (s + 1) + 1) = s by omega, if_neg h, Nat.add_zero]
theorem EE_mul {c B s : Nat} (hs : s ≤ c) : ∀ k, k ≤ s → ∃ r, 0 < r ∧ EE c B (s - k) = EE c B s * r
  | 0, _ => ⟨1, by decide, by rw [Nat.mul_one]; rfl⟩
  | k + 1, hk => by
    obtain ⟨r, hr, e⟩ := EE_mul hs k (by omega)
    by_cases h : B / 2 ^ (s - (k + 1)) % 2 = 0
    · have := EE_idle (c := c) (s := s - (k + 1)) (by omega) h
      rw [show s - (k + 1) + 1 = s - k by omega, e] at this
      exact ⟨4 * r, by omega, by rw [this, Nat.mul_left_comm]⟩
    · have := EE_work (c := c) (s := s - (k + 1)) (by omega) h
      rw [show s - (k + 1) + 1 = s - k by omega, e] at this
      exact ⟨r, hr, this⟩
def dg (c B j k : Nat) : Int32 := if B / 2 ^ j % 2 = 0 then nI (k / EE c B (j + 1) % 4) else -1
theorem dg_same {c B s j k k' : Nat} (hs : s ≤ c) (hj : j < s) (h : k / EE c B s = k' / EE c B s) : dg c B j k = dg c B j k' := by
  obtain ⟨r, hr, e⟩ := EE_mul (B := B) hs (s - (j + 1)) (by omega)
  rw [show s - (s - (j + 1)) = j + 1 by omega] at e
  unfold dg
  rw [e, ← Nat.div_div_eq_div_mul, ← Nat.div_div_eq_div_mul, h]
/-- the child d of the node p -/
theorem dg_child {c B s p d : Nat} (hs : s < c) (h : B / 2 ^ s % 2 = 0) (hd : d < 4) : ((4 * p + d) * EE c B (s + 1)) / EE c B s = p ∧ dg c B s ((4 * p + d) * EE c B (s + 1)) = nI d := by
  have e := EE_idle hs h
  have hp := EE_pos c B (s + 1)
  have e1 : (4 * p + d) * EE c B (s + 1) / EE c B (s + 1) = 4 * p + d := Nat.mul_div_cancel _ hp
  constructor
  · rw [e, Nat.mul_comm 4 (EE c B (s + 1)), ← Nat.div_div_eq_div_mul, e1]
    omega
  · unfold dg
    rw [if_pos h, e1]
    congr 1
    omega
theorem dg_node {c B s p : Nat} : (p * EE c B s) / EE c B s = p := Nat.mul_div_cancel _ (EE_pos c B s)
/-! the best so far -/
def Bf (V : Nat → Int32) : Nat → Int32
  | 0 => -1
  | k + 1 => if V k ≤ Bf V k then Bf V k else V k
def Wf (V D : Nat → Int32) : Nat → Int32
  | 0 => -1
  | k + 1 => if V k ≤ Bf V k then Wf V D k else D k
theorem Bf_stay {V : Nat → Int32} {H : Int32} (hV : ∀ k, V k ≤ H) {k : Nat} (h : H ≤ Bf V k) : ∀ r, Bf V (k + r) = Bf V k
  | 0 => rfl
  | r + 1 => by
    have ih := Bf_stay hV h r
    rw [← Nat.add_assoc, Bf, ih, if_pos (Int32.le_trans (hV _) h)]
theorem Wf_stay {V D : Nat → Int32} {H : Int32} (hV : ∀ k, V k ≤ H) {k : Nat} (h : H ≤ Bf V k) : ∀ r, Wf V D (k + r) = Wf V D k
  | 0 => rfl
  | r + 1 => by
    have ih := Wf_stay (D := D) hV h r
    rw [← Nat.add_assoc, Wf, Bf_stay hV h r, if_pos (Int32.le_trans (hV _) h), ih]
theorem rise_le (H x : Int32) : rise H x ≤ H := by
  unfold rise
  by_cases h : x < H
  · rw [if_pos h]; exact Int32.le_of_lt h
  · rw [if_neg h]; exact Int32.le_refl _
theorem hseq_le {H ho l0 : Int32} (Q : Nat → Int32) (h : l0 ≤ H) : ∀ n, hseq H ho l0 Q n ≤ H
  | 0 => h
  | n + 1 => by
    rw [hseq]
    split
    · exact rise_le _ _
    · exact hseq_le Q h n
theorem hseq_ge {H ho l0 : Int32} (Q : Nat → Int32) : ∀ n, l0 ≤ hseq H ho l0 Q n
  | 0 => Int32.le_refl _
  | n + 1 => by
    rw [hseq]
    split
    · next z => exact Int32.le_trans (hseq_ge Q n) (Int32.le_of_lt z)
    · exact hseq_ge Q n

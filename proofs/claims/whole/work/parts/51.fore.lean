/-! FORECASTS: one sister's minutes, the tub's minutes -/
def wseq (S : V5) (F : Nat → Int32) (w : V5) : Nat → V5
  | 0 => w
  | m + 1 => (pmT S (F m) (wseq S F w m)).2
def pseq (S : V5) (F : Nat → Int32) (w : V5) (m : Nat) : Int32 := (pmT S (F m) (wseq S F w m)).1
def lseq (H ho l0 : Int32) (Q : Nat → Int32) : Nat → Int32
  | 0 => l0
  | m + 1 => rise H (lseq H ho l0 Q m + Q m) - lost (rise H (lseq H ho l0 Q m + Q m)) ho
def rseq (H ho l0 : Int32) (Q : Nat → Int32) (m : Nat) : Int32 := rise H (lseq H ho l0 Q m + Q m)
def hseq (H ho l0 : Int32) (Q : Nat → Int32) : Nat → Int32
  | 0 => l0
  | m + 1 => if hseq H ho l0 Q m < rseq H ho l0 Q m then rseq H ho l0 Q m else hseq H ho l0 Q m
def fseq (H ho l0 : Int32) (Q : Nat → Int32) : Nat → Int32
  | 0 => -1
  | m + 1 => if fseq H ho l0 Q m = -1 then (if rseq H ho l0 Q m = H then nI (m + 1) else -1) else fseq H ho l0 Q m
theorem lseq_congr {H ho l0 : Int32} {Q Q' : Nat → Int32} : ∀ {n : Nat}, (∀ k, k < n → Q k = Q' k) → lseq H ho l0 Q n = lseq H ho l0 Q' n
  | 0, _ => rfl
  | n + 1, h => by rw [lseq, lseq, lseq_congr (n := n) (fun k hk => h k (by omega)), h n (by omega)]
theorem rseq_congr {H ho l0 : Int32} {Q Q' : Nat → Int32} {n : Nat} (h : ∀ k, k ≤ n → Q k = Q' k) : rseq H ho l0 Q n = rseq H ho l0 Q' n := by
  unfold rseq
  rw [lseq_congr (fun k hk => h k (by omega)), h n (by omega)]
theorem hseq_congr {H ho l0 : Int32} {Q Q' : Nat → Int32} : ∀ {n : Nat}, (∀ k, k < n → Q k = Q' k) → hseq H ho l0 Q n = hseq H ho l0 Q' n
  | 0, _ => rfl
  | n + 1, h => by rw [hseq, hseq, hseq_congr (n := n) (fun k hk => h k (by omega)), rseq_congr (fun k hk => h k (by omega))]
theorem fseq_congr {H ho l0 : Int32} {Q Q' : Nat → Int32} : ∀ {n : Nat}, (∀ k, k < n → Q k = Q' k) → fseq H ho l0 Q n = fseq H ho l0 Q' n
  | 0, _ => rfl
  | n + 1, h => by rw [fseq, fseq, fseq_congr (n := n) (fun k hk => h k (by omega)), rseq_congr (fun k hk => h k (by omega))]
theorem fseq_val (H ho l0 : Int32) (Q : Nat → Int32) : ∀ n : Nat, fseq H ho l0 Q n = -1 ∨ ∃ j : Nat, 1 ≤ j ∧ j ≤ n ∧ fseq H ho l0 Q n = nI j
  | 0 => Or.inl rfl
  | n + 1 => by
    rw [fseq]
    by_cases h : fseq H ho l0 Q n = -1
    · rw [if_pos h]
      by_cases h2 : rseq H ho l0 Q n = H
      · rw [if_pos h2]; exact Or.inr ⟨n + 1, by omega, by omega, rfl⟩
      · rw [if_neg h2]; exact Or.inl rfl
    · rw [if_neg h]
      rcases fseq_val H ho l0 Q n with e | ⟨j, h1, h2, h3⟩
      · exact absurd e h
      · exact Or.inr ⟨j, h1, by omega, h3⟩
theorem fseq_stay {H ho l0 : Int32} {Q : Nat → Int32} {k : Nat} (h : ¬ fseq H ho l0 Q k = -1) : ∀ n : Nat, fseq H ho l0 Q (k + n) = fseq H ho l0 Q k
  | 0 => rfl
  | n + 1 => by
    have ih := fseq_stay h n
    rw [← Nat.add_assoc, fseq, ih, if_neg h]
def Fq (fa fb : Int32) (mn : Nat) : Nat → Int32 := fun m => frT fa fb (nI (mn + m))
def QQ (c : Nat) (S : W5) (F : Nat → Int32) (w : W5) (m : Nat) : Int32 := sumP (fun s => pseq (S s) F (w s) m) c
def MT (ν : gMem) (c : Nat) (S : W5) (H fa fb : Int32) : Prop := c ≤ 5 ∧ ν 140 1 = nI c ∧ (∀ s, s < c → sok (mS (ν 141) s)) ∧ (∀ s, s < c → mS (ν 141) s = S s) ∧ ν 141 0 = H ∧ ν 141 2 = fa ∧ ν 141 3 = fb
theorem MT.congr {ν ν' : gMem} {c : Nat} {S : W5} {H fa fb : Int32} (h : MT ν c S H fa fb) (h1 : ν' 140 1 = ν 140 1) (h2 : ν' 141 = ν 141) : MT ν' c S H fa fb := by
  unfold MT
  rw [h1, h2]
  exact h
/-- the reference, m minutes on from ν0 -/
def MI (c : Nat) (S : W5) (F : Nat → Int32) (H : Int32) (mn : Nat) (ho l0 : Int32) (w : W5) (ν0 ν : gMem) (m : Nat) : Prop :=
  (∀ b, b ≠ 142 → ν b = ν0 b) ∧ ∃ (x' : V5) (w' : W5), mSc (ν0 141) (ν 142) x' w' ∧ x'.1 = nI (mn + m) ∧ x'.2.1 = lseq H ho l0 (QQ c S F w) m ∧ x'.2.2.1 = ho ∧ (∀ s, s < c → w' s = wseq (S s) F (w s) m) ∧ ∀ s, c ≤ s → s < 5 → w' s = (0, 0, 0, 0, 0)
theorem MI.start {c : Nat} {S : W5} {F : Nat → Int32} {H : Int32} {mn : Nat} {w : W5} {ν0 : gMem} {x : V5} (h : mSc (ν0 141) (ν0 142) x w) (hx : x.1 = nI mn) (h0 : ∀ s, c ≤ s → s < 5 → w s = (0, 0, 0, 0, 0)) : MI c S F H mn x.2.2.1 x.2.1 w ν0 ν0 0 :=
  ⟨fun _ _ => rfl, x, w, h, hx, rfl, rfl, fun _ _ => rfl, h0⟩
theorem m_next {c : Nat} {S : W5} {H fa fb : Int32} {mn : Nat} {ho l0 : Int32} {w : W5} {ν0 ν : gMem} {m : Nat} (hT : MT ν0 c S H fa fb) (hb : mn + m ≤ 1999) (h : MI c S (Fq fa fb mn) H mn ho l0 w ν0 ν m) :
    ∃ ν', f_X11_oneMinute ν = some (rseq H ho l0 (QQ c S (Fq fa fb mn) w) m, ν') ∧ MI c S (Fq fa fb mn) H mn ho l0 w ν0 ν' (m + 1) := by
  obtain ⟨t1, t2, t3, t4, t5, t6, t7⟩ := hT
  obtain ⟨h1, x', w', h2, h3, h4, h5, h6, h7⟩ := h
  have e141 : ν 141 = ν0 141 := h1 141 (by decide)
  obtain ⟨ν', p1, p2, p3⟩ := m_min c t1 ν (by rw [h1 140 (by decide)]; exact t2) (by rw [e141]; exact t3) x' w' (by rw [e141]; exact h2) h7 (by rw [h3]; exact nI_rng hb (by decide))
  rw [e141, t5, t6, t7] at p1
  rw [p3 141 (by decide), e141, t5, t6, t7] at p2
  have eF : frT fa fb x'.1 = Fq fa fb mn m := by rw [h3]; rfl
  have eQ : minS c H (frT fa fb x'.1) (mS (ν0 141)) w' = QQ c S (Fq fa fb mn) w m := by
    unfold minS QQ
    exact sumP_congr (fun s hs => by rw [t4 s hs, h6 s hs, eF]; rfl)
  rw [eQ] at p1 p2
  rw [h4] at p1
  refine ⟨ν', p1, fun b hb => by rw [p3 b hb, h1 b hb], _, _, p2, ?_, ?_, h5, fun s hs => ?_, fun s hs hs5 => ?_⟩
  · show x'.1 + 1 = _
    rw [h3, nI_1]
    rfl
  · show rise H (x'.2.1 + _) - lost (rise H (x'.2.1 + _)) x'.2.2.1 = _
    rw [h4, h5]
    rfl
  · unfold minW
    rw [if_pos hs, t4 s hs, h6 s hs, eF]
    rfl
  · unfold minW
    rw [if_neg (by omega)]
    exact h7 s hs hs5
theorem m_level {c : Nat} {S : W5} {H fa fb : Int32} {mn : Nat} {ho l0 : Int32} {w : W5} {ν0 : gMem} (hT : MT ν0 c S H fa fb) (n : Nat) (hn : n ≤ 99) (hb : mn + n ≤ 1999) : ∀ (f k : Nat) (ν : gMem), k ≤ n → n - k < f → MI c S (Fq fa fb mn) H mn ho l0 w ν0 ν k →
    ∃ ν', l_X11_levelBehind_2 (nI n) f (nI k) ν = some (nI n, ν') ∧ MI c S (Fq fa fb mn) H mn ho l0 w ν0 ν' n := by
  intro f
  induction f with
  | zero => intro k ν _ h2; omega
  | succ f ih =>
    intro k ν h1 h2 h3
    unfold l_X11_levelBehind_2
    by_cases hk : k = n
    · subst hk
      rw [if_pos (Int32.le_refl _)]
      exact ⟨ν, rfl, h3⟩
    · rw [if_neg (nI_ge (by omega) (by omega))]
      obtain ⟨ν', p1, p2⟩ := m_next hT (by omega) h3
      rw [p1]
      simp only [Option.bind_some, lt, nI_inc]
      exact ih (k + 1) ν' (by omega) (by omega) p2
theorem m_high {c : Nat} {S : W5} {H fa fb : Int32} {mn : Nat} {ho l0 : Int32} {w : W5} {ν0 : gMem} (hT : MT ν0 c S H fa fb) (n : Nat) (hn : n ≤ 99) (hb : mn + n ≤ 1999) : ∀ (f k : Nat) (ν : gMem), k ≤ n → n - k < f → MI c S (Fq fa fb mn) H mn ho l0 w ν0 ν k →
    ∃ ν', l_X11_highestOf_10 (nI n) f (hseq H ho l0 (QQ c S (Fq fa fb mn) w) k) (nI k) ν = some (hseq H ho l0 (QQ c S (Fq fa fb mn) w) n, nI n, ν') ∧ MI c S (Fq fa fb mn) H mn ho l0 w ν0 ν' n := by
  intro f
  induction f with
  | zero => intro k ν _ h2; omega
  | succ f ih =>
    intro k ν h1 h2 h3
    unfold l_X11_highestOf_10
    by_cases hk : k = n
    · subst hk
      rw [if_pos (Int32.le_refl _)]
      exact ⟨ν, rfl, h3⟩
    · rw [if_neg (nI_ge (by omega) (by omega))]
      obtain ⟨ν', p1, p2⟩ := m_next hT (by omega) h3
      rw [p1]
      simp only [Option.bind_some, lt, nI_inc]
      have e : (if rseq H ho l0 (QQ c S (Fq fa fb mn) w) k ≤ hseq H ho l0 (QQ c S (Fq fa fb mn) w) k then hseq H ho l0 (QQ c S (Fq fa fb mn) w) k else rseq H ho l0 (QQ c S (Fq fa fb mn) w) k) = hseq H ho l0 (QQ c S (Fq fa fb mn) w) (k + 1) := by
        rw [hseq]
        by_cases hh : hseq H ho l0 (QQ c S (Fq fa fb mn) w) k < rseq H ho l0 (QQ c S (Fq fa fb mn) w) k
        · rw [if_pos hh, if_neg (Int32.not_le.mpr hh)]
        · rw [if_neg hh, if_pos (Int32.not_lt.mp hh)]
      rw [e]
      exact ih (k + 1) ν' (by omega) (by omega) p2
theorem m_full {c : Nat} {S : W5} {H fa fb : Int32} {mn : Nat} {ho l0 : Int32} {w : W5} {ν0 : gMem} (hT : MT ν0 c S H fa fb) (n : Nat) (hn : n ≤ 99) (hb : mn + n ≤ 1999) : ∀ (f k : Nat) (ν : gMem), k ≤ n → n - k < f → MI c S (Fq fa fb mn) H mn ho l0 w ν0 ν k →
    ∃ (q : Int32) (ν' : gMem), l_X11_fullIn_4 (nI n) f (fseq H ho l0 (QQ c S (Fq fa fb mn) w) k) (nI (k + 1)) ν = some (fseq H ho l0 (QQ c S (Fq fa fb mn) w) n, q, ν') ∧ ∀ b, b ≠ 142 → ν' b = ν0 b := by
  intro f
  induction f with
  | zero => intro k ν _ h2; omega
  | succ f ih =>
    intro k ν h1 h2 h3
    unfold l_X11_fullIn_4
    by_cases hk : k = n
    · subst hk
      rw [if_pos (nI_lt (by omega) (by omega))]
      exact ⟨_, ν, rfl, h3.1⟩
    · rw [if_neg (nI_nlt (by omega) (by omega))]
      by_cases hf : fseq H ho l0 (QQ c S (Fq fa fb mn) w) k = -1
      · rw [hf, if_neg (by decide)]
        obtain ⟨ν', p1, p2⟩ := m_next hT (by omega) h3
        rw [p1]
        have e0 : ν' 141 0 = H := by rw [p2.1 141 (by decide)]; exact hT.2.2.2.2.1
        simp only [Option.bind_some, lt, nI_inc, Int32.reduceToNatClampNeg, e0]
        have e : (if rseq H ho l0 (QQ c S (Fq fa fb mn) w) k = H then nI (k + 1) else -1) = fseq H ho l0 (QQ c S (Fq fa fb mn) w) (k + 1) := by
          rw [fseq, if_pos hf]
        rw [e]
        exact ih (k + 1) ν' (by omega) (by omega) p2
      · have hn2 : fseq H ho l0 (QQ c S (Fq fa fb mn) w) n = fseq H ho l0 (QQ c S (Fq fa fb mn) w) k := by
          have := fseq_stay hf (n - k)
          rw [show k + (n - k) = n by omega] at this
          exact this
        rw [hn2]
        rcases fseq_val H ho l0 (QQ c S (Fq fa fb mn) w) k with e | ⟨j, j1, j2, j3⟩
        · exact absurd e hf
        · rw [j3, if_pos (nI_pos' (by omega))]
          exact ⟨_, ν, rfl, h3.1⟩
theorem m_takeBack (ν : gMem) : ∃ ν', f_X11_takeBack ν = some ν' ∧ (∀ k, k < 35 → ν' 142 k = ν 148 k) ∧ ∀ b, b ≠ 142 → ν' b = ν b := by
  obtain ⟨m, p1, p2, p3, p4⟩ := lp_takeBack ν gF 0 ν (by omega) (by unfold gF; omega) (fun j hj => by omega) (fun _ _ => rfl) (fun _ _ => rfl)
  have p1' : l_X11_takeBack_2 gF 0 ν = some (nI 35, m) := p1
  unfold f_X11_takeBack
  rw [p1']
  exact ⟨m, rfl, p2, p4⟩
theorem m_putAside (ν : gMem) : ∃ ν', f_X11_putAside ν = some ν' ∧ (∀ k, k < 35 → ν' 148 k = ν 142 k) ∧ ∀ b, b ≠ 148 → ν' b = ν b := by
  obtain ⟨m, p1, p2, p3, p4⟩ := lp_putAside ν gF 0 ν (by omega) (by unfold gF; omega) (fun j hj => by omega) (fun _ _ => rfl) (fun _ _ => rfl)
  have p1' : l_X11_putAside_2 gF 0 ν = some (nI 35, m) := p1
  unfold f_X11_putAside
  rw [p1']
  exact ⟨m, rfl, p2, p4⟩
/-- the reference's three questions of a scene -/
theorem m_levelBehind {c : Nat} {S : W5} {H fa fb : Int32} {mn : Nat} {w : W5} {ν : gMem} {x : V5} (hT : MT ν c S H fa fb) (n : Nat) (hn : n ≤ 99) (hb : mn + n ≤ 1999) (h : mSc (ν 141) (ν 142) x w) (hx : x.1 = nI mn) (h0 : ∀ s, c ≤ s → s < 5 → w s = (0, 0, 0, 0, 0)) :
    ∃ ν', f_X11_levelBehind (nI n) ν = some (lseq H x.2.2.1 x.2.1 (QQ c S (Fq fa fb mn) w) n, ν') ∧ (∀ k, k < 35 → ν' 142 k = ν 148 k) ∧ ∀ b, b ≠ 142 → ν' b = ν b := by
  obtain ⟨ν1, p1, p2⟩ := m_level hT n hn hb gF 0 ν (by omega) (by unfold gF; omega) (MI.start h hx h0)
  have p1' : l_X11_levelBehind_2 (nI n) gF 0 ν = some (nI n, ν1) := p1
  obtain ⟨ν2, q1, q2, q3⟩ := m_takeBack ν1
  obtain ⟨g1, x', w', g2, g3, g4, g5, g6, g7⟩ := p2
  have e31 : ν1 142 31 = x'.2.1 := by rw [← g2.1]; rfl
  unfold f_X11_levelBehind
  simp only [p1', Option.bind_some, lt, q1, Int32.reduceToNatClampNeg, e31, g4]
  exact ⟨ν2, rfl, fun k hk => by rw [q2 k hk, g1 148 (by decide)], fun b hb => by rw [q3 b hb, g1 b hb]⟩
theorem m_highestOf {c : Nat} {S : W5} {H fa fb : Int32} {mn : Nat} {w : W5} {ν : gMem} {x : V5} (hT : MT ν c S H fa fb) (n : Nat) (hn : n ≤ 99) (hb : mn + n ≤ 1999) (h : mSc (ν 141) (ν 142) x w) (hx : x.1 = nI mn) (h0 : ∀ s, c ≤ s → s < 5 → w s = (0, 0, 0, 0, 0)) :
    ∃ ν', f_X11_highestOf (nI n) ν = some (hseq H x.2.2.1 x.2.1 (QQ c S (Fq fa fb mn) w) n, ν') ∧ (∀ k, k < 35 → ν' 142 k = ν 148 k) ∧ ∀ b, b ≠ 142 → ν' b = ν b := by
  obtain ⟨ν1, p1, p2⟩ := m_high hT n hn hb gF 0 ν (by omega) (by unfold gF; omega) (MI.start h hx h0)
  have e31 : ν 142 31 = x.2.1 := by rw [← h.1]; rfl
  have p1' : l_X11_highestOf_10 (nI n) gF x.2.1 0 ν = some (hseq H x.2.2.1 x.2.1 (QQ c S (Fq fa fb mn) w) n, nI n, ν1) := p1
  obtain ⟨ν2, q1, q2, q3⟩ := m_takeBack ν1
  obtain ⟨g1, x', w', g2, g3, g4, g5, g6, g7⟩ := p2
  unfold f_X11_highestOf
  simp only [e31, p1', Option.bind_some, lt, q1, Int32.reduceToNatClampNeg]
  exact ⟨ν2, rfl, fun k hk => by rw [q2 k hk, g1 148 (by decide)], fun b hb => by rw [q3 b hb, g1 b hb]⟩
theorem m_fullIn {c : Nat} {S : W5} {H fa fb : Int32} {mn : Nat} {w : W5} {ν : gMem} {x : V5} (hT : MT ν c S H fa fb) (n : Nat) (hn : n ≤ 99) (hb : mn + n ≤ 1999) (h : mSc (ν 141) (ν 142) x w) (hx : x.1 = nI mn) (h0 : ∀ s, c ≤ s → s < 5 → w s = (0, 0, 0, 0, 0)) :
    ∃ ν', f_X11_fullIn (nI n) ν = some (fseq H x.2.2.1 x.2.1 (QQ c S (Fq fa fb mn) w) n, ν') ∧ (∀ k, k < 35 → ν' 142 k = ν 148 k) ∧ ∀ b, b ≠ 142 → ν' b = ν b := by
  obtain ⟨q, ν1, p1, p2⟩ := m_full hT n hn hb gF 0 ν (by omega) (by unfold gF; omega) (MI.start h hx h0)
  have p1' : l_X11_fullIn_4 (nI n) gF (-1) 1 ν = some (fseq H x.2.2.1 x.2.1 (QQ c S (Fq fa fb mn) w) n, q, ν1) := p1
  obtain ⟨ν2, q1, q2, q3⟩ := m_takeBack ν1
  unfold f_X11_fullIn
  simp only [p1', Option.bind_some, lt, q1]
  exact ⟨ν2, rfl, fun k hk => by rw [q2 k hk, p2 148 (by decide)], fun b hb => by rw [q3 b hb, p2 b hb]⟩

/-! PURE ROWS: what the functions of parts 30 and 31 answer. -/
theorem st_same {μ : gMem} {a k j : Nat} {v : Int32} : st μ a k v a j = if j = k then v else μ a j := by rw [st_eq]; rfl
theorem st_oth {μ : gMem} {a b k : Nat} {v : Int32} (h : b ≠ a) : st μ a k v b = μ b := st_ne h
theorem st_row {μ : gMem} {a b k j : Nat} {v : Int32} : st μ a k v b j = if b = a ∧ j = k then v else μ b j := by
  unfold st upd
  by_cases h : b = a
  · subst h; by_cases hj : j = k <;> simp [hj]
  · simp [h]
theorem b01 {c : Prop} [Decidable c] : ((if c then (1 : Int32) else 0) = 0) = ¬ c := by
  by_cases h : c <;> simp [h]
theorem b10 {c : Prop} [Decidable c] : ((if c then (0 : Int32) else 1) = 0) = c := by
  by_cases h : c <;> simp [h]
theorem e_isOutside (a lo hi : Int32) (μ : gMem) : f_X10_isOutside a lo hi μ = some (if a < lo ∨ ¬ a ≤ hi then 1 else 0, μ) := by
  unfold f_X10_isOutside lt
  by_cases h : a < lo
  · simp [h]
  · by_cases h2 : a ≤ hi <;> simp [h, h2]
theorem e_isUnknown (a : Int32) (μ : gMem) : f_X10_isUnknown a μ = some (if a < 0 ∨ ¬ a < μ 1 1 then 1 else 0, μ) := by
  unfold f_X10_isUnknown lt
  by_cases h : a < 0
  · simp [h]
  · by_cases h2 : a < μ 1 1 <;> simp [h, h2]
theorem lgc_lt {x y : Int64} : (lg_cmp x y < 0) = (x < y) := by
  unfold lg_cmp
  by_cases h : x > y
  · have h2 : ¬ x < y := lg_lt_not h
    simp [h, h2]
  · by_cases h2 : x = y
    · subst h2
      simp
    · have h3 : x < y := by
        simp only [gt_iff_lt, Int64.lt_iff_toInt_lt] at *
        have : x.toInt ≠ y.toInt := fun z => h2 (Int64.toInt_inj.mp z)
        omega
      simp [h, h2, h3]
theorem lgc_gt {x y : Int64} : (0 < lg_cmp x y) = (y < x) := by
  unfold lg_cmp
  by_cases h : x > y
  · simp only [h, if_true]
    simpa using h
  · by_cases h2 : x = y
    · subst h2
      simp
    · have h3 : ¬ y < x := h
      simp [h2, h3]
theorem i2l_lt {x y : Int32} : (x.toInt64 < y.toInt64) = (x < y) := by
  simp only [Int64.lt_iff_toInt_lt, Int32.lt_iff_toInt_lt, Int32.toInt_toInt64]
theorem e_in (x lo hi : Int64) (μ : gMem) : f_X11_in x lo hi μ = some (if x < lo ∨ hi < x then 0 else 1, μ) := by
  unfold f_X11_in lt
  simp only [lgc_lt, lgc_gt]
  by_cases h : x < lo
  · simp [h]
  · by_cases h2 : hi < x <;> simp [h, h2]
theorem e_inI (x lo hi : Int32) (μ : gMem) : f_X11_in x.toInt64 lo.toInt64 hi.toInt64 μ = some (if x < lo ∨ hi < x then 0 else 1, μ) := by
  simp only [e_in, i2l_lt]
theorem nlt {a b : Int32} : (¬ a ≤ b) = (b < a) := by rw [Int32.not_le]
theorem nle {a b : Int32} : (¬ a < b) = (b ≤ a) := by rw [Int32.not_lt]
theorem ex_ite {c : Prop} [Decidable c] {α : Type} {a b : α} {P : α → Prop} (h1 : c → P a) (h2 : ¬ c → P b) : P (if c then a else b) := by
  by_cases h : c
  · rw [if_pos h]; exact h1 h
  · rw [if_neg h]; exact h2 h
/-! places of the reference's row of the living -/
theorem x0 {s : Nat} (h : s < 5) : ((0 : Int32) + nI s).toNatClampNeg = s ∧ inb ((0 : Int32) + nI s) 35 = true := by
  have : ∀ s, s < 5 → ((0 : Int32) + nI s).toNatClampNeg = s ∧ inb ((0 : Int32) + nI s) 35 = true := by decide
  exact this s h
theorem x5 {s : Nat} (h : s < 5) : ((5 : Int32) + nI s).toNatClampNeg = 5 + s ∧ inb ((5 : Int32) + nI s) 35 = true := by
  have : ∀ s, s < 5 → ((5 : Int32) + nI s).toNatClampNeg = 5 + s ∧ inb ((5 : Int32) + nI s) 35 = true := by decide
  exact this s h
theorem x10 {s : Nat} (h : s < 5) : ((10 : Int32) + nI s).toNatClampNeg = 10 + s ∧ inb ((10 : Int32) + nI s) 35 = true := by
  have : ∀ s, s < 5 → ((10 : Int32) + nI s).toNatClampNeg = 10 + s ∧ inb ((10 : Int32) + nI s) 35 = true := by decide
  exact this s h
theorem x15 {s : Nat} (h : s < 5) : ((15 : Int32) + nI s).toNatClampNeg = 15 + s ∧ inb ((15 : Int32) + nI s) 35 = true := by
  have : ∀ s, s < 5 → ((15 : Int32) + nI s).toNatClampNeg = 15 + s ∧ inb ((15 : Int32) + nI s) 35 = true := by decide
  exact this s h
theorem x20 {s : Nat} (h : s < 5) : ((20 : Int32) + nI s).toNatClampNeg = 20 + s ∧ inb ((20 : Int32) + nI s) 35 = true := by
  have : ∀ s, s < 5 → ((20 : Int32) + nI s).toNatClampNeg = 20 + s ∧ inb ((20 : Int32) + nI s) 35 = true := by decide
  exact this s h
theorem x25 {s : Nat} (h : s < 5) : ((25 : Int32) + nI s).toNatClampNeg = 25 + s ∧ inb ((25 : Int32) + nI s) 35 = true := by
  have : ∀ s, s < 5 → ((25 : Int32) + nI s).toNatClampNeg = 25 + s ∧ inb ((25 : Int32) + nI s) 35 = true := by decide
  exact this s h
theorem xof {s k : Nat} (h : s < 5) (hk : k < 5) : (((6 : Int32) + (5 : Int32) * nI s) + nI k).toNatClampNeg = 6 + 5 * s + k ∧ inb (((6 : Int32) + (5 : Int32) * nI s) + nI k) 31 = true := by
  have : ∀ s, s < 5 → ∀ k, k < 5 → (((6 : Int32) + (5 : Int32) * nI s) + nI k).toNatClampNeg = 6 + 5 * s + k ∧ inb (((6 : Int32) + (5 : Int32) * nI s) + nI k) 31 = true := by decide
  exact this s h k hk
/-! a sister (kind, pace, load, sieve, leak), a walker (how, way, drops, rounds, moss) -/
abbrev V5 : Type := Int32 × Int32 × Int32 × Int32 × Int32
def v5 (f : Nat → Int32) : V5 := (f 0, f 1, f 2, f 3, f 4)
def wkT (s : V5) (r : Int32) : Int32 := if s.1 = 1 then (if 3 ≤ r then s.2.1 + 1 else if 1 < s.2.1 - 1 then s.2.1 - 1 else 1) else s.2.1
def bkT (s : V5) (r : Int32) : Int32 := if s.1 = 2 then wkT s r + 2 else wkT s r
def drT (s : V5) : Int32 := if s.2.2.2.1 = 1 then s.2.2.2.2 / 2 else if s.2.2.2.1 = 2 then (if 0 < s.2.2.2.2 / 2 - 1 then s.2.2.2.2 / 2 - 1 else 0) else if s.2.2.2.1 = 3 then s.2.2.2.2 + 2 else s.2.2.2.2
def drawT (s w : V5) : V5 := (1, wkT s w.2.2.2.1, s.2.2.1, w.2.2.2.1, w.2.2.2.2)
def sitT (w : V5) : V5 := (0, 0, 0, w.2.2.2.1, w.2.2.2.2)
def stT (s : V5) (d : Int32) (w : V5) : Int32 × V5 :=
  if w.1 = 0 then (0, w)
  else if w.2.1 - 1 ≤ 0 then
    if w.1 = 1 then ((if 0 < w.2.2.1 - d then w.2.2.1 - d else 0), (2, bkT s w.2.2.2.1, 0, w.2.2.2.1, w.2.2.2.2))
    else (0, (1, wkT s (w.2.2.2.1 + 1), s.2.2.1, w.2.2.2.1 + 1, w.2.2.2.2))
  else (0, (w.1, w.2.1 - 1, (if 0 < w.2.2.1 - d then w.2.2.1 - d else 0), w.2.2.2.1, w.2.2.2.2))
def pmT (s : V5) (fr : Int32) (w : V5) : Int32 × V5 :=
  if w.2.2.2.2 ≤ 0 then stT s (if fr = 0 then drT s else 0) w
  else stT s ((if fr = 0 then drT s else 0) / 2) (w.1, w.2.1, w.2.2.1, w.2.2.2.1, w.2.2.2.2 - 1)
theorem e_walk (a : Nat) (r : Int32) (μ : gMem) : f_X6_walk a r μ = some (wkT (v5 (μ a)) r, μ) := by
  unfold f_X6_walk wkT v5
  repeat' split
  all_goals simp_all
theorem e_walkBack (a : Nat) (r : Int32) (μ : gMem) : f_X6_walkBack a r μ = some (bkT (v5 (μ a)) r, μ) := by
  unfold f_X6_walkBack bkT
  simp only [e_walk, Option.bind_some]
  have : (v5 (μ a)).1 = μ a 0 := rfl
  rw [this]
  split <;> rfl
theorem e_drip (a : Nat) (μ : gMem) : f_X6_drip a μ = some (drT (v5 (μ a)), μ) := by
  unfold f_X6_drip drT v5
  repeat' split
  all_goals simp_all
theorem v5_st {μ : gMem} {a b k : Nat} {v : Int32} (h : b ≠ a) : v5 (st μ a k v b) = v5 (μ b) := by rw [st_ne h]
theorem e_draw {w s : Nat} (h : s ≠ w) (μ : gMem) : ∃ μ', f_X8_draw w s μ = some μ' ∧ v5 (μ' w) = drawT (v5 (μ s)) (v5 (μ w)) ∧ ∀ b, b ≠ w → μ' b = μ b := by
  refine ⟨_, by unfold f_X8_draw lt; simp only [e_walk, Option.bind_some, v5_st h]; rfl, ?_, fun b hb => by simp only [st_ne hb]⟩
  simp [v5, drawT, st_row, h]
theorem e_pour {w s : Nat} (h : s ≠ w) (μ : gMem) : ∃ μ', f_X8_pour w s μ = some (μ w 2, μ') ∧ v5 (μ' w) = (2, bkT (v5 (μ s)) (μ w 3), 0, μ w 3, μ w 4) ∧ ∀ b, b ≠ w → μ' b = μ b := by
  refine ⟨_, by unfold f_X8_pour lt; simp only [e_walkBack, Option.bind_some, v5_st h]; rfl, ?_, fun b hb => by simp only [st_ne hb]⟩
  simp [v5, st_row]
theorem e_sitDown (w : Nat) (μ : gMem) : ∃ μ', f_X8_sitDown w μ = some μ' ∧ v5 (μ' w) = sitT (v5 (μ w)) ∧ ∀ b, b ≠ w → μ' b = μ b := by
  refine ⟨_, by unfold f_X8_sitDown lt; rfl, ?_, fun b hb => by simp only [st_ne hb]⟩
  simp [v5, sitT, st_row]
theorem e_startAnewW (w : Nat) (μ : gMem) : ∃ μ', f_X8_startAnew w μ = some μ' ∧ v5 (μ' w) = (0, 0, 0, 0, 0) ∧ ∀ b, b ≠ w → μ' b = μ b := by
  obtain ⟨m, h1, h2, h3⟩ := e_sitDown w μ
  refine ⟨_, by unfold f_X8_startAnew lt; rw [h1]; rfl, ?_, fun b hb => by simp only [st_ne hb]; exact h3 b hb⟩
  simp only [v5, sitT] at h2
  simp [v5, st_row]
  simp_all
theorem e_copyW {w s : Nat} (h : s ≠ w) (μ : gMem) : ∃ μ', f_X8_copy w s μ = some μ' ∧ v5 (μ' w) = v5 (μ s) ∧ ∀ b, b ≠ w → μ' b = μ b := by
  refine ⟨_, by unfold f_X8_copy lt; rfl, ?_, fun b hb => by simp only [st_ne hb]⟩
  simp [v5, st_row, h]
def pmCore (w s : Nat) (d : Int32) (m : gMem) : Option (Int32 × gMem) :=
  if m w 0 = 0 then some (0, m)
  else lt (st m w 2 (if 0 < m w 2 - d then m w 2 - d else 0)) (fun m8 => lt (st m8 w 1 (m8 w 1 - 1)) (fun m10 =>
    if m10 w 1 ≤ 0 then (if m10 w 0 = 1 then (f_X8_pour w s m10).bind (fun p => some (p.1, p.2)) else lt (st m10 w 3 (m10 w 3 + 1)) (fun m14 => (f_X8_draw w s m14).bind (fun m17 => some (0, m17)))) else some (0, m10)))
theorem e_core {w s : Nat} (h : s ≠ w) (d : Int32) (m : gMem) : ∃ μ', pmCore w s d m = some ((stT (v5 (m s)) d (v5 (m w))).1, μ') ∧ v5 (μ' w) = (stT (v5 (m s)) d (v5 (m w))).2 ∧ ∀ b, b ≠ w → μ' b = m b := by
  unfold pmCore lt stT
  have e0 : (v5 (m w)).1 = m w 0 := rfl
  have e1 : (v5 (m w)).2.1 = m w 1 := rfl
  have e2 : (v5 (m w)).2.2.1 = m w 2 := rfl
  have e3 : (v5 (m w)).2.2.2.1 = m w 3 := rfl
  have e4 : (v5 (m w)).2.2.2.2 = m w 4 := rfl
  simp only [e0, e1, e2, e3, e4]
  by_cases h0 : m w 0 = 0
  · rw [if_pos h0, if_pos h0]
    exact ⟨m, rfl, rfl, fun _ _ => rfl⟩
  · rw [if_neg h0, if_neg h0]
    have q1 : st (st m w 2 (if 0 < m w 2 - d then m w 2 - d else 0)) w 1 (st m w 2 (if 0 < m w 2 - d then m w 2 - d else 0) w 1 - 1) w 1 = m w 1 - 1 := by simp [st_row]
    have q0 : st (st m w 2 (if 0 < m w 2 - d then m w 2 - d else 0)) w 1 (st m w 2 (if 0 < m w 2 - d then m w 2 - d else 0) w 1 - 1) w 0 = m w 0 := by simp [st_row]
    have q2 : st (st m w 2 (if 0 < m w 2 - d then m w 2 - d else 0)) w 1 (st m w 2 (if 0 < m w 2 - d then m w 2 - d else 0) w 1 - 1) w 2 = (if 0 < m w 2 - d then m w 2 - d else 0) := by simp [st_row]
    have q3 : st (st m w 2 (if 0 < m w 2 - d then m w 2 - d else 0)) w 1 (st m w 2 (if 0 < m w 2 - d then m w 2 - d else 0) w 1 - 1) w 3 = m w 3 := by simp [st_row]
    have q4 : st (st m w 2 (if 0 < m w 2 - d then m w 2 - d else 0)) w 1 (st m w 2 (if 0 < m w 2 - d then m w 2 - d else 0) w 1 - 1) w 4 = m w 4 := by simp [st_row]
    have qo : ∀ b, b ≠ w → st (st m w 2 (if 0 < m w 2 - d then m w 2 - d else 0)) w 1 (st m w 2 (if 0 < m w 2 - d then m w 2 - d else 0) w 1 - 1) b = m b := fun b hb => by simp only [st_ne hb]
    generalize st (st m w 2 (if 0 < m w 2 - d then m w 2 - d else 0)) w 1 (st m w 2 (if 0 < m w 2 - d then m w 2 - d else 0) w 1 - 1) = m10 at q0 q1 q2 q3 q4 qo ⊢
    rw [q1, q0]
    by_cases h1 : m w 1 - 1 ≤ 0
    · rw [if_pos h1, if_pos h1]
      by_cases h2 : m w 0 = 1
      · rw [if_pos h2, if_pos h2]
        obtain ⟨m', p1, p2, p3⟩ := e_pour h m10
        refine ⟨m', by rw [p1]; simp only [Option.bind_some]; rw [q2], ?_, fun b hb => by rw [p3 b hb, qo b hb]⟩
        rw [p2, q3, q4, qo s h]
      · rw [if_neg h2, if_neg h2]
        obtain ⟨m', p1, p2, p3⟩ := e_draw h (st m10 w 3 (m10 w 3 + 1))
        refine ⟨m', by rw [p1]; rfl, ?_, fun b hb => by rw [p3 b hb, st_ne hb, qo b hb]⟩
        rw [p2, st_ne h, qo s h]
        simp [v5, drawT, st_row, q3, q4]
    · rw [if_neg h1, if_neg h1]
      refine ⟨m10, rfl, ?_, qo⟩
      simp [v5, q0, q1, q2, q3, q4]
theorem e_pm {w s : Nat} (h : s ≠ w) (fr : Int32) (μ : gMem) : ∃ μ', f_X8_passMinute w s fr μ = some ((pmT (v5 (μ s)) fr (v5 (μ w))).1, μ') ∧ v5 (μ' w) = (pmT (v5 (μ s)) fr (v5 (μ w))).2 ∧ ∀ b, b ≠ w → μ' b = μ b := by
  have key : f_X8_passMinute w s fr μ = if μ w 4 ≤ 0 then pmCore w s (if fr = 0 then drT (v5 (μ s)) else 0) μ else pmCore w s ((if fr = 0 then drT (v5 (μ s)) else 0) / 2) (st μ w 4 (μ w 4 - 1)) := by
    unfold f_X8_passMinute
    simp only [e_drip, Option.bind_some]
    by_cases hf : fr = 0
    · rw [if_pos hf, if_pos hf]
      rfl
    · rw [if_neg hf, if_neg hf]
      rfl
  have e4 : (v5 (μ w)).2.2.2.2 = μ w 4 := rfl
  rw [key]
  unfold pmT
  rw [e4]
  by_cases hm : μ w 4 ≤ 0
  · rw [if_pos hm, if_pos hm]
    exact e_core h _ μ
  · rw [if_neg hm, if_neg hm]
    obtain ⟨m', p1, p2, p3⟩ := e_core h ((if fr = 0 then drT (v5 (μ s)) else 0) / 2) (st μ w 4 (μ w 4 - 1))
    have ev : v5 (st μ w 4 (μ w 4 - 1) w) = ((v5 (μ w)).1, (v5 (μ w)).2.1, (v5 (μ w)).2.2.1, (v5 (μ w)).2.2.2.1, μ w 4 - 1) := by simp [v5, st_row]
    rw [ev, st_ne h] at p1 p2
    exact ⟨m', p1, p2, fun b hb => by rw [p3 b hb, st_ne hb]⟩

/-! The layout: which cell is what, in the order in which the two constructors make them (wip/whole/layout.py). -/
def kdL : List Nat := [9, 7, 23, 6, 6, 6, 6, 6, 3, 20, 0, 26, 20, 20, 20, 20, 5, 24, 8, 8, 8, 8, 8, 4, 22, 5, 24, 8, 8, 8, 8, 8, 5, 24, 8, 8, 8, 8, 8, 5, 24, 8, 8, 8, 8, 8, 5, 24, 8, 8, 8, 8, 8, 5, 24, 8, 8, 8, 8, 8, 5, 24, 8, 8, 8, 8, 8, 5, 24, 8, 8, 8, 8, 8, 5, 24, 8, 8, 8, 8, 8, 22, 5, 24, 8, 8, 8, 8, 8, 5, 24, 8, 8, 8, 8, 8, 21, 2, 25, 20, 20, 20, 20, 20, 8, 20, 1, 25, 20, 20, 20, 20, 20, 20, 20, 20, 20, 20, 20, 20, 20, 20, 20, 20, 20, 20, 20, 20, 25, 20, 20, 20, 20, 20, 20, 20, 8, 20, 20, 20, 10, 20, 20, 20, 20, 20, 21, 20, 20, 20, 20]
def lnL : List Nat := [0, 0, 5, 0, 0, 0, 0, 0, 0, 160, 0, 12, 14, 14, 14, 14, 0, 5, 0, 0, 0, 0, 0, 0, 8, 0, 5, 0, 0, 0, 0, 0, 0, 5, 0, 0, 0, 0, 0, 0, 5, 0, 0, 0, 0, 0, 0, 5, 0, 0, 0, 0, 0, 0, 5, 0, 0, 0, 0, 0, 0, 5, 0, 0, 0, 0, 0, 0, 5, 0, 0, 0, 0, 0, 0, 5, 0, 0, 0, 0, 0, 2, 0, 5, 0, 0, 0, 0, 0, 0, 5, 0, 0, 0, 0, 0, 2, 0, 5, 99, 99, 99, 99, 99, 0, 100, 0, 20, 40, 40, 40, 40, 40, 40, 40, 40, 40, 40, 40, 40, 40, 40, 40, 40, 40, 40, 40, 40, 6, 40, 40, 40, 40, 40, 40, 5, 0, 5, 6, 6, 0, 31, 35, 160, 31, 280, 2, 70, 35, 5, 12]
def kd (a : Nat) : Nat := kdL.getD a 99
def ln (a : Nat) : Nat := lnL.getD a 0
/-- how many fields a class has -/
def nfL : List Nat := [7, 10, 7, 5, 3, 6, 5, 8, 5, 12, 20]
/-- the cell that a field of a class at a refers to; none: it is an int -/
def rfO (a c k : Nat) : Option Nat := match c, k with
  | 0, 0 => some 11
  | 0, 1 => some 12
  | 0, 2 => some 13
  | 0, 3 => some 14
  | 0, 4 => some 15
  | 1, 0 => some 1
  | 1, 1 => some 107
  | 1, 2 => some 128
  | 1, 3 => some 135
  | 1, 4 => some 136
  | 1, 5 => some 137
  | 2, 0 => some 1
  | 2, 1 => some 98
  | 2, 2 => some 104
  | 2, 3 => some 105
  | 3, 0 => some 9
  | 4, 0 => some 24
  | 5, 5 => some (a + 1)
  | 7, 0 => some 2
  | 9, 0 => some 1
  | 9, 1 => some 8
  | 9, 2 => some 10
  | 9, 3 => some 16
  | 9, 4 => some 23
  | 9, 5 => some 81
  | 9, 6 => some 96
  | 9, 7 => some 97
  | 9, 8 => some 106
  | 9, 9 => some 138
  | 9, 10 => some 139
  | 10, 0 => some 141
  | 10, 2 => some 142
  | 10, 3 => some 143
  | 10, 9 => some 144
  | 10, 12 => some 145
  | 10, 14 => some 146
  | 10, 15 => some 147
  | 10, 16 => some 148
  | 10, 17 => some 149
  | 10, 18 => some 150
  | _, _ => none
/-- the cell that an array of references has at j -/
def rfA (a j : Nat) : Nat := if kd a = 22 then a + 1 + 7 * j else a + 1 + j
def gFld (κ : Nat → Nat) (μ : gMem) (a c k : Nat) : Value := match rfO a c k with
  | some r => .ref (κ 0 + r)
  | none => .int (μ a k)
def gFs (κ : Nat → Nat) (μ : gMem) (a c : Nat) : List Value := (List.range (nfL.getD c 0)).map (gFld κ μ a c)
def gRow (κ : Nat → Nat) (a : Nat) : (Nat → Int32) ⊕ (Nat → Int64) ⊕ (Nat → UInt32) ⊕ (Nat → UInt64) ⊕ (Nat → Option Nat) := .inr (.inr (.inr (.inr (fun j => if j < ln a then some (κ 0 + rfA a j) else none))))
def wOf (κ : Nat → Nat) (μ : gMem) (a : Nat) : va_E := match kd a with
  | 20 => .inl (κ 30, ln a, .inl (μ a))
  | 21 => .inl (κ 31, ln a, .inl (μ a))
  | 22 => .inl (κ 32, ln a, gRow κ a)
  | 23 => .inl (κ 33, ln a, gRow κ a)
  | 24 => .inl (κ 34, ln a, gRow κ a)
  | 25 => .inl (κ 35, ln a, gRow κ a)
  | 26 => .inl (κ 36, 12, .inr (.inr (.inr (.inr (fun j => if j < 12 then some (κ (40 + j)) else none)))))
  | c => .inr (c, gFs κ μ a c)
def st (μ : gMem) (a k : Nat) (v : Int32) : gMem := fun a' => if a' = a then upd (μ a) k v else μ a'
theorem wOf_int {κ : Nat → Nat} {μ : gMem} {a : Nat} (h : kd a = 20) : wOf κ μ a = .inl (κ 30, ln a, .inl (μ a)) := by unfold wOf; rw [h]; rfl
theorem wOf_bool {κ : Nat → Nat} {μ : gMem} {a : Nat} (h : kd a = 21) : wOf κ μ a = .inl (κ 31, ln a, .inl (μ a)) := by unfold wOf; rw [h]; rfl
theorem wOf_word {κ : Nat → Nat} {μ : gMem} {a : Nat} (h : kd a = 26) : wOf κ μ a = .inl (κ 36, 12, .inr (.inr (.inr (.inr (fun j => if j < 12 then some (κ (40 + j)) else none))))) := by unfold wOf; rw [h]; rfl
theorem wOf_obj {κ : Nat → Nat} {μ : gMem} {a c : Nat} (h : kd a = c) (hc : c < 11) : wOf κ μ a = .inr (c, gFs κ μ a c) := by
  unfold wOf
  rw [h]
  match c, hc with
  | 0, _ | 1, _ | 2, _ | 3, _ | 4, _ | 5, _ | 6, _ | 7, _ | 8, _ | 9, _ | 10, _ => rfl
theorem wOf_refs {κ : Nat → Nat} {μ : gMem} {a c : Nat} (h : kd a = c) (h1 : 22 ≤ c) (h2 : c ≤ 25) : wOf κ μ a = .inl (κ (c + 10), ln a, gRow κ a) := by
  unfold wOf
  rw [h]
  have : c = 22 ∨ c = 23 ∨ c = 24 ∨ c = 25 := by omega
  rcases this with rfl | rfl | rfl | rfl <;> rfl
theorem gFs_at {κ : Nat → Nat} {μ : gMem} {a c k : Nat} (h : k < nfL.getD c 0) : (gFs κ μ a c)[k]? = some (gFld κ μ a c k) := by
  unfold gFs
  rw [List.getElem?_map, List.getElem?_range h]
  rfl
theorem st_ne {μ : gMem} {a b k : Nat} {v : Int32} (h : b ≠ a) : st μ a k v b = μ b := by unfold st; rw [if_neg h]
theorem st_eq {μ : gMem} {a k : Nat} {v : Int32} : st μ a k v a = upd (μ a) k v := by unfold st; rw [if_pos rfl]
theorem wOf_ne {κ : Nat → Nat} {μ : gMem} {a b k : Nat} {v : Int32} (h : b ≠ a) : wOf κ (st μ a k v) b = wOf κ μ b := by
  have hf : ∀ c, gFs κ (st μ a k v) b c = gFs κ μ b c := fun c => by
    unfold gFs
    apply List.map_congr_left
    intro j _
    unfold gFld
    rw [st_ne h]
  unfold wOf
  simp only [st_ne h, hf]
theorem wOf_stI {κ : Nat → Nat} {μ : gMem} {a k : Nat} {v : Int32} (h : kd a = 20) : va_up (wOf κ μ) a (.inl (κ 30, ln a, .inl (upd (μ a) k v))) = wOf κ (st μ a k v) := by
  funext b
  by_cases hb : b = a
  · subst hb
    rw [wOf_int h, st_eq]
    simp [va_up]
  · rw [wOf_ne hb]
    simp [va_up, hb]
theorem wOf_stZ {κ : Nat → Nat} {μ : gMem} {a k : Nat} {v : Int32} (h : kd a = 21) : va_up (wOf κ μ) a (.inl (κ 31, ln a, .inl (upd (μ a) k v))) = wOf κ (st μ a k v) := by
  funext b
  by_cases hb : b = a
  · subst hb
    rw [wOf_bool h, st_eq]
    simp [va_up]
  · rw [wOf_ne hb]
    simp [va_up, hb]
theorem wOf_stO {κ : Nat → Nat} {μ : gMem} {a c k : Nat} {v : Int32} (h : kd a = c) (hc : c < 11) (hr : rfO a c k = none) : va_up (wOf κ μ) a (.inr (c, (gFs κ μ a c).set k (.int v))) = wOf κ (st μ a k v) := by
  funext b
  by_cases hb : b = a
  · subst hb
    rw [wOf_obj h hc]
    simp only [va_up, if_true]
    congr 2
    apply List.ext_getElem?
    intro i
    by_cases hi : i < nfL.getD c 0
    · by_cases hk : i = k
      · subst hk
        rw [List.getElem?_set_self (by simp [gFs]; simpa using hi), gFs_at hi]
        simp [gFld, hr, st_eq, upd]
      · rw [List.getElem?_set_ne (Ne.symm hk), gFs_at hi, gFs_at hi]
        unfold gFld
        rw [st_eq]
        simp [upd, hk]
    · rw [List.getElem?_eq_none (by simp [gFs]; simpa using hi), List.getElem?_eq_none (by simp [gFs]; simpa using hi)]
  · rw [wOf_ne hb]
    simp [va_up, hb]
theorem gC0 : gCl 0 RX0 TX0 7 tyX0 := ⟨rfl, by decide +kernel, tyX0_ok, nmX0⟩
theorem gC1 : gCl 1 RX1 TX1 10 tyX1 := ⟨rfl, by decide +kernel, tyX1_ok, nmX1⟩
theorem gC2 : gCl 2 RX2 TX2 7 tyX2 := ⟨rfl, by decide +kernel, tyX2_ok, nmX2⟩
theorem gC3 : gCl 3 RX3 TX3 5 tyX3 := ⟨rfl, by decide +kernel, tyX3_ok, nmX3⟩
theorem gC4 : gCl 4 RX4 TX4 3 tyX4 := ⟨rfl, by decide +kernel, tyX4_ok, nmX4⟩
theorem gC5 : gCl 5 RX5 TX5 6 tyX5 := ⟨rfl, by decide +kernel, tyX5_ok, nmX5⟩
theorem gC6 : gCl 6 RX6 TX6 5 tyX6 := ⟨rfl, by decide +kernel, tyX6_ok, nmX6⟩
theorem gC7 : gCl 7 RX7 TX7 8 tyX7 := ⟨rfl, by decide +kernel, tyX7_ok, nmX7⟩
theorem gC8 : gCl 8 RX8 TX8 5 tyX8 := ⟨rfl, by decide +kernel, tyX8_ok, nmX8⟩
theorem gC9 : gCl 9 RX10 TX10 12 tyX10 := ⟨rfl, by decide +kernel, tyX10_ok, nmX10⟩
theorem gC10 : gCl 10 RX11 TX11 20 tyX11 := ⟨rfl, by decide +kernel, tyX11_ok, nmX11⟩

/-! words and numbers -/
def cd (T : Nat → Int32) (b : Nat) : Nat → Nat
  | 0 => 0
  | k + 1 => 27 * cd T b k + ((T (b + k)).toNatClampNeg - 96)
theorem let_of {c : Int32} (h : pLe c = true) : ∃ k : Nat, 97 ≤ k ∧ k ≤ 122 ∧ c = nI k := by
  rw [pLe_t] at h
  have h1 : ¬ c < 97 := fun z => h (Or.inl z)
  have h2 : ¬ 122 < c := fun z => h (Or.inr z)
  have h0 : ¬ c < 0 := fun z => h1 (Int32.lt_trans z (by decide))
  obtain ⟨k, hk, rfl⟩ := nI_of h0
  refine ⟨k, ?_, ?_, rfl⟩
  · apply Classical.byContradiction
    intro z
    exact h1 (nI_lt (b := 97) (by omega) (by decide))
  · apply Classical.byContradiction
    intro z
    exact h2 (nI_lt (a := 122) (by omega) hk)
theorem let_dig {c : Int32} (h : pLe c = true) : 1 ≤ c.toNatClampNeg - 96 ∧ c.toNatClampNeg - 96 ≤ 26 := by
  obtain ⟨k, k1, k2, rfl⟩ := let_of h
  rw [cl5 (by omega)]
  omega
theorem let_inj {c d : Int32} (h : pLe c = true) (h2 : pLe d = true) (e : c.toNatClampNeg - 96 = d.toNatClampNeg - 96) : c = d := by
  obtain ⟨k, k1, k2, rfl⟩ := let_of h
  obtain ⟨j, j1, j2, rfl⟩ := let_of h2
  rw [cl5 (by omega), cl5 (by omega)] at e
  rw [show k = j by omega]
theorem cd_inj {T T' : Nat → Int32} {b b' : Nat} : ∀ (n n' : Nat), (∀ k, k < n → pLe (T (b + k)) = true) → (∀ k, k < n' → pLe (T' (b' + k)) = true) → cd T b n = cd T' b' n' → n = n' ∧ ∀ k, k < n → T (b + k) = T' (b' + k)
  | 0, 0, _, _, _ => ⟨rfl, fun k hk => by omega⟩
  | 0, m + 1, _, h', e => by
    have := (let_dig (h' m (by omega))).1
    rw [cd, cd] at e
    omega
  | n + 1, 0, h, _, e => by
    have := (let_dig (h n (by omega))).1
    rw [cd, cd] at e
    omega
  | n + 1, m + 1, h, h', e => by
    have d1 := let_dig (h n (by omega))
    have d2 := let_dig (h' m (by omega))
    rw [cd, cd] at e
    obtain ⟨e1, e2⟩ := cd_inj n m (fun k hk => h k (by omega)) (fun k hk => h' k (by omega)) (by omega)
    subst e1
    refine ⟨rfl, fun k hk => ?_⟩
    by_cases hkn : k = n
    · subst hkn
      exact let_inj (h k (by omega)) (h' k (by omega)) (by omega)
    · exact e2 k (by omega)
theorem cd_lt {T : Nat → Int32} {b : Nat} : ∀ (n : Nat), (∀ k, k < n → pLe (T (b + k)) = true) → cd T b n < 27 ^ n
  | 0, _ => Nat.zero_lt_one
  | n + 1, h => by
    have ih := cd_lt (T := T) (b := b) n (fun k hk => h k (by omega))
    have d1 := let_dig (h n (by omega))
    rw [cd, Nat.pow_succ]
    omega
theorem cd_congr {T T' : Nat → Int32} {b b' : Nat} : ∀ (n : Nat), (∀ k, k < n → T (b + k) = T' (b' + k)) → cd T b n = cd T' b' n
  | 0, _ => rfl
  | n + 1, h => by rw [cd, cd, cd_congr n (fun k hk => h k (by omega)), h n (by omega)]
def gLn (j : Nat) : Nat := gLen.getD j 0
def cdW (j : Nat) : Nat := cd (gCh j) 0 (gLn j)
theorem gLn_tab : ∀ j : Nat, j < 12 → 1 ≤ gLn j ∧ gLn j ≤ 7 := by decide
theorem gCh_let : ∀ j : Nat, j < 12 → ∀ k : Nat, k < gLn j → pLe (gCh j k) = true := by decide +kernel
def IsW (T : Nat → Int32) (b e : Nat) (ty : Int32) (j : Nat) : Prop := ty = 1 ∧ e - b = gLn j ∧ ∀ k, k < gLn j → gCh j k = T (b + k)
theorem c_isWord {μ : gMem} {T : Nat → Int32} {t b e : Nat} {ty : Int32} (h : CX μ T t) (hb : b ≤ e) (he : e ≤ t) (h3 : μ 8 3 = nI b) (h4 : μ 8 4 = nI e) (h2 : μ 8 2 = ty) (j : Nat) (hj : j < 12) : f_X3_isWord j μ = some (fl (IsW T b e ty j), μ) := by
  obtain ⟨g1, g2⟩ := gLn_tab j hj
  have h160 := h.1
  unfold f_X3_isWord
  rw [h2]
  by_cases h1 : ty = 1
  · rw [if_pos h1]
    unfold f_J0_length_8abf5
    simp only [Option.bind_some, h3, h4]
    rw [pk_sub hb]
    by_cases hl : e - b = gLn j
    · rw [if_pos (show Int32.ofNat (gLen.getD j 0) = nI (e - b) by rw [hl]; rfl)]
      have key : ∀ (f k : Nat), k ≤ gLn j → gLn j - k < f → (∀ i, i < k → gCh j i = T (b + i)) → l_X3_isWord_28 j f (nI k) μ = some (fl (IsW T b e ty j), μ) := by
        intro f
        induction f with
        | zero => intro k _ h; omega
        | succ f ih =>
          intro k k1 k2 k3
          unfold l_X3_isWord_28 f_J0_length_8abf5 f_J0_charAt_5068e
          simp only [Option.bind_some]
          have eL : Int32.ofNat (gLen.getD j 0) = nI (gLn j) := rfl
          have eL2 : gLen.getD j 0 = gLn j := rfl
          rw [eL, eL2]
          by_cases hk : k = gLn j
          · rw [if_pos (show nI (gLn j) ≤ nI k by rw [hk]; exact Int32.le_refl _), fl_t ⟨h1, hl, fun i hi => k3 i (by omega)⟩]
          · have hk2 : k < gLn j := by omega
            rw [if_neg (nI_ge hk2 (by omega)), if_pos (inb5 hk2 (by omega)), cl5 (show k < 1000 by omega)]
            simp only [Option.bind_some, h3]
            rw [nI_add, if_pos (inb5 (show b + k < 160 by omega) (by decide)), cl5 (show b + k < 1000 by omega), h.2.2 _ (by omega)]
            by_cases hc : gCh j k = T (b + k)
            · rw [if_pos hc]
              simp only [lt, nI_inc]
              refine ih (k + 1) (by omega) (by omega) (fun i hi => ?_)
              by_cases hik : i = k
              · subst hik; exact hc
              · exact k3 i (by omega)
            · rw [if_neg hc, fl_f (fun z => hc (z.2.2 k hk2))]
      exact key gF 0 (by omega) (by unfold gF; omega) (fun i hi => by omega)
    · rw [if_neg (fun z => hl ((nI_eq (by omega) (by omega)).mp (show nI (e - b) = nI (gLn j) from z.symm))), fl_f (fun z => hl z.2.1)]
  · rw [if_neg h1, fl_f (fun z => h1 z.1)]
theorem c_findWord {μ : gMem} {T : Nat → Int32} {t b e : Nat} {ty : Int32} (h : CX μ T t) (hb : b ≤ e) (he : e ≤ t) (h3 : μ 8 3 = nI b) (h4 : μ 8 4 = nI e) (h2 : μ 8 2 = ty) : ∃ o : Option Nat, f_X0_findWord μ = some (o, μ) ∧ (∀ j, o = some j → j < 12 ∧ IsW T b e ty j) ∧ (o = none → ∀ j, j < 12 → ¬ IsW T b e ty j) := by
  have key : ∀ (f k : Nat), k ≤ 12 → 12 - k < f → (∀ i, i < k → ¬ IsW T b e ty i) → ∃ o : Option Nat, l_X0_findWord_2 f (nI k) μ = some (o, μ) ∧ (∀ j, o = some j → j < 12 ∧ IsW T b e ty j) ∧ (o = none → ∀ j, j < 12 → ¬ IsW T b e ty j) := by
    intro f
    induction f with
    | zero => intro k _ h; omega
    | succ f ih =>
      intro k k1 k2 k3
      unfold l_X0_findWord_2
      by_cases hk : k = 12
      · subst hk
        rw [if_pos (show Int32.ofNat 12 ≤ nI 12 from Int32.le_refl _)]
        exact ⟨none, rfl, fun j z => (by cases z), fun _ => k3⟩
      · have hk2 : k < 12 := by omega
        rw [if_neg (show ¬ Int32.ofNat 12 ≤ nI k from nI_ge (b := 12) hk2 (by decide)), if_pos (inb5 hk2 (by decide)), cl5 (show k < 1000 by omega), c_isWord h hb he h3 h4 h2 k hk2]
        simp only [Option.bind_some]
        by_cases hw : IsW T b e ty k
        · rw [if_neg (fun z => fl_0.mp z hw)]
          exact ⟨some k, rfl, fun j z => (by cases z; exact ⟨hk2, hw⟩), fun z => (by cases z)⟩
        · rw [if_pos (fl_0.mpr hw)]
          simp only [lt, nI_inc]
          refine ih (k + 1) (by omega) (by omega) (fun i hi => ?_)
          by_cases hik : i = k
          · subst hik; exact hw
          · exact k3 i (by omega)
  exact key gF 0 (by omega) (by unfold gF; omega) (fun i hi => by omega)
/-! the reference's words -/
theorem lgc_eq {x y : Int64} : (lg_cmp x y = 0) = (x = y) := by
  unfold lg_cmp
  by_cases h : x > y
  · have h2 : ¬ x = y := fun z => Int64.lt_irrefl (by rw [z] at h; exact h)
    simp only [h, if_true, h2]
    decide
  · by_cases h2 : x = y
    · subst h2
      simp
    · simp only [h, h2, if_false]
      decide
def wcode (T : Nat → Int32) (b e : Nat) (ty : Int32) : Nat := if ty = 1 then cd T b (min (e - b) 9) else 0
theorem m_wordOf {ν : gMem} {T : Nat → Int32} {t b e : Nat} {ty : Int32} (h : MX ν T t) (hb : b ≤ e) (he : e ≤ t) (h8 : ν 140 8 = nI b) (h5 : ν 140 5 = nI e) (h6 : ν 140 6 = mK ty) (hty : ty = 0 ∨ ty = 1 ∨ ty = 2 ∨ ty = 3) (hl : ty = 1 → ∀ i, b ≤ i → i < e → pLe (T i) = true) : f_X11_wordOf ν = some (lN (wcode T b e ty), ν) := by
  have h160 := h.1
  have ex : ∀ (f k : Nat) (l : Int64), b + k ≤ e → k ≤ 9 → 9 - k < f → ∃ (l' : Int64) (q : Int32), l_X11_wordOf_7 f l (nI (b + k)) ν = some (l', q, ν) ∧ (ty = 1 → l = lN (cd T b k) → l' = lN (cd T b (min (e - b) 9))) := by
    intro f
    induction f with
    | zero => intro k l _ _ h; omega
    | succ f ih =>
      intro k l k1 k2 k3
      unfold l_X11_wordOf_7
      rw [h5, h8, show (9 : Int32) = nI 9 from rfl, nI_add]
      by_cases c1 : b + k = e
      · rw [if_pos (show nI e ≤ nI (b + k) by rw [c1]; exact Int32.le_refl _)]
        refine ⟨l, _, rfl, fun _ z => ?_⟩
        rw [z, show min (e - b) 9 = k by omega]
      · rw [if_neg (nI_ge (show b + k < e by omega) (by omega))]
        by_cases c2 : k = 9
        · rw [if_pos (show nI (b + 9) ≤ nI (b + k) by rw [c2]; exact Int32.le_refl _)]
          refine ⟨l, _, rfl, fun _ z => ?_⟩
          rw [z, show min (e - b) 9 = k by omega]
        · rw [if_neg (nI_ge (show b + k < b + 9 by omega) (by omega)), if_pos (inb5 (show b + k < 160 by omega) (by decide)), cl5 (show b + k < 1000 by omega), h.2.2 _ (by omega)]
          simp only [lt, nI_inc]
          obtain ⟨l', q, e1, e2⟩ := ih (k + 1) ((((27 : Int64) * l) + (T (b + k)).toInt64) - (97 : Int64) + (1 : Int64)) (by omega) (by omega) (by omega)
          refine ⟨l', q, e1, fun h1 z => e2 h1 ?_⟩
          obtain ⟨c, d1, d2, d3⟩ := let_of (hl h1 (b + k) (by omega) (by omega))
          rw [z, cd, d3, nI_l (by omega), cl5 (show c < 1000 by omega), show (27 : Int64) = lN 27 from rfl, lN_mul, lN_add, show (97 : Int64) = lN 97 from rfl, lN_sub (by omega), show (1 : Int64) = lN 1 from rfl, lN_add]
          congr 1
          omega
  unfold f_X11_wordOf
  obtain ⟨l', q, e1, e2⟩ := ex gF 0 0 (by omega) (by omega) (by unfold gF; omega)
  rw [Nat.add_zero] at e1
  simp only [lt, h8, e1, Option.bind_some, h6]
  unfold wcode
  by_cases h1 : ty = 1
  · have := e2 h1 rfl
    rw [if_pos (show mK ty = 1 by rw [h1]; decide), if_pos h1, this]
  · have : ¬ mK ty = 1 := by
      rcases hty with z | z | z | z
      · rw [z]; decide
      · exact absurd z h1
      · rw [z]; decide
      · rw [z]; decide
    rw [if_neg this, if_neg h1]
    rfl
def vjN (j : Nat) : Nat := [7, 0, 1, 2, 3, 4, 5, 6, 8, 9, 10, 11].getD j 0
def vO (o : Option Nat) : Int32 := match o with
  | none => -1
  | some j => nI (vjN j)
def verbN (V : Nat) : Int32 := if V = cdW 1 then 0 else if V = cdW 2 then 1 else if V = cdW 3 then 2 else if V = cdW 4 then 3 else if V = cdW 5 then 4 else if V = cdW 6 then 5 else if V = cdW 7 then 6 else if V = cdW 0 then 7 else if V = cdW 8 then 8 else if V = cdW 9 then 9 else if V = cdW 10 then 10 else if V = cdW 11 then 11 else -1
theorem verb_tab : ∀ j : Nat, j < 12 → verbN (cdW j) = nI (vjN j) := by decide +kernel
theorem cdW_tab : ∀ j : Nat, j < 12 → 0 < cdW j ∧ cdW j < 27 ^ 7 := by decide +kernel
theorem sp_tab : [(f_X11_spelt 112 108 97 105 110 0 0 (fun _ _ => 0)).map (fun p => p.1), (f_X11_spelt 114 117 110 110 101 114 0 (fun _ _ => 0)).map (fun p => p.1), (f_X11_spelt 108 97 122 121 0 0 0 (fun _ _ => 0)).map (fun p => p.1), (f_X11_spelt 111 112 101 110 0 0 0 (fun _ _ => 0)).map (fun p => p.1), (f_X11_spelt 108 105 110 101 100 0 0 (fun _ _ => 0)).map (fun p => p.1), (f_X11_spelt 100 111 117 98 108 101 100 (fun _ _ => 0)).map (fun p => p.1), (f_X11_spelt 116 111 114 110 0 0 0 (fun _ _ => 0)).map (fun p => p.1), (f_X11_spelt 119 101 108 108 0 0 0 (fun _ _ => 0)).map (fun p => p.1), (f_X11_spelt 116 117 98 0 0 0 0 (fun _ _ => 0)).map (fun p => p.1), (f_X11_spelt 104 111 108 101 0 0 0 (fun _ _ => 0)).map (fun p => p.1), (f_X11_spelt 102 114 111 115 116 0 0 (fun _ _ => 0)).map (fun p => p.1), (f_X11_spelt 116 104 97 119 0 0 0 (fun _ _ => 0)).map (fun p => p.1)] = [some (lN (cdW 1)), some (lN (cdW 2)), some (lN (cdW 3)), some (lN (cdW 4)), some (lN (cdW 5)), some (lN (cdW 6)), some (lN (cdW 7)), some (lN (cdW 0)), some (lN (cdW 8)), some (lN (cdW 9)), some (lN (cdW 10)), some (lN (cdW 11))] := by decide +kernel
theorem sp_ind (a b c d e f g : Int32) (ν : gMem) {v : Int64} (h : (f_X11_spelt a b c d e f g (fun _ _ => 0)).map (fun p => p.1) = some v) : f_X11_spelt a b c d e f g ν = some (v, ν) := by
  have e : f_X11_spelt a b c d e f g ν = ((f_X11_spelt a b c d e f g (fun _ _ => 0)).map (fun p => p.1)).map (fun r => (r, ν)) := rfl
  rw [e, h]
  rfl
theorem m_verb {ν : gMem} {V : Nat} (hV : V < 2 ^ 63) (h : f_X11_wordOf ν = some (lN V, ν)) : f_X11_verb ν = some (verbN V, ν) := by
  have t := sp_tab
  simp only [List.cons.injEq, and_true] at t
  obtain ⟨t0, t1, t2, t3, t4, t5, t6, t7, t8, t9, t10, t11⟩ := t
  have q : ∀ j, j < 12 → cdW j < 2 ^ 63 := fun j hj => Nat.lt_trans (cdW_tab j hj).2 (by decide)
  unfold f_X11_verb
  simp only [h, Option.bind_some, lt, lgc_eq, sp_ind _ _ _ _ _ _ _ ν t0, sp_ind _ _ _ _ _ _ _ ν t1, sp_ind _ _ _ _ _ _ _ ν t2, sp_ind _ _ _ _ _ _ _ ν t3, sp_ind _ _ _ _ _ _ _ ν t4, sp_ind _ _ _ _ _ _ _ ν t5, sp_ind _ _ _ _ _ _ _ ν t6, sp_ind _ _ _ _ _ _ _ ν t7, sp_ind _ _ _ _ _ _ _ ν t8, sp_ind _ _ _ _ _ _ _ ν t9, sp_ind _ _ _ _ _ _ _ ν t10, sp_ind _ _ _ _ _ _ _ ν t11]
  simp only [pk_lEQ hV (q 0 (by decide)), pk_lEQ hV (q 1 (by decide)), pk_lEQ hV (q 2 (by decide)), pk_lEQ hV (q 3 (by decide)), pk_lEQ hV (q 4 (by decide)), pk_lEQ hV (q 5 (by decide)), pk_lEQ hV (q 6 (by decide)), pk_lEQ hV (q 7 (by decide)), pk_lEQ hV (q 8 (by decide)), pk_lEQ hV (q 9 (by decide)), pk_lEQ hV (q 10 (by decide)), pk_lEQ hV (q 11 (by decide))]
  unfold verbN
  by_cases c1 : V = cdW 1
  · rw [if_pos c1, if_pos c1]
  rw [if_neg c1, if_neg c1]
  by_cases c2 : V = cdW 2
  · rw [if_pos c2, if_pos c2]
  rw [if_neg c2, if_neg c2]
  by_cases c3 : V = cdW 3
  · rw [if_pos c3, if_pos c3]
  rw [if_neg c3, if_neg c3]
  by_cases c4 : V = cdW 4
  · rw [if_pos c4, if_pos c4]
  rw [if_neg c4, if_neg c4]
  by_cases c5 : V = cdW 5
  · rw [if_pos c5, if_pos c5]
  rw [if_neg c5, if_neg c5]
  by_cases c6 : V = cdW 6
  · rw [if_pos c6, if_pos c6]
  rw [if_neg c6, if_neg c6]
  by_cases c7 : V = cdW 7
  · rw [if_pos c7, if_pos c7]
  rw [if_neg c7, if_neg c7]
  by_cases c0 : V = cdW 0
  · rw [if_pos c0, if_pos c0]
  rw [if_neg c0, if_neg c0]
  by_cases c8 : V = cdW 8
  · rw [if_pos c8, if_pos c8]
  rw [if_neg c8, if_neg c8]
  by_cases c9 : V = cdW 9
  · rw [if_pos c9, if_pos c9]
  rw [if_neg c9, if_neg c9]
  by_cases c10 : V = cdW 10
  · rw [if_pos c10, if_pos c10]
  rw [if_neg c10, if_neg c10]
theorem w_code {T : Nat → Int32} {b e : Nat} {ty : Int32} (hb : b ≤ e) (hl : ty = 1 → ∀ i, b ≤ i → i < e → pLe (T i) = true) (j : Nat) (hj : j < 12) : wcode T b e ty = cdW j ↔ IsW T b e ty j := by
  obtain ⟨g1, g2⟩ := gLn_tab j hj
  have hpos := (cdW_tab j hj).1
  unfold wcode IsW
  by_cases h1 : ty = 1
  · rw [if_pos h1]
    constructor
    · intro z
      obtain ⟨e1, e2⟩ := cd_inj (T := T) (T' := gCh j) (b := b) (b' := 0) _ _ (fun k hk => hl h1 _ (by omega) (by omega)) (fun k hk => by rw [Nat.zero_add]; exact gCh_let j hj k hk) z
      refine ⟨h1, by omega, fun k hk => ?_⟩
      have := e2 k (by omega)
      rw [Nat.zero_add] at this
      exact this.symm
    · rintro ⟨-, z2, z3⟩
      rw [show min (e - b) 9 = gLn j by omega]
      exact cd_congr _ (fun k hk => by rw [Nat.zero_add]; exact (z3 k hk).symm)
  · rw [if_neg h1]
    exact ⟨fun z => by omega, fun z => absurd z.1 h1⟩
theorem wcode_lt {T : Nat → Int32} {b e : Nat} {ty : Int32} (hb : b ≤ e) (hl : ty = 1 → ∀ i, b ≤ i → i < e → pLe (T i) = true) : wcode T b e ty < 2 ^ 63 := by
  unfold wcode
  by_cases h1 : ty = 1
  · rw [if_pos h1]
    have := cd_lt (T := T) (b := b) (min (e - b) 9) (fun k hk => hl h1 _ (by omega) (by omega))
    have h27 : 27 ^ (min (e - b) 9) ≤ 27 ^ 9 := Nat.pow_le_pow_right (by decide) (by omega)
    have : (27 : Nat) ^ 9 < 2 ^ 63 := by decide
    omega
  · rw [if_neg h1]
    decide
/-- the word of a token, by both -/
theorem w_both {μ ν : gMem} {T : Nat → Int32} {t a : Nat} (hc : CX μ T t) (hm : MX ν T t) (ha : a ≤ t) (c3 : μ 8 3 = nI (tkB T t a)) (c4 : μ 8 4 = nI (tkE T t a)) (c2 : μ 8 2 = tkT T t a) (m8 : ν 140 8 = nI (tkB T t a)) (m5 : ν 140 5 = nI (tkE T t a)) (m6 : ν 140 6 = mK (tkT T t a)) : ∃ o : Option Nat, f_X0_findWord μ = some (o, μ) ∧ f_X11_verb ν = some (vO o, ν) ∧ ∀ j, o = some j → j < 12 := by
  obtain ⟨f1, f2, f3⟩ := tk_facts (T := T) ha
  have hty : tkT T t a = 0 ∨ tkT T t a = 1 ∨ tkT T t a = 2 ∨ tkT T t a = 3 := by
    unfold tkT
    split
    · exact Or.inl rfl
    · exact Or.inr (tyC_v _)
  have hl : tkT T t a = 1 → ∀ i, tkB T t a ≤ i → i < tkE T t a → pLe (T i) = true := by
    intro h1 i i1 i2
    unfold tkT at h1
    by_cases hbt : tkB T t a = t
    · rw [if_pos hbt] at h1; exact absurd h1 (by decide)
    · rw [if_neg hbt] at h1
      have ee : tkE T t a = rn pLe T t (tkB T t a) := by unfold tkE; rw [if_neg hbt, h1, if_neg (by decide), if_pos rfl]
      rw [ee] at i2
      exact (rn_facts pLe T t _ (tkB T t a) rfl (by omega)).2.2.1 i i1 i2
  obtain ⟨o, o1, o2, o3⟩ := c_findWord hc f2 f3 c3 c4 c2
  have hv := m_verb (wcode_lt f2 hl) (m_wordOf hm f2 f3 m8 m5 m6 hty hl)
  refine ⟨o, o1, ?_, fun j z => (o2 j z).1⟩
  rw [hv]
  cases o with
  | some j =>
    obtain ⟨j1, j2⟩ := o2 j rfl
    rw [(w_code f2 hl j j1).mpr j2, verb_tab j j1]
    rfl
  | none =>
    have hn : ∀ j, j < 12 → ¬ wcode T (tkB T t a) (tkE T t a) (tkT T t a) = cdW j := fun j hj z => o3 rfl j hj ((w_code f2 hl j hj).mp z)
    unfold verbN
    simp only [hn 0 (by decide), hn 1 (by decide), hn 2 (by decide), hn 3 (by decide), hn 4 (by decide), hn 5 (by decide), hn 6 (by decide), hn 7 (by decide), hn 8 (by decide), hn 9 (by decide), hn 10 (by decide), hn 11 (by decide), if_false]
    rfl
/-! numbers -/
def RdN (T : Nat → Int32) (t a lo hi : Nat) : Option Nat := if tkT T t a = 2 ∧ tkE T t a - tkB T t a ≤ 2 ∧ lo ≤ (nv T (tkB T t a) (tkE T t a - tkB T t a)).toNatClampNeg ∧ (nv T (tkB T t a) (tkE T t a - tkB T t a)).toNatClampNeg ≤ hi then some (nv T (tkB T t a) (tkE T t a - tkB T t a)).toNatClampNeg else none
theorem tk_digs {T : Nat → Int32} {t a : Nat} (ha : a ≤ t) (h : tkT T t a = 2) : ∀ i, tkB T t a ≤ i → i < tkE T t a → pDi (T i) = true := by
  intro i i1 i2
  obtain ⟨f1, f2, f3⟩ := tk_facts (T := T) ha
  unfold tkT at h
  by_cases hbt : tkB T t a = t
  · rw [if_pos hbt] at h; exact absurd h (by decide)
  · rw [if_neg hbt] at h
    have ee : tkE T t a = rn pDi T t (tkB T t a) := by unfold tkE; rw [if_neg hbt, h, if_neg (by decide), if_neg (by decide)]
    rw [ee] at i2
    exact (rn_facts pDi T t _ (tkB T t a) rfl (by omega)).2.2.1 i i1 i2
def NV (T : Nat → Int32) (t a : Nat) : Int32 := if tkT T t a = 2 ∧ tkE T t a - tkB T t a ≤ 2 then nv T (tkB T t a) (tkE T t a - tkB T t a) else -1
theorem NV_rd {T : Nat → Int32} {t a : Nat} (ha : a ≤ t) (lo hi : Nat) (hlo : lo ≤ 99) (hhi : hi ≤ 99) : (RdN T t a lo hi = none ∧ (NV T t a < nI lo ∨ ¬ NV T t a ≤ nI hi)) ∨ ∃ v : Nat, RdN T t a lo hi = some v ∧ lo ≤ v ∧ v ≤ hi ∧ NV T t a = nI v ∧ ¬ (NV T t a < nI lo ∨ ¬ NV T t a ≤ nI hi) := by
  unfold RdN NV
  by_cases h1 : tkT T t a = 2 ∧ tkE T t a - tkB T t a ≤ 2
  · obtain ⟨f1, f2, f3⟩ := tk_facts (T := T) ha
    obtain ⟨v, v1, v2, v3⟩ := nv_val (T := T) (b := tkB T t a) (k := tkE T t a - tkB T t a) h1.2 (fun i i1 i2 => tk_digs ha h1.1 i i1 (by omega))
    rw [if_pos h1, v3, cl5 (show v < 1000 by omega)]
    by_cases h2 : lo ≤ v ∧ v ≤ hi
    · right
      refine ⟨v, by rw [if_pos ⟨h1.1, h1.2, h2.1, h2.2⟩], h2.1, h2.2, rfl, ?_⟩
      rintro (z | z)
      · exact nI_nlt h2.1 (by omega) z
      · exact z (nI_le h2.2 (by omega))
    · left
      refine ⟨by rw [if_neg (fun z => h2 ⟨z.2.2.1, z.2.2.2⟩)], ?_⟩
      by_cases h3 : lo ≤ v
      · exact Or.inr (nI_ge (show hi < v by omega) (by omega))
      · exact Or.inl (nI_lt (by omega) (by omega))
  · left
    refine ⟨by rw [if_neg (fun z => h1 ⟨z.1, z.2.1⟩)], Or.inl ?_⟩
    rw [if_neg h1]
    exact Int32.lt_of_lt_of_le (show (-1 : Int32) < 0 by decide) (nI_pos' (by omega))
theorem c_number {μ : gMem} {T : Nat → Int32} {t a : Nat} (h : CX μ T t) (ha : a ≤ t) (h3 : μ 8 3 = nI (tkB T t a)) (h4 : μ 8 4 = nI (tkE T t a)) (h2 : μ 8 2 = tkT T t a) : f_X3_number μ = some (NV T t a, μ) := by
  obtain ⟨f1, f2, f3⟩ := tk_facts (T := T) ha
  have h160 := h.1
  unfold f_X3_number NV
  rw [h2]
  by_cases h1 : tkT T t a = 2
  · rw [if_pos h1, h3, h4, pk_sub f2]
    by_cases hl : tkE T t a - tkB T t a ≤ 2
    · rw [if_pos (show nI (tkE T t a - tkB T t a) ≤ (2 : Int32) from nI_le (b := 2) hl (by decide)), if_pos ⟨h1, hl⟩]
      have key : ∀ (f k : Nat), tkB T t a + k ≤ tkE T t a → tkE T t a - (tkB T t a + k) < f → l_X3_number_30 f (nv T (tkB T t a) k) (nI (tkB T t a + k)) μ = some (nv T (tkB T t a) (tkE T t a - tkB T t a), nI (tkE T t a), μ) := by
        intro f
        induction f with
        | zero => intro k _ h; omega
        | succ f ih =>
          intro k k1 k2
          unfold l_X3_number_30
          rw [h4]
          by_cases hk : tkB T t a + k = tkE T t a
          · rw [if_pos (show nI (tkE T t a) ≤ nI (tkB T t a + k) by rw [hk]; exact Int32.le_refl _), show tkE T t a - tkB T t a = k by omega, hk]
          · rw [if_neg (nI_ge (show tkB T t a + k < tkE T t a by omega) (by omega)), if_pos (inb5 (show tkB T t a + k < 160 by omega) (by decide)), cl5 (show tkB T t a + k < 1000 by omega), h.2.2 _ (by omega)]
            simp only [lt, nI_inc]
            have hI := ih (k + 1) (by omega) (by omega)
            rw [nv, Int32.mul_comm] at hI
            exact hI
      have k0 := key gF 0 (by omega) (by unfold gF; omega)
      have k0' : l_X3_number_30 gF 0 (nI (tkB T t a)) μ = some (nv T (tkB T t a) (tkE T t a - tkB T t a), nI (tkE T t a), μ) := k0
      simp only [lt, k0', Option.bind_some]
    · rw [if_neg (show ¬ nI (tkE T t a - tkB T t a) ≤ (2 : Int32) from nI_ge (a := 2) (by omega) (by omega)), if_neg (fun z => hl z.2)]
  · rw [if_neg h1, if_neg (fun z => h1 z.1)]
def rO (o : Option Nat) : Int32 := match o with
  | none => -1
  | some v => nI v
theorem m_number {ν : gMem} {T : Nat → Int32} {t a : Nat} (h : MX ν T t) (ha : a ≤ t) (h5 : ν 140 5 = nI a) (lo hi : Nat) (hlo : lo ≤ 99) (hhi : hi ≤ 99) : ∃ ν', f_X11_number (nI lo) (nI hi) ν = some (rO (RdN T t a lo hi), ν') ∧ ν' 140 8 = nI (tkB T t a) ∧ ν' 140 5 = nI (tkE T t a) ∧ KM ν ν' := by
  obtain ⟨ν', p1, p2, p3, p4, p5, p6, p7⟩ := m_token h ha h5
  unfold f_X11_number
  rw [p1]
  simp only [Option.bind_some, p4]
  by_cases h1 : tkT T t a = 2
  · rw [h1, if_pos (show mK 2 = 2 by decide), e_inI]
    simp only [Option.bind_some, lt, b10]
    have h7 := p5 h1
    rw [h7]
    by_cases hl : tkE T t a - tkB T t a ≤ 2
    · have eN : NV T t a = nv T (tkB T t a) (tkE T t a - tkB T t a) := by unfold NV; rw [if_pos ⟨h1, hl⟩]
      rw [if_pos hl, ← eN]
      rcases NV_rd (T := T) ha lo hi hlo hhi with ⟨e1, e2⟩ | ⟨v, e1, e2, e3, e4, e5⟩
      · rw [out_in] at e2
        rw [if_pos e2, e1]
        exact ⟨ν', rfl, p2, p3, p7⟩
      · rw [out_in] at e5
        rw [if_neg e5, e1, e4]
        exact ⟨ν', rfl, p2, p3, p7⟩
    · rw [if_neg hl, if_pos (Or.inr (show nI hi < (999 : Int32) from nI_lt (b := 999) (by omega) (by decide)))]
      have e1 : RdN T t a lo hi = none := by unfold RdN; rw [if_neg (fun z => hl z.2.1)]
      rw [e1]
      exact ⟨ν', rfl, p2, p3, p7⟩
  · have hty : tkT T t a = 0 ∨ tkT T t a = 1 ∨ tkT T t a = 2 ∨ tkT T t a = 3 := by
      unfold tkT
      split
      · exact Or.inl rfl
      · exact Or.inr (tyC_v _)
    have : ¬ mK (tkT T t a) = 2 := by
      rcases hty with z | z | z | z
      · rw [z]; decide
      · rw [z]; decide
      · exact absurd z h1
      · rw [z]; decide
    have e1 : RdN T t a lo hi = none := by unfold RdN; rw [if_neg (fun z => h1 z.1)]
    rw [if_neg this, e1]
    exact ⟨ν', rfl, p2, p3, p7⟩

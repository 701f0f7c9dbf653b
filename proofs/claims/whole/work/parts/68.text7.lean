/-! the clauses done; fault, well -/
def CR (μ : gMem) (n : Nat) (R : Nat → Int32) : Prop := μ 1 1 = nI n ∧ (R 0 = μ 1 4 ∧ R 1 = μ 1 5 ∧ R 2 = μ 1 6 ∧ R 3 = μ 1 7 ∧ R 4 = μ 1 2 ∧ R 5 = μ 1 3) ∧ ∀ s, s < 5 → mS R s = v5 (μ (3 + s))
theorem mS_congr {R R' : Nat → Int32} {s : Nat} (hs : s < 5) (h : ∀ k, 6 ≤ k → k < 31 → R' k = R k) : mS R' s = mS R s := by
  unfold mS
  rw [h _ (by omega) (by omega), h _ (by omega) (by omega), h _ (by omega) (by omega), h _ (by omega) (by omega), h _ (by omega) (by omega)]
theorem TOK.congr {n : Nat} {R R' : Nat → Int32} (h : TOK n R) (e : ∀ k, k < 31 → R' k = R k) : TOK n R' := by
  obtain ⟨a1, a2, a3, a4, a5, a6⟩ := h
  refine ⟨a1, fun s hs => by rw [mS_congr (by omega) (fun k _ h2 => e k h2)]; exact a2 s hs, ?_, ?_, ?_, ?_⟩
  · rw [e 0 (by omega)]; exact a3
  · rw [e 1 (by omega)]; exact a4
  · rw [e 4 (by omega)]; exact a5
  · rw [e 5 (by omega)]; exact a6
theorem TInv.tok {μ ν : gMem} (h : TInv μ ν) : CR μ (cnt μ) (ν 141) ∧ TOK (cnt μ) (ν 141) := by
  obtain ⟨a1, a2, a3, a4, a5, a6, a7, a8, a9, a10⟩ := h
  refine ⟨⟨a2, a4, a5⟩, a1, fun s hs => by rw [a5 s (by omega)]; exact a6 s hs, ?_, ?_, ?_, ?_⟩
  · rw [a4.1]; exact a7
  · rw [a4.2.1]; exact a8
  · rw [a4.2.2.2.2.1]; exact a9
  · rw [a4.2.2.2.2.2]; exact a10
theorem CR.congr {μ : gMem} {n : Nat} {R R' : Nat → Int32} (h : CR μ n R) (e : ∀ k, k < 31 → R' k = R k) : CR μ n R' := by
  obtain ⟨h1, ⟨h2, h3, h4, h5, h6, h7⟩, h8⟩ := h
  exact ⟨h1, ⟨by rw [e 0 (by omega)]; exact h2, by rw [e 1 (by omega)]; exact h3, by rw [e 2 (by omega)]; exact h4, by rw [e 3 (by omega)]; exact h5, by rw [e 4 (by omega)]; exact h6, by rw [e 5 (by omega)]; exact h7⟩, fun s hs => by rw [mS_congr hs (fun k _ z => e k z)]; exact h8 s hs⟩
theorem CR.cell {μ m : gMem} {n : Nat} {R : Nat → Int32} (h : CR μ n R) (h1 : m 1 = μ 1) (h3 : ∀ s, s < 5 → m (3 + s) = μ (3 + s)) : CR m n R := by
  obtain ⟨a1, a2, a3⟩ := h
  unfold CR
  rw [h1]
  exact ⟨a1, a2, fun s hs => by rw [h3 s hs]; exact a3 s hs⟩
theorem TInv.of {m N : gMem} {n : Nat} {R : Nat → Int32} (h : CR m n R) (hT : TOK n R) (h1 : N 140 1 = nI n) (e : ∀ k, k < 31 → N 141 k = R k) : TInv m N := by
  have h' := h.congr e
  have hT' := hT.congr e
  obtain ⟨b1, b2, b3⟩ := h'
  obtain ⟨a1, a2, a3, a4, a5, a6⟩ := hT'
  have hc : cnt m = n := by unfold cnt; rw [b1]; exact cl5 (by omega)
  unfold TInv
  rw [hc]
  refine ⟨a1, b1, h1, b2, b3, fun s hs => by rw [← b3 s (by omega)]; exact a2 s hs, ?_, ?_, ?_, ?_⟩
  · rw [← b2.1]; exact a3
  · rw [← b2.2.1]; exact a4
  · rw [← b2.2.2.2.2.1]; exact a5
  · rw [← b2.2.2.2.2.2]; exact a6
theorem c_hear {μ : gMem} {n : Nat} {R : Nat → Int32} (h : CR μ n R) (d k x y : Int32) (hT : (hP d k x y n R).1 ≤ 5) : ∃ μ', f_X7_hear d k x y μ = some μ' ∧ CR μ' (hP d k x y n R).1 (hP d k x y n R).2 ∧ ∀ q, q ≠ 1 → (q < 3 ∨ 8 ≤ q) → μ' q = μ q := by
  obtain ⟨h1, ⟨h2, h3, h4, h5, h6, h7⟩, h8⟩ := h
  have low : ∀ (R' : Nat → Int32) (m : gMem), (∀ j, 6 ≤ j → R' j = R j) → (∀ q, q ≠ 1 → m q = μ q) → ∀ s, s < 5 → mS R' s = v5 (m (3 + s)) := fun R' m e1 e2 s hs => by
    rw [mS_congr hs (fun j z _ => e1 j z), e2 (3 + s) (by omega)]
    exact h8 s hs
  have stn : ∀ (m : gMem) (j : Nat) (v : Int32) (q : Nat), q ≠ 1 → m q = μ q → st m 1 j v q = μ q := fun m j v q hq e => by rw [st_ne hq]; exact e
  have upn : ∀ (Q : Nat → Int32) (i : Nat) (v : Int32) (j : Nat), i < 6 → 6 ≤ j → Q j = R j → upd Q i v j = R j := fun Q i v j hi hj e => by rw [upd_ne (by omega)]; exact e
  unfold f_X7_hear hP at *
  by_cases d0 : d = 0
  · rw [if_pos d0, if_pos d0]
    refine ⟨st (st (st (st (st (st (st μ 1 1 0) 1 2 0) 1 3 3) 1 4 50) 1 5 2) 1 6 (-1)) 1 7 (-1), rfl, ⟨rfl, ⟨rfl, rfl, rfl, rfl, rfl, rfl⟩, low _ _ (fun j hj => upn _ _ _ _ (by omega) hj (upn _ _ _ _ (by omega) hj (upn _ _ _ _ (by omega) hj (upn _ _ _ _ (by omega) hj (upn _ _ _ _ (by omega) hj (upn _ _ _ _ (by omega) hj rfl)))))) (fun q hq => ?_)⟩, fun q hq _ => ?_⟩
    · exact stn _ _ _ _ hq (stn _ _ _ _ hq (stn _ _ _ _ hq (stn _ _ _ _ hq (stn _ _ _ _ hq (stn _ _ _ _ hq (stn _ _ _ _ hq rfl))))))
    · exact stn _ _ _ _ hq (stn _ _ _ _ hq (stn _ _ _ _ hq (stn _ _ _ _ hq (stn _ _ _ _ hq (stn _ _ _ _ hq (stn _ _ _ _ hq rfl))))))
  · rw [if_neg d0] at hT ⊢
    rw [if_neg d0]
    by_cases d1 : d = 1
    · rw [if_pos d1] at hT ⊢
      rw [if_pos d1]
      have hn : n < 5 := by have : n + 1 ≤ 5 := hT; omega
      unfold f_X7_addSister
      rw [h1, if_pos (show nI n < 5 from nI_lt (b := 5) hn (by decide)), if_pos (inb5 hn (by decide)), cl5 (show n < 1000 by omega)]
      simp only [lt, Option.bind_some]
      have en : ¬ (1 : Nat) = 3 + n := by omega
      refine ⟨_, rfl, ⟨?_, ⟨?_, ?_, ?_, ?_, ?_, ?_⟩, fun s hs => ?_⟩, fun q hq hq2 => ?_⟩
      · simp [st_row, h1, nI_1, en]
      · rw [upd_ne (by omega), upd_ne (by omega), upd_ne (by omega), upd_ne (by omega), upd_ne (by omega), h2]; simp [st_row, en]
      · rw [upd_ne (by omega), upd_ne (by omega), upd_ne (by omega), upd_ne (by omega), upd_ne (by omega), h3]; simp [st_row, en]
      · rw [upd_ne (by omega), upd_ne (by omega), upd_ne (by omega), upd_ne (by omega), upd_ne (by omega), h4]; simp [st_row, en]
      · rw [upd_ne (by omega), upd_ne (by omega), upd_ne (by omega), upd_ne (by omega), upd_ne (by omega), h5]; simp [st_row, en]
      · rw [upd_ne (by omega), upd_ne (by omega), upd_ne (by omega), upd_ne (by omega), upd_ne (by omega), h6]; simp [st_row, en]
      · rw [upd_ne (by omega), upd_ne (by omega), upd_ne (by omega), upd_ne (by omega), upd_ne (by omega), h7]; simp [st_row, en]
      · by_cases hsn : s = n
        · subst hsn
          have e : mS (upd (upd (upd (upd (upd R (6 + 5 * s) k) (6 + 5 * s + 1) x) (6 + 5 * s + 2) y) (6 + 5 * s + 3) (R 4)) (6 + 5 * s + 4) (R 5)) s = (k, x, y, R 4, R 5) := by
            unfold mS
            simp only [upd_eq, upd_ne (show 6 + 5 * s ≠ 6 + 5 * s + 4 by omega), upd_ne (show 6 + 5 * s ≠ 6 + 5 * s + 3 by omega), upd_ne (show 6 + 5 * s ≠ 6 + 5 * s + 2 by omega), upd_ne (show 6 + 5 * s ≠ 6 + 5 * s + 1 by omega), upd_ne (show 6 + 5 * s + 1 ≠ 6 + 5 * s + 4 by omega), upd_ne (show 6 + 5 * s + 1 ≠ 6 + 5 * s + 3 by omega), upd_ne (show 6 + 5 * s + 1 ≠ 6 + 5 * s + 2 by omega), upd_ne (show 6 + 5 * s + 2 ≠ 6 + 5 * s + 4 by omega), upd_ne (show 6 + 5 * s + 2 ≠ 6 + 5 * s + 3 by omega), upd_ne (show 6 + 5 * s + 3 ≠ 6 + 5 * s + 4 by omega)]
          rw [e, h6, h7]
          have e1 : ¬ 3 + s = 1 := by omega
          have e3 : ¬ (1 : Nat) = 3 + s := by omega
          simp [v5, st_row, e1, e3]
        · rw [mS_upd (by omega), mS_upd (by omega), mS_upd (by omega), mS_upd (by omega), mS_upd (by omega), h8 s hs]
          congr 1
          rw [st_ne (by omega), st_ne (by omega), st_ne (by omega), st_ne (by omega), st_ne (by omega), st_ne (by omega)]
      · rw [st_ne (by omega), st_ne (by omega), st_ne (by omega), st_ne (by omega), st_ne (by omega), st_ne (by omega)]
    · rw [if_neg d1] at hT ⊢
      rw [if_neg d1]
      by_cases d2 : d = 2
      · rw [if_pos d2, if_pos d2]
        refine ⟨st (st μ 1 2 k) 1 3 x, rfl, ⟨h1, ⟨h2, h3, h4, h5, rfl, rfl⟩, low _ _ (fun j hj => upn _ _ _ _ (by omega) hj (upn _ _ _ _ (by omega) hj rfl)) (fun q hq => ?_)⟩, fun q hq _ => ?_⟩
        · exact stn _ _ _ _ hq (stn _ _ _ _ hq rfl)
        · exact stn _ _ _ _ hq (stn _ _ _ _ hq rfl)
      · rw [if_neg d2] at hT ⊢
        rw [if_neg d2]
        by_cases d3 : d = 3
        · rw [if_pos d3, if_pos d3]
          exact ⟨st μ 1 4 x, rfl, ⟨h1, ⟨rfl, h3, h4, h5, h6, h7⟩, low _ _ (fun j hj => upn _ _ _ _ (by omega) hj rfl) (fun q hq => stn _ _ _ _ hq rfl)⟩, fun q hq _ => stn _ _ _ _ hq rfl⟩
        · rw [if_neg d3] at hT ⊢
          rw [if_neg d3]
          by_cases d4 : d = 4
          · rw [if_pos d4, if_pos d4]
            exact ⟨st μ 1 5 x, rfl, ⟨h1, ⟨h2, rfl, h4, h5, h6, h7⟩, low _ _ (fun j hj => upn _ _ _ _ (by omega) hj rfl) (fun q hq => stn _ _ _ _ hq rfl)⟩, fun q hq _ => stn _ _ _ _ hq rfl⟩
          · rw [if_neg d4] at hT ⊢
            rw [if_neg d4]
            by_cases d5 : d = 5
            · rw [if_pos d5, if_pos d5]
              exact ⟨st (st μ 1 6 x) 1 7 y, rfl, ⟨h1, ⟨h2, h3, rfl, rfl, h6, h7⟩, low _ _ (fun j hj => upn _ _ _ _ (by omega) hj (upn _ _ _ _ (by omega) hj rfl)) (fun q hq => stn _ _ _ _ hq (stn _ _ _ _ hq rfl))⟩, fun q hq _ => stn _ _ _ _ hq (stn _ _ _ _ hq rfl)⟩
            · rw [if_neg d5, if_neg d5]
              exact ⟨st (st μ 1 6 (-1)) 1 7 (-1), rfl, ⟨h1, ⟨h2, h3, rfl, rfl, h6, h7⟩, low _ _ (fun j hj => upn _ _ _ _ (by omega) hj (upn _ _ _ _ (by omega) hj rfl)) (fun q hq => stn _ _ _ _ hq (stn _ _ _ _ hq rfl))⟩, fun q hq _ => stn _ _ _ _ hq (stn _ _ _ _ hq rfl)⟩
theorem c_hears {D K X Y : Nat → Int32} {n0 : Nat} {R0 : Nat → Int32} {c : Nat} (hc : c ≤ 14) (hT : ∀ i, i ≤ c → (hN D K X Y n0 R0 i).1 ≤ 5) : ∀ (f k : Nat) (m : gMem), k ≤ c → c - k < f → m 10 5 = nI c → m 12 = D → m 13 = K → m 14 = X → m 15 = Y → CR m (hN D K X Y n0 R0 k).1 (hN D K X Y n0 R0 k).2 → ∃ m', l_X10_well_27 f (nI k) m = some (nI c, m') ∧ CR m' (hN D K X Y n0 R0 c).1 (hN D K X Y n0 R0 c).2 ∧ ∀ q, q ≠ 1 → (q < 3 ∨ 8 ≤ q) → m' q = m q := by
  intro f
  induction f with
  | zero => intro k m _ h; omega
  | succ f ih =>
    intro k m k1 k2 h5 h12 h13 h14 h15 hR
    rw [l_X10_well_27, h5]
    by_cases hk : k = c
    · subst hk
      rw [if_pos (Int32.le_refl _)]
      exact ⟨m, rfl, hR, fun _ _ _ => rfl⟩
    · have hlt : k < c := by omega
      rw [if_neg (nI_ge hlt (by omega)), if_pos (inb5 (show k < 14 by omega) (by decide)), cl5 (show k < 1000 by omega), h12, h13, h14, h15]
      have hs := hT (k + 1) (by omega)
      rw [hN] at hs
      obtain ⟨m1, p1, p2, p3⟩ := c_hear hR (D k) (K k) (X k) (Y k) hs
      rw [p1]
      simp only [Option.bind_some, lt, nI_inc]
      obtain ⟨m', q1, q2, q3⟩ := ih (k + 1) m1 (by omega) (by omega) (by rw [p3 10 (by decide) (by omega)]; exact h5) (by rw [p3 12 (by decide) (by omega)]; exact h12) (by rw [p3 13 (by decide) (by omega)]; exact h13) (by rw [p3 14 (by decide) (by omega)]; exact h14) (by rw [p3 15 (by decide) (by omega)]; exact h15) p2
      exact ⟨m', q1, q2, fun q a b => by rw [q3 q a b, p3 q a b]⟩
theorem c_anewL (b : Nat) (i1 : Int32) : ∀ (f k : Nat) (m : gMem), k ≤ 5 → 5 - k < f → (∀ s, s < k → v5 (m (b + 2 + s)) = z5) → ∃ m', l_X5_startAnew_27 b i1 f (nI k) m = some (nI 5, m') ∧ (∀ s, s < 5 → v5 (m' (b + 2 + s)) = z5) ∧ ∀ q, (q < b + 2 ∨ b + 7 ≤ q) → m' q = m q := by
  intro f
  induction f with
  | zero => intro k m _ h; omega
  | succ f ih =>
    intro k m k1 k2 h
    rw [l_X5_startAnew_27]
    by_cases hk : k = 5
    · subst hk
      rw [if_pos (show (5 : Int32) ≤ nI 5 by decide)]
      exact ⟨m, rfl, h, fun _ _ => rfl⟩
    · rw [if_neg (show ¬ (5 : Int32) ≤ nI k from nI_ge (b := 5) (by omega) (by decide)), if_pos (inb5 (show k < 5 by omega) (by decide)), cl5 (show k < 1000 by omega), show b + 1 + 1 + k = b + 2 + k by omega]
      obtain ⟨m1, p1, p2, p3⟩ := e_startAnewW (b + 2 + k) m
      rw [p1]
      simp only [Option.bind_some, lt, nI_inc]
      obtain ⟨m', q1, q2, q3⟩ := ih (k + 1) m1 (by omega) (by omega) (fun s hs => by
        by_cases hsk : s = k
        · subst hsk; exact p2
        · rw [p3 _ (by omega)]; exact h s (by omega))
      exact ⟨m', q1, q2, fun q hq => by rw [q3 q hq, p3 q (by omega)]⟩
theorem c_anew5 (b : Nat) (i1 : Int32) (μ : gMem) : ∃ μ', f_X5_startAnew b i1 μ = some μ' ∧ cSc μ' b (0, 0, i1, 0, 0) (fun _ => z5) ∧ ∀ q, q ≠ b → (q < b + 2 ∨ b + 7 ≤ q) → μ' q = μ q := by
  unfold f_X5_startAnew
  simp only [lt]
  obtain ⟨m', p1, p2, p3⟩ := c_anewL b i1 gF 0 (st (st (st (st (st μ b 0 0) b 1 0) b 2 i1) b 3 0) b 4 0) (by omega) (by unfold gF; omega) (fun s hs => by omega)
  have p1' : l_X5_startAnew_27 b i1 gF 0 (st (st (st (st (st μ b 0 0) b 1 0) b 2 i1) b 3 0) b 4 0) = some (nI 5, m') := p1
  rw [p1']
  simp only [Option.bind_some]
  refine ⟨m', rfl, ⟨?_, p2⟩, fun q hq hq2 => ?_⟩
  · rw [p3 b (by omega)]
    simp [v5, st_row]
  · rw [p3 q hq2, st_ne hq, st_ne hq, st_ne hq, st_ne hq, st_ne hq]
theorem KC2.keep {μ m : gMem} (h : KC2 μ m) : keepC μ m := ⟨by rw [h.2 0 (by decide) (by decide) (by decide) (by decide) (by decide) (by decide)], h.2 1 (by decide) (by decide) (by decide) (by decide) (by decide) (by decide), fun a _ _ => h.2 a (by omega) (by omega) (by omega) (by omega) (by omega) (by omega), h.1 1 (by decide) (by decide) (by decide), h.2 9 (by decide) (by decide) (by decide) (by decide) (by decide) (by decide), fun a _ _ => h.2 a (by omega) (by omega) (by omega) (by omega) (by omega) (by omega), fun k _ => by rw [h.2 129 (by decide) (by decide) (by decide) (by decide) (by decide) (by decide)], h.2 138 (by decide) (by decide) (by decide) (by decide) (by decide) (by decide), h.2 139 (by decide) (by decide) (by decide) (by decide) (by decide) (by decide)⟩
theorem KM2.keep {ν m : gMem} (h : KM2 ν m) : keepM ν m := ⟨⟨h.1 1 (by decide) (by decide) (by decide) (by decide) (by decide) (by decide), h.1 4 (by decide) (by decide) (by decide) (by decide) (by decide) (by decide), h.1 13 (by decide) (by decide) (by decide) (by decide) (by decide) (by decide), h.1 19 (by decide) (by decide) (by decide) (by decide) (by decide) (by decide)⟩, h.2 141 (by decide) (by decide), fun k _ => by rw [h.2 142 (by decide) (by decide)], h.2 143 (by decide) (by decide), h.2 145 (by decide) (by decide), h.2 146 (by decide) (by decide), h.2 147 (by decide) (by decide), h.2 150 (by decide) (by decide)⟩
theorem rd_sA (μ : gMem) : f_X0_read (μ 1 1) μ = l_X0_read_14 (μ 1 1) gF (st (st (st μ 10 6 (μ 1 1)) 10 5 0) 8 4 0) := by
  unfold f_X0_read f_X3_readFromStart
  generalize gF = F
  simp only [lt, Option.bind_some]
theorem ob_some {α β : Type} {a : α} {f : α → Option β} {o : Option α} (h : o = some a) : o.bind f = f a := by rw [h]; rfl
theorem rd_sB {ν N2 : gMem} {c : Nat} (e1 : st (st ν 140 5 0) 140 11 0 140 1 = nI c) (p1' : l_X11_readText_20 gF 0 (st (st (st ν 140 5 0) 140 11 0) 140 10 (nI c)) = some (nI 31, N2)) : f_X11_readText ν = l_X11_readText_44 (nI 31) gF N2 := by
  have e0 : f_X11_readText ν = (l_X11_readText_20 gF 0 (st (st (st ν 140 5 0) 140 11 0) 140 10 (st (st ν 140 5 0) 140 11 0 140 1))).bind (fun p15 => l_X11_readText_44 p15.1 gF p15.2) := by
    unfold f_X11_readText lt
    rfl
  rw [e0, e1]
  exact ob_some p1'
theorem rd_start {μ ν : gMem} (h : Sim μ ν) : ∃ R0 : Nat → Int32, (∀ k, k < 31 → R0 k = ν 141 k) ∧ RRes (cnt μ) R0 μ ν (f_X0_read (μ 1 1) μ) (f_X11_readText ν) := by
  obtain ⟨ti, -, -, -, ⟨t, x1, x2, x3, x4⟩, -, -⟩ := h
  obtain ⟨cr, tok⟩ := ti.tok
  have eA := rd_sA μ
  have e1 : st (st ν 140 5 0) 140 11 0 140 1 = nI (cnt μ) := by rw [st_same, if_neg (by decide), st_same, if_neg (by decide)]; exact ti.2.2.1
  obtain ⟨N2, p1, p2, p3, p4⟩ := lp_read (st (st (st ν 140 5 0) 140 11 0) 140 10 (nI (cnt μ))) gF 0 (st (st (st ν 140 5 0) 140 11 0) 140 10 (nI (cnt μ))) (by omega) (by unfold gF; omega) (fun j hj => by omega) (fun _ _ => rfl) (fun _ _ => rfl)
  have p1' : l_X11_readText_20 gF 0 (st (st (st ν 140 5 0) 140 11 0) 140 10 (nI (cnt μ))) = some (nI 31, N2) := p1
  have eB := rd_sB e1 p1'
  have kA : KC2 μ (st (st (st μ 10 6 (μ 1 1)) 10 5 0) 8 4 0) := ((KC2.st10 _ _ _).tr (KC2.st10 _ _ _)).tr ((KC.rf _).st 4 0 (by omega)).two
  have q140 : N2 140 = st (st (st ν 140 5 0) 140 11 0) 140 10 (nI (cnt μ)) 140 := p4 140 (by decide)
  have kB : KM2 ν N2 := by
    refine KM2.tr (((KM2.st140 ν 5 0 (by omega)).tr (KM2.st140 _ 11 0 (by omega))).tr (KM2.st140 _ 10 (nI (cnt μ)) (by omega))) ⟨fun k _ _ _ _ _ _ => by rw [q140], fun q _ b => p4 q b⟩
  have eR : ∀ k, k < 31 → N2 144 k = ν 141 k := fun k hk => by
    rw [p2 k hk, st_ne (by decide), st_ne (by decide), st_ne (by decide)]
  refine ⟨N2 144, eR, ?_⟩
  rw [eA, eB]
  have A1 : CX (st (st (st μ 10 6 (μ 1 1)) 10 5 0) 8 4 0) (ν 143) t := ⟨x1, by rw [kA.1 1 (by decide) (by decide) (by decide)]; exact x2, fun i hi => by rw [kA.2 9 (by decide) (by decide) (by decide) (by decide) (by decide) (by decide)]; exact (x4 i hi).1⟩
  have A2 : MX N2 (ν 143) t := ⟨x1, by rw [kB.1 4 (by decide) (by decide) (by decide) (by decide) (by decide) (by decide)]; exact x3, fun i hi => by rw [kB.2 143 (by decide) (by decide)]⟩
  have A3 : (st (st (st μ 10 6 (μ 1 1)) 10 5 0) 8 4 0) 8 4 = nI 0 := by rw [st_same, if_pos rfl]; rfl
  have A4 : N2 140 5 = nI 0 := by rw [q140, st_same, if_neg (by decide), st_same, if_neg (by decide), st_same, if_pos rfl]; rfl
  have A5 : (st (st (st μ 10 6 (μ 1 1)) 10 5 0) 8 4 0) 10 5 = nI 0 := by rw [st_ne (by decide), st_same, if_pos rfl]; rfl
  have A6 : N2 140 11 = nI 0 := by rw [q140, st_same, if_neg (by decide), st_same, if_pos rfl]; rfl
  have A7 : (st (st (st μ 10 6 (μ 1 1)) 10 5 0) 8 4 0) 10 6 = nI (cnt μ) := by rw [st_ne (by decide), st_same, if_neg (by decide), st_same, if_pos rfl]; exact ti.2.1
  have A8 : N2 140 10 = nI (cnt μ) := by rw [q140, st_same, if_pos rfl]
  have A9 : TOK (cnt μ) (N2 144) := tok.congr eR
  have hF : 14 - 0 < gF := by unfold gF; omega
  clear p1 p1' p2 p3 p4 eA eB
  generalize gF = F at hF ⊢
  obtain ⟨μ', ν', g1, g2, g3⟩ := rd_both (T := ν 143) (t := t) (cnt μ) (N2 144) (μ 1 1) (nI 31) F 0 0 (cnt μ) (st (st (st μ 10 6 (μ 1 1)) 10 5 0) 8 4 0) N2 hF (by omega) A1 A2 (by omega) A3 A4 A5 A6 A7 A8 rfl (fun i hi => by
    have : i = 0 := by omega
    subst this
    exact A9)
  exact ⟨μ', ν', kA.tr g1, kB.tr g2, g3⟩
theorem nI_nm1 {e : Nat} (h : e ≤ 160) : ¬ nI e = -1 := fun z => absurd (show nI e < 0 by rw [z]; decide) (nI_pos (by omega))
theorem s_fault {μ ν : gMem} (h : Sim μ ν) : Res f_X10_fault f_X11_fault μ ν := by
  obtain ⟨R0, -, μ', ν', k1, k2, d⟩ := rd_start h
  have hS := h.keep k1.keep k2.keep
  have f1 : ∀ a, 140 ≤ a → μ' a = μ a := fun a _ => k1.2 a (by omega) (by omega) (by omega) (by omega) (by omega) (by omega)
  have f2 : ∀ a, a < 140 → ν' a = ν a := fun a _ => k2.2 a (by omega) (by omega)
  unfold Res f_X10_fault f_X11_fault
  rcases d with ⟨e, e1, e2, e3, e4⟩ | ⟨e2, e3, -⟩
  · refine ⟨nI e, μ', ν', by rw [e2]; rfl, ?_, hS, f1, f2⟩
    rw [e3]
    simp only [Option.bind_some, lt, if_true, e4]
  · refine ⟨-1, μ', ν', by rw [e2]; rfl, ?_, hS, f1, f2⟩
    rw [e3]
    simp only [Option.bind_some, lt, if_neg (show ¬ (1 : Int32) = 0 by decide)]
theorem c_unkeep (m : gMem) : l_X10_well_119 gF 0 m = some (2, st (st m 96 0 0) 96 1 0) := rfl
theorem s_well {μ ν : gMem} (h : Sim μ ν) : Res f_X10_well f_X11_well μ ν := by
  obtain ⟨R0, r0, μ', ν', k1, k2, d⟩ := rd_start h
  unfold Res f_X10_well f_X11_well
  rcases d with ⟨e, e1, e2, e3, e4⟩ | ⟨e2, e3, c, n, hc, h5, h11, h10, hh, hT⟩
  · have hS := h.keep k1.keep k2.keep
    refine ⟨-4, μ', ν', ?_, ?_, hS, fun a _ => k1.2 a (by omega) (by omega) (by omega) (by omega) (by omega) (by omega), fun a _ => k2.2 a (by omega) (by omega)⟩
    · rw [e2]
      simp only [Option.bind_some, if_neg (nI_nm1 e1)]
    · rw [e3]
      simp only [Option.bind_some, if_true]
  · obtain ⟨ti, sc, ⟨p, u, u1, u2, u3, u4, u5, u6⟩, ki, xi, ni, zi⟩ := h
    obtain ⟨cr, tok⟩ := ti.tok
    have cr' : CR μ' (cnt μ) R0 := (cr.cell (k1.2 1 (by decide) (by decide) (by decide) (by decide) (by decide) (by decide)) (fun s hs => k1.2 (3 + s) (by omega) (by omega) (by omega) (by omega) (by omega) (by omega))).congr r0
    obtain ⟨m1, p1, p2, p3⟩ := c_hears (D := μ' 12) (K := μ' 13) (X := μ' 14) (Y := μ' 15) (n0 := cnt μ) (R0 := R0) hc (fun i hi => (hT i hi).1) gF 0 μ' (by omega) (by unfold gF; omega) h5 rfl rfl rfl rfl cr'
    have p1' : l_X10_well_27 gF 0 μ' = some (nI c, m1) := p1
    rw [hh] at p2
    have tok' : TOK n (ν' 144) := by have := hT c (Nat.le_refl c); rw [hh] at this; exact this
    obtain ⟨m2, a1, a2, a3⟩ := c_anew5 16 (m1 1 5) (st m1 8 1 0)
    -- the class
    have hA : (f_X0_read (μ 1 1) μ).bind (fun p2 =>
  if p2.1 = (-1 : Int32) then
  ((l_X10_well_27 gF (0 : Int32) p2.2).bind (fun p12 =>
  lt (st p12.2 8 1 (0 : Int32)) (fun m14 =>
  (f_X5_startAnew 16 (m14 1 5) m14).bind (fun m17 =>
  lt (st m17 23 2 (0 : Int32)) (fun m18 =>
  (l_X10_well_119 gF (0 : Int32) m18).bind (fun p28 =>
  lt (st p28.2 0 11 (0 : Int32)) (fun m30 =>
  some ((m30 10 5), m30))))))))
else
  (some ((-4 : Int32), p2.2))) = some (nI c, st (st (st (st m2 23 2 0) 96 0 0) 96 1 0) 0 11 0) := by
      rw [e2]
      have e15 : st m1 8 1 0 1 5 = m1 1 5 := by rw [st_ne (by decide)]
      simp only [Option.bind_some, if_true, p1', lt, e15, a1, c_unkeep]
      have : st (st (st (st m2 23 2 0) 96 0 0) 96 1 0) 0 11 0 10 5 = nI c := by
        rw [st_ne (by decide), st_ne (by decide), st_ne (by decide), st_ne (by decide), a3 10 (by decide) (by omega), st_ne (by decide), p3 10 (by decide) (by omega)]
        exact h5
      rw [this]
    -- the reference
    have e140 : st ν' 140 4 0 140 10 = nI n := by rw [st_same, if_neg (by decide)]; exact h10
    obtain ⟨N1, b1, b2, b3, b4⟩ := lp_well (st (st ν' 140 4 0) 140 1 (nI n)) gF 0 (st (st ν' 140 4 0) 140 1 (nI n)) (by omega) (by unfold gF; omega) (fun j hj => by omega) (fun _ _ => rfl) (fun _ _ => rfl)
    have b1' : l_X11_well_25 gF 0 (st (st ν' 140 4 0) 140 1 (nI n)) = some (nI 31, N1) := b1
    obtain ⟨N2, c1, c2, c3⟩ := m_anew N1
    have hB : (f_X11_readText ν).bind (fun p2 =>
  if p2.1 = 0 then
  (some ((-4 : Int32), p2.2))
else
  (lt (st p2.2 140 4 (0 : Int32)) (fun m5 =>
  lt (st m5 140 1 (m5 140 10)) (fun m7 =>
  (l_X11_well_25 gF (0 : Int32) m7).bind (fun p17 =>
  (f_X11_anew  p17.2).bind (fun m20 =>
  lt (st m20 140 19 (0 : Int32)) (fun m21 =>
  lt (st m21 140 13 (0 : Int32)) (fun m23 =>
  lt (st m23 146 (0 : Int32).toNatClampNeg (0 : Int32)) (fun m25 =>
  lt (st m25 146 (1 : Int32).toNatClampNeg (0 : Int32)) (fun m27 =>
  some ((m27 140 11), m27))))))))))) = some (nI c, st (st (st (st N2 140 19 0) 140 13 0) 146 0 0) 146 1 0) := by
      rw [e3]
      simp only [Option.bind_some, if_neg (show ¬ (1 : Int32) = 0 by decide), lt, e140, b1', c1, Int32.reduceToNatClampNeg]
      have : st (st (st (st N2 140 19 0) 140 13 0) 146 0 0) 146 1 0 140 11 = nI c := by
        rw [st_ne (by decide), st_ne (by decide), st_same, if_neg (by decide), st_same, if_neg (by decide), c3 140 (by decide), b4 140 (by decide), st_same, if_neg (by decide), st_same, if_neg (by decide)]
        exact h11
      rw [this]
    refine ⟨nI c, _, _, hA, hB, ?_, fun a ha => ?_, fun a ha => ?_⟩
    · have m1' : ∀ q, q ≠ 23 → q ≠ 96 → q ≠ 0 → st (st (st (st m2 23 2 0) 96 0 0) 96 1 0) 0 11 0 q = m2 q := fun q z1 z2 z3 => by rw [st_ne z3, st_ne z2, st_ne z2, st_ne z1]
      have m2' : ∀ q, q ≠ 8 → (q < 16 ∨ 23 ≤ q) → m2 q = m1 q := fun q z1 z2 => by rw [a3 q (by omega) (by omega), st_ne z1]
      have n1' : ∀ q, q ≠ 140 → q ≠ 146 → st (st (st (st N2 140 19 0) 140 13 0) 146 0 0) 146 1 0 q = N2 q := fun q z1 z2 => by rw [st_ne z2, st_ne z2, st_ne z1, st_ne z1]
      have f141 : ∀ k, k < 31 → N1 141 k = ν' 144 k := fun k hk => by rw [b2 k hk, st_ne (by decide), st_ne (by decide)]
      have g141 : ∀ k, k < 31 → st (st (st (st N2 140 19 0) 140 13 0) 146 0 0) 146 1 0 141 k = ν' 144 k := fun k hk => by rw [n1' 141 (by decide) (by decide), c3 141 (by decide)]; exact f141 k hk
      have e1 : st (st (st (st m2 23 2 0) 96 0 0) 96 1 0) 0 11 0 1 = m1 1 := by rw [m1' 1 (by decide) (by decide) (by decide), m2' 1 (by decide) (by omega)]
      have tiN : TInv (st (st (st (st m2 23 2 0) 96 0 0) 96 1 0) 0 11 0) (st (st (st (st N2 140 19 0) 140 13 0) 146 0 0) 146 1 0) := by
        refine TInv.of (p2.cell e1 (fun s hs => by rw [m1' _ (by omega) (by omega) (by omega), m2' _ (by omega) (by omega)])) tok' ?_ g141
        rw [st_ne (by decide), st_ne (by decide), st_same, if_neg (by decide), st_same, if_neg (by decide), c3 140 (by decide), b4 140 (by decide), st_same, if_pos rfl]
      obtain ⟨t1, t2, t3, t4, t5, t6, ⟨hk, hk1, hk2, hk3⟩, ⟨ho, ho1, ho2⟩, t9, t10⟩ := id tiN
      have ehole : m1 1 5 = N1 141 1 := by rw [f141 1 (by omega)]; exact p2.2.1.2.1.symm
      refine ⟨tiN, ⟨(0, 0, m1 1 5, 0, 0), fun _ => z5, ⟨?_, fun s hs => ?_⟩, ?_, ?_⟩, ⟨p, 0, u1, by omega, ?_, ?_, ?_, fun i hi => by omega⟩, fun k hk => ?_, ⟨0, by omega, ?_, ?_, fun i hi => by omega⟩, ⟨0, by omega, ?_, ?_, fun i hi => by omega⟩, fun k hk => ?_⟩
      · rw [m1' 16 (by decide) (by decide) (by decide)]; exact a2.1
      · rw [m1' _ (by omega) (by omega) (by omega)]; exact a2.2 s hs
      · rw [n1' 141 (by decide) (by decide), n1' 142 (by decide) (by decide), ehole]; exact c2
      · refine ⟨⟨by show (0 : Int) ≤ (0 : Int32).toInt; decide, by show (0 : Int32).toInt ≤ ((999 : Nat) : Int); decide⟩, ⟨ho, ho1, by rw [← ho2, e1]⟩, ⟨0, by omega, rfl, ?_⟩, fun s _ => ⟨0, by omega, rfl⟩, fun s _ _ => rfl⟩
        show (0 : Int32) ≤ _
        rw [hk3]
        exact nI_pos' (by omega)
      · rw [st_ne (by decide), st_ne (by decide), st_ne (by decide), st_same, if_neg (by decide), m2' 23 (by decide) (by omega), p3 23 (by decide) (by omega), k1.2 23 (by decide) (by decide) (by decide) (by decide) (by decide) (by decide)]
        exact u3
      · rw [st_ne (by decide), st_ne (by decide), st_ne (by decide), st_same, if_pos rfl]; rfl
      · rw [st_ne (by decide), st_ne (by decide), st_same, if_pos rfl]; rfl
      · have : k = 0 ∨ k = 1 := by omega
        have q1 : st (st (st (st m2 23 2 0) 96 0 0) 96 1 0) 0 11 0 96 k = 0 := by
          rcases this with rfl | rfl
          · rw [st_ne (by decide), st_same, if_neg (by decide), st_same, if_pos rfl]
          · rw [st_ne (by decide), st_same, if_pos rfl]
        have q2 : st (st (st (st N2 140 19 0) 140 13 0) 146 0 0) 146 1 0 146 k = 0 := by
          rcases this with rfl | rfl
          · rw [st_same, if_neg (by decide), st_same, if_pos rfl]
          · rw [st_same, if_pos rfl]
        exact ⟨by rw [q1, q2], Or.inl q1, fun z => by rw [q1] at z; exact absurd z (by decide)⟩
      · rw [m1' 8 (by decide) (by decide) (by decide), a3 8 (by decide) (by omega), st_same, if_pos rfl]; rfl
      · rw [st_ne (by decide), st_ne (by decide), st_same, if_neg (by decide), st_same, if_neg (by decide), c3 140 (by decide), b4 140 (by decide), st_same, if_neg (by decide), st_same, if_pos rfl]; rfl
      · rw [st_same, if_pos rfl]; rfl
      · rw [st_ne (by decide), st_ne (by decide), st_same, if_neg (by decide), st_same, if_pos rfl]; rfl
      · rw [m1' 129 (by decide) (by decide) (by decide), m2' 129 (by decide) (by omega), p3 129 (by decide) (by omega), k1.2 129 (by decide) (by decide) (by decide) (by decide) (by decide) (by decide)]
        exact zi k hk
    · rw [st_ne (by omega), st_ne (by omega), st_ne (by omega), st_ne (by omega), a3 a (by omega) (by omega), st_ne (by omega), p3 a (by omega) (by omega)]
      exact k1.2 a (by omega) (by omega) (by omega) (by omega) (by omega) (by omega)
    · rw [st_ne (by omega), st_ne (by omega), st_ne (by omega), st_ne (by omega), c3 a (by omega), b4 a (by omega), st_ne (by omega), st_ne (by omega)]
      exact k2.2 a (by omega) (by omega)

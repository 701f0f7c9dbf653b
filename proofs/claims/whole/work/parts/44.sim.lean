/-! THE RELATION between the class's cells in μ and the reference's in ν -/
def cnt (μ : gMem) : Nat := (μ 1 1).toNatClampNeg
def dOK (w : V5) : Prop := ∃ d : Nat, d ≤ 40 ∧ w.2.2.1 = nI d
def xOK (B : Nat) (hgt : Int32) (c : Nat) (x : V5) (w : W5) : Prop :=
  rng x.1 B ∧ (∃ k : Nat, k ≤ 9 ∧ x.2.2.1 = nI k) ∧ (∃ l : Nat, l ≤ 99 ∧ x.2.1 = nI l ∧ x.2.1 ≤ hgt) ∧ (∀ s, s < 5 → dOK (w s)) ∧ ∀ s, c ≤ s → s < 5 → w s = (0, 0, 0, 0, 0)
def SC (μ : gMem) (b : Nat) (ν : gMem) (R : Nat → Int32) : Prop := ∃ (x : V5) (w : W5), cSc μ b x w ∧ mSc (ν 141) R x w ∧ xOK 999 (μ 1 4) (cnt μ) x w
def TInv (μ ν : gMem) : Prop := cnt μ ≤ 5 ∧ μ 1 1 = nI (cnt μ) ∧ ν 140 1 = nI (cnt μ) ∧ (ν 141 0 = μ 1 4 ∧ ν 141 1 = μ 1 5 ∧ ν 141 2 = μ 1 6 ∧ ν 141 3 = μ 1 7 ∧ ν 141 4 = μ 1 2 ∧ ν 141 5 = μ 1 3) ∧ (∀ s, s < 5 → mS (ν 141) s = v5 (μ (3 + s))) ∧ (∀ s, s < cnt μ → sok (v5 (μ (3 + s)))) ∧ (∃ k : Nat, 1 ≤ k ∧ k ≤ 99 ∧ μ 1 4 = nI k) ∧ (∃ k : Nat, k ≤ 9 ∧ μ 1 5 = nI k) ∧ (μ 1 2 = 0 ∨ μ 1 2 = 1 ∨ μ 1 2 = 2 ∨ μ 1 2 = 3) ∧ ∃ k : Nat, k ≤ 9 ∧ μ 1 3 = nI k
def UInv (μ ν : gMem) : Prop := ∃ p u : Nat, p < 8 ∧ u ≤ 8 ∧ μ 23 1 = nI p ∧ μ 23 2 = nI u ∧ ν 140 13 = nI u ∧ ∀ i, i < u → SC μ (25 + 7 * ((p + 8 - u + i) % 8)) ν (fun k => ν 145 (35 * i + k))
def KInv (μ ν : gMem) : Prop := ∀ k, k < 2 → μ 96 k = ν 146 k ∧ (μ 96 k = 0 ∨ μ 96 k = 1) ∧ (μ 96 k = 1 → SC μ (82 + 7 * k) ν (fun j => ν 147 (35 * k + j)))
def XInv (μ ν : gMem) : Prop := ∃ t : Nat, t ≤ 160 ∧ μ 8 1 = nI t ∧ ν 140 4 = nI t ∧ ∀ i, i < t → μ 9 i = ν 143 i ∧ ∃ k : Nat, k ≤ 255 ∧ μ 9 i = nI k
def NInv (μ ν : gMem) : Prop := ∃ q : Nat, q ≤ 6 ∧ μ 0 11 = nI q ∧ ν 140 19 = nI q ∧ ∀ i, i < q → μ 138 i = ν 150 (2 * i) ∧ μ 139 i = ν 150 (2 * i + 1) ∧ ∃ k : Nat, k ≤ 99 ∧ μ 138 i = nI k
def ZInv (μ : gMem) : Prop := ∀ k, k < 40 → μ 129 k = 0
def Sim (μ ν : gMem) : Prop := TInv μ ν ∧ SC μ 16 ν (ν 142) ∧ UInv μ ν ∧ KInv μ ν ∧ XInv μ ν ∧ NInv μ ν ∧ ZInv μ
theorem mSc_congr {T R R' : Nat → Int32} {x : V5} {w : W5} (h : ∀ k, k < 35 → R' k = R k) (hr : mSc T R x w) : mSc T R' x w := by
  obtain ⟨h1, h2⟩ := hr
  refine ⟨?_, fun s hs => mrep_congr (fun q hq => h _ (by omega)) (h2 s hs)⟩
  rw [← h1]
  simp only [v5]
  rw [h 30 (by omega), h 31 (by omega), h 32 (by omega), h 33 (by omega), h 34 (by omega)]
theorem SC.congr {μ μ' : gMem} {b : Nat} {ν ν' : gMem} {R R' : Nat → Int32} (h : SC μ b ν R) (h1 : μ' 1 = μ 1) (hb : μ' b = μ b) (hw : ∀ s, s < 5 → μ' (b + 2 + s) = μ (b + 2 + s)) (h2 : ν' 141 = ν 141) (hR : ∀ k, k < 35 → R' k = R k) : SC μ' b ν' R' := by
  obtain ⟨x, w, ⟨c1, c2⟩, m, o⟩ := h
  refine ⟨x, w, ⟨by rw [hb]; exact c1, fun s hs => by rw [hw s hs]; exact c2 s hs⟩, by rw [h2]; exact mSc_congr hR m, ?_⟩
  unfold cnt
  rw [h1]
  exact o
theorem TInv.congr {μ μ' ν ν' : gMem} (h : TInv μ ν) (h1 : μ' 1 = μ 1) (h3 : ∀ s, s < 5 → μ' (3 + s) = μ (3 + s)) (hm : ν' 140 1 = ν 140 1) (h2 : ν' 141 = ν 141) : TInv μ' ν' := by
  obtain ⟨a1, a2, a3, a4, a5, a6, a7⟩ := h
  have hc : cnt μ' = cnt μ := by unfold cnt; rw [h1]
  unfold TInv
  rw [hc, h1, h2, hm]
  exact ⟨a1, a2, a3, a4, fun s hs => by rw [h3 s hs]; exact a5 s hs, fun s hs => by rw [h3 s (by omega)]; exact a6 s hs, a7⟩
theorem UInv.congr {μ μ' ν ν' : gMem} (h : UInv μ ν) (h1 : μ' 1 = μ 1) (h23 : μ' 23 = μ 23) (hp : ∀ a, 25 ≤ a → a < 81 → μ' a = μ a) (hm : ν' 140 13 = ν 140 13) (h2 : ν' 141 = ν 141) (h5 : ν' 145 = ν 145) : UInv μ' ν' := by
  obtain ⟨p, u, a1, a2, a3, a4, a5, a6⟩ := h
  refine ⟨p, u, a1, a2, by rw [h23]; exact a3, by rw [h23]; exact a4, by rw [hm]; exact a5, fun i hi => (a6 i hi).congr h1 (hp _ (by omega) (by omega)) (fun s hs => hp _ (by omega) (by omega)) h2 (fun k _ => by simp only [h5])⟩
theorem KInv.congr {μ μ' ν ν' : gMem} (h : KInv μ ν) (h1 : μ' 1 = μ 1) (h96 : μ' 96 = μ 96) (hp : ∀ a, 82 ≤ a → a < 96 → μ' a = μ a) (h6 : ν' 146 = ν 146) (h2 : ν' 141 = ν 141) (h7 : ν' 147 = ν 147) : KInv μ' ν' := by
  intro k hk
  obtain ⟨a1, a2, a3⟩ := h k hk
  rw [h96, h6]
  exact ⟨a1, a2, fun z => (a3 z).congr h1 (hp _ (by omega) (by omega)) (fun s hs => hp _ (by omega) (by omega)) h2 (fun k _ => by simp only [h7])⟩
theorem XInv.congr {μ μ' ν ν' : gMem} (h : XInv μ ν) (h8 : μ' 8 1 = μ 8 1) (h9 : μ' 9 = μ 9) (hm : ν' 140 4 = ν 140 4) (h3 : ν' 143 = ν 143) : XInv μ' ν' := by
  obtain ⟨t, a1, a2, a3, a4⟩ := h
  exact ⟨t, a1, by rw [h8]; exact a2, by rw [hm]; exact a3, fun i hi => by rw [h9, h3]; exact a4 i hi⟩
theorem NInv.congr {μ μ' ν ν' : gMem} (h : NInv μ ν) (h0 : μ' 0 11 = μ 0 11) (h8 : μ' 138 = μ 138) (h9 : μ' 139 = μ 139) (hm : ν' 140 19 = ν 140 19) (h5 : ν' 150 = ν 150) : NInv μ' ν' := by
  obtain ⟨t, a1, a2, a3, a4⟩ := h
  exact ⟨t, a1, by rw [h0]; exact a2, by rw [hm]; exact a3, fun i hi => by rw [h8, h9, h5]; exact a4 i hi⟩
theorem ZInv.congr {μ μ' : gMem} (h : ZInv μ) (hz : ∀ k, k < 40 → μ' 129 k = μ 129 k) : ZInv μ' := fun k hk => by rw [hz k hk]; exact h k hk
/-- cells that a question leaves -/
def keepC (μ μ' : gMem) : Prop := μ' 0 11 = μ 0 11 ∧ μ' 1 = μ 1 ∧ (∀ a, 3 ≤ a → a < 8 → μ' a = μ a) ∧ μ' 8 1 = μ 8 1 ∧ μ' 9 = μ 9 ∧ (∀ a, 16 ≤ a → a ≤ 96 → μ' a = μ a) ∧ (∀ k, k < 40 → μ' 129 k = μ 129 k) ∧ μ' 138 = μ 138 ∧ μ' 139 = μ 139
def keepM (ν ν' : gMem) : Prop := (ν' 140 1 = ν 140 1 ∧ ν' 140 4 = ν 140 4 ∧ ν' 140 13 = ν 140 13 ∧ ν' 140 19 = ν 140 19) ∧ ν' 141 = ν 141 ∧ (∀ k, k < 35 → ν' 142 k = ν 142 k) ∧ ν' 143 = ν 143 ∧ ν' 145 = ν 145 ∧ ν' 146 = ν 146 ∧ ν' 147 = ν 147 ∧ ν' 150 = ν 150
theorem keepC.rf (μ : gMem) : keepC μ μ := ⟨rfl, rfl, fun _ _ _ => rfl, rfl, rfl, fun _ _ _ => rfl, fun _ _ => rfl, rfl, rfl⟩
theorem keepM.rf (μ : gMem) : keepM μ μ := ⟨⟨rfl, rfl, rfl, rfl⟩, rfl, fun _ _ => rfl, rfl, rfl, rfl, rfl, rfl⟩
theorem Sim.keep {μ μ' ν ν' : gMem} (h : Sim μ ν) (hc : keepC μ μ') (hm : keepM ν ν') : Sim μ' ν' := by
  obtain ⟨t, s, u, k, x, n, z⟩ := h
  obtain ⟨c1, c2, c3, c4, c5, c6, c7, c8, c9⟩ := hc
  obtain ⟨⟨m1, m2, m3, m4⟩, m5, m6, m7, m8, m9, m10, m11⟩ := hm
  exact ⟨t.congr c2 (fun s hs => c3 _ (by omega) (by omega)) m1 m5, s.congr c2 (c6 _ (by omega) (by omega)) (fun s hs => c6 _ (by omega) (by omega)) m5 m6, u.congr c2 (c6 _ (by omega) (by omega)) (fun a h1 h2 => c6 _ (by omega) (by omega)) m3 m5 m8, k.congr c2 (c6 _ (by omega) (by omega)) (fun a h1 h2 => c6 _ (by omega) (by omega)) m9 m5 m10, x.congr c4 c5 m2 m7, n.congr c1 c8 c9 m4 m11, z.congr c7⟩
def Res (f g : gMem → Option (Int32 × gMem)) (μ ν : gMem) : Prop := ∃ (r : Int32) (μ' ν' : gMem), f μ = some (r, μ') ∧ g ν = some (r, ν') ∧ Sim μ' ν' ∧ (∀ a, 140 ≤ a → μ' a = μ a) ∧ ∀ a, a < 140 → ν' a = ν a
theorem Res.same {f g : gMem → Option (Int32 × gMem)} {μ ν : gMem} (h : Sim μ ν) (r : Int32) (hf : f μ = some (r, μ)) (hg : g ν = some (r, ν)) : Res f g μ ν := ⟨r, μ, ν, hf, hg, h, fun _ _ => rfl, fun _ _ => rfl⟩
theorem s_erase {μ ν : gMem} (h : Sim μ ν) : Res f_X10_erase f_X11_erase μ ν := by
  obtain ⟨t, s, u, k, ⟨q, x1, x2, x3, x4⟩, n, z⟩ := h
  refine ⟨nI q, _, _, by unfold f_X10_erase lt; rw [x2], by unfold f_X11_erase lt; rw [x3], ?_, fun a ha => st_ne (by omega), fun a ha => st_ne (by omega)⟩
  refine ⟨t.congr (st_ne (by decide)) (fun s hs => st_ne (by omega)) (by simp [st_row]) (st_ne (by decide)), s.congr (st_ne (by decide)) (st_ne (by omega)) (fun s hs => st_ne (by omega)) (st_ne (by decide)) (fun k _ => by simp [st_row]), u.congr (st_ne (by decide)) (st_ne (by omega)) (fun a h1 h2 => st_ne (by omega)) (by simp [st_row]) (st_ne (by decide)) (st_ne (by decide)), k.congr (st_ne (by decide)) (st_ne (by omega)) (fun a h1 h2 => st_ne (by omega)) (st_ne (by decide)) (st_ne (by decide)) (st_ne (by decide)), ⟨0, by omega, by simp [st_row]; rfl, by simp [st_row]; rfl, fun i hi => by omega⟩, n.congr (by simp [st_row]) (st_ne (by decide)) (st_ne (by decide)) (by simp [st_row]) (st_ne (by decide)), z.congr (fun k _ => by simp [st_row])⟩
theorem s_forget {μ ν : gMem} (h : Sim μ ν) : Res f_X10_forget f_X11_forget μ ν := by
  obtain ⟨t, s, u, k, x, ⟨q, x1, x2, x3, x4⟩, z⟩ := h
  refine ⟨nI q, _, _, by unfold f_X10_forget lt; rw [x2], by unfold f_X11_forget lt; rw [x3], ?_, fun a ha => st_ne (by omega), fun a ha => st_ne (by omega)⟩
  refine ⟨t.congr (st_ne (by decide)) (fun s hs => st_ne (by omega)) (by simp [st_row]) (st_ne (by decide)), s.congr (st_ne (by decide)) (st_ne (by omega)) (fun s hs => st_ne (by omega)) (st_ne (by decide)) (fun k _ => by simp [st_row]), u.congr (st_ne (by decide)) (st_ne (by omega)) (fun a h1 h2 => st_ne (by omega)) (by simp [st_row]) (st_ne (by decide)) (st_ne (by decide)), k.congr (st_ne (by decide)) (st_ne (by omega)) (fun a h1 h2 => st_ne (by omega)) (st_ne (by decide)) (st_ne (by decide)) (st_ne (by decide)), x.congr (by simp [st_row]) (st_ne (by decide)) (by simp [st_row]) (st_ne (by decide)), ⟨0, by omega, by simp [st_row]; rfl, by simp [st_row]; rfl, fun i hi => by omega⟩, z.congr (fun k _ => by simp [st_row])⟩
theorem nI_lit0 : (0 : Int32) = nI 0 := rfl
theorem in0 {i : Int32} {b : Nat} (hb : b < 100000) (h : ¬ (i < 0 ∨ ¬ i ≤ nI b)) : ∃ k : Nat, k ≤ b ∧ i = nI k := by
  have h1 : ¬ i < 0 := fun z => h (Or.inl z)
  have h2 : i ≤ nI b := Classical.byContradiction fun z => h (Or.inr z)
  obtain ⟨k, hk, rfl⟩ := nI_of h1
  exact ⟨k, (nI_leI hk (by omega)).mp h2, rfl⟩
theorem out_in (i lo hi : Int32) : (i < lo ∨ ¬ i ≤ hi) ↔ (i < lo ∨ hi < i) := by
  constructor
  · rintro (h | h)
    · exact Or.inl h
    · exact Or.inr (Int32.not_le.mp h)
  · rintro (h | h)
    · exact Or.inl h
    · exact Or.inr (Int32.not_le.mpr h)
theorem e_in0 (x : Int32) (lo hi : Int32) (μ : gMem) (l h : Int64) (el : l = lo.toInt64) (eh : h = hi.toInt64) : f_X11_in x.toInt64 l h μ = some (if x < lo ∨ ¬ x ≤ hi then 0 else 1, μ) := by
  rw [el, eh, e_inI]
  simp only [out_in]
theorem s_write (i : Int32) {μ ν : gMem} (h : Sim μ ν) : Res (f_X10_write i) (f_X11_write i) μ ν := by
  have ef : ∀ m, f_X10_write i m = if i < 0 ∨ ¬ i ≤ 255 then some (-3, m) else (f_X3_add i m).bind (fun p => some (if p.1 = 0 then -5 else p.2 8 1, p.2)) := fun m => by
    unfold f_X10_write lt
    simp only [e_isOutside, Option.bind_some, b01]
    by_cases hc : i < 0 ∨ ¬ i ≤ 255
    · rw [if_pos hc, if_neg (not_not_intro hc)]
    · rw [if_neg hc, if_pos hc]
  have eg : ∀ m, f_X11_write i m = if i < 0 ∨ ¬ i ≤ 255 then some (-3, m) else if m 140 4 = 160 then some (-5, m) else if inb (m 140 4) 160 = true then some (st (st m 143 (m 140 4).toNatClampNeg i) 140 4 (st m 143 (m 140 4).toNatClampNeg i 140 4 + 1) 140 4, st (st m 143 (m 140 4).toNatClampNeg i) 140 4 (st m 143 (m 140 4).toNatClampNeg i 140 4 + 1)) else none := fun m => by
    unfold f_X11_write lt
    rw [e_in0 i 0 255 m 0 255 rfl rfl]
    simp only [Option.bind_some, b10]
  by_cases hc : i < 0 ∨ ¬ i ≤ 255
  · exact Res.same h (-3) (by rw [ef, if_pos hc]) (by rw [eg, if_pos hc])
  · obtain ⟨k, hk, rfl⟩ := in0 (b := 255) (by decide) hc
    obtain ⟨t, s, u, kk, ⟨q, x1, x2, x3, x4⟩, n, z⟩ := id h
    by_cases hq : q = 160
    · subst hq
      refine Res.same h (-5) ?_ ?_
      · rw [ef, if_neg hc]
        unfold f_X3_add
        rw [x2, if_neg (by decide)]
        rfl
      · rw [eg, if_neg hc, x3, if_pos (by decide)]
    · have hq2 : q < 160 := by omega
      have i1 : inb (nI q) 160 = true := inb5 hq2 (by decide)
      have c1 : (nI q).toNatClampNeg = q := cl5 (by omega)
      refine ⟨nI (q + 1), st (st μ 9 q (nI k)) 8 1 (nI (q + 1)), st (st ν 143 q (nI k)) 140 4 (nI (q + 1)), ?_, ?_, ?_, fun a ha => by rw [st_ne (by omega), st_ne (by omega)], fun a ha => by rw [st_ne (by omega), st_ne (by omega)]⟩
      · rw [ef, if_neg hc]
        unfold f_X3_add lt
        rw [x2, if_pos (show nI q < (160 : Int32) from nI_lt hq2 (by decide)), if_pos i1, c1]
        simp [st_row, x2, nI_1]
      · rw [eg, if_neg hc, x3, if_neg (by intro z; have := (nI_eq (a := q) (b := 160) (by omega) (by decide)).mp z; omega), if_pos i1, c1]
        simp [st_row, x3, nI_1]
      · refine ⟨t.congr (by simp [st_ne]) (fun s hs => by rw [st_ne (by omega), st_ne (by omega)]) (by simp [st_row]) (by simp [st_ne]), s.congr (by simp [st_ne]) (by simp [st_ne]) (fun s hs => by rw [st_ne (by omega), st_ne (by omega)]) (by simp [st_ne]) (fun k _ => by simp [st_row]), u.congr (by simp [st_ne]) (by simp [st_ne]) (fun a h1 h2 => by rw [st_ne (by omega), st_ne (by omega)]) (by simp [st_row]) (by simp [st_ne]) (by simp [st_ne]), kk.congr (by simp [st_ne]) (by simp [st_ne]) (fun a h1 h2 => by rw [st_ne (by omega), st_ne (by omega)]) (by simp [st_ne]) (by simp [st_ne]) (by simp [st_ne]), ⟨q + 1, by omega, by simp [st_row], by simp [st_row], fun j hj => ?_⟩, n.congr (by simp [st_row]) (by simp [st_ne]) (by simp [st_ne]) (by simp [st_row]) (by simp [st_ne]), z.congr (fun k _ => by simp [st_row])⟩
        by_cases hjq : j = q
        · subst hjq
          simp [st_row]
          exact ⟨k, hk, rfl⟩
        · simp [st_row, hjq]
          exact x4 j (by omega)

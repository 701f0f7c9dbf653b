theorem D_nI {S : V5} (hS : sok S) (fr m : Int32) : ∃ k : Nat, k ≤ 11 ∧ (if m ≤ 0 then (if fr = 0 then drT S else 0) else (if fr = 0 then drT S else 0) / 2) = nI k := by
  obtain ⟨-, k, hk, e⟩ := dr_alt hS
  rw [e]
  have z : ∀ k : Nat, k ≤ 11 → nI k / 2 = nI (k / 2) := by decide
  by_cases h : m ≤ 0
  · rw [if_pos h]
    by_cases h2 : fr = 0
    · rw [if_pos h2]; exact ⟨k, hk, rfl⟩
    · rw [if_neg h2]; exact ⟨0, by omega, rfl⟩
  · rw [if_neg h]
    by_cases h2 : fr = 0
    · rw [if_pos h2]; exact ⟨k / 2, by omega, z k hk⟩
    · rw [if_neg h2]; exact ⟨0, by omega, by decide⟩
theorem pm_dOK {S : V5} (hS : sok S) (fr : Int32) {w : V5} (hw : dOK w) : dOK (pmT S fr w).2 ∧ ∃ p : Nat, p ≤ 40 ∧ (pmT S fr w).1 = nI p := by
  obtain ⟨d, hd, ed⟩ := hw
  obtain ⟨k, hk, ek⟩ := D_nI hS fr w.2.2.2.2
  rw [pm_alt, ek]
  have z : ∀ d : Nat, d ≤ 40 → ∀ k : Nat, k ≤ 11 → (if 0 < nI d - nI k then nI d - nI k else 0) = nI (d - k) := by decide
  obtain ⟨-, -, ⟨ld, hl1, hl2⟩, -⟩ := hS
  unfold stT
  simp only [ed, z d hd k hk]
  split
  · exact ⟨⟨d, hd, rfl⟩, 0, by omega, rfl⟩
  · split
    · split
      · exact ⟨⟨0, by omega, rfl⟩, d - k, by omega, rfl⟩
      · exact ⟨⟨ld, hl1, hl2⟩, 0, by omega, rfl⟩
    · exact ⟨⟨d - k, by omega, rfl⟩, 0, by omega, rfl⟩
theorem sumP_nI {P : Nat → Int32} : ∀ {n : Nat}, (∀ k, k < n → ∃ p : Nat, p ≤ 40 ∧ P k = nI p) → ∃ q : Nat, q ≤ 40 * n ∧ sumP P n = nI q
  | 0, _ => ⟨0, by omega, rfl⟩
  | n + 1, h => by
    obtain ⟨q, h1, h2⟩ := sumP_nI (P := P) (n := n) (fun k hk => h k (by omega))
    obtain ⟨p, h3, h4⟩ := h n (by omega)
    exact ⟨q + p, by omega, by rw [sumP, h2, h4, nI_add]⟩
theorem rise_nI {H l q : Nat} (hH : H ≤ 99) (hl : l ≤ 99) (hq : q ≤ 1000) : rise (nI H) (nI l + nI q) = nI (if l + q < H then l + q else H) := by
  unfold rise
  rw [nI_add]
  by_cases h : l + q < H
  · rw [if_pos (nI_lt h (by omega)), if_pos h]
  · rw [if_neg (nI_nlt (by omega) (by omega)), if_neg h]
theorem lost_nI {r k : Nat} (hr : r ≤ 99) (hk : k ≤ 9) : ∃ l : Nat, l ≤ r ∧ nI r - lost (nI r) (nI k) = nI l := by
  have hm : r * k ≤ r * 9 := Nat.mul_le_mul_left r hk
  unfold lost
  rw [pk_mul, show (19 : Int32) = nI 19 from rfl, nI_add, show (20 : Int32) = nI 20 from rfl, pk_div (by omega) (by omega) (by omega)]
  have hle : (r * k + 19) / 20 ≤ r := by omega
  exact ⟨r - (r * k + 19) / 20, by omega, pk_sub hle⟩
theorem xOK_min {B : Nat} (hB : B ≤ 5000) {c H : Nat} (hc : c ≤ 5) (hH : H ≤ 99) {S w : W5} (hS : ∀ s, s < c → sok (S s)) (fr : Int32) {x : V5} (h : xOK B (nI H) c x w) : xOK (B + 1) (nI H) c (minX (nI H) (minS c (nI H) fr S w) x) (minW c fr S w) := by
  obtain ⟨o1, ⟨k, hk, ek⟩, ⟨l, hl, el, ehl⟩, o4, o5⟩ := h
  obtain ⟨q, hq, eq⟩ := sumP_nI (P := fun s => (pmT (S s) fr (w s)).1) (n := c) (fun s hs => (pm_dOK (hS s hs) fr (o4 s (by omega))).2)
  have es : minS c (nI H) fr S w = nI q := eq
  rw [es]
  refine ⟨?_, ⟨k, hk, ek⟩, ?_, fun s hs => ?_, fun s hs hs5 => ?_⟩
  · have a := add1_rng (by omega) o1
    exact ⟨by show 0 ≤ (x.1 + 1).toInt; rw [a]; have := o1.1; omega, by show (x.1 + 1).toInt ≤ _; rw [a]; have := o1.2; omega⟩
  · unfold minX
    dsimp only
    rw [el, rise_nI hH hl (by omega), ek]
    obtain ⟨r, hr⟩ : ∃ r : Nat, r = if l + q < H then l + q else H := ⟨_, rfl⟩
    rw [← hr]
    have hrH : r ≤ H := by rw [hr]; split <;> omega
    obtain ⟨l', hl', e'⟩ := lost_nI (r := r) (k := k) (by omega) hk
    rw [e']
    exact ⟨l', by omega, rfl, nI_le (by omega) (by omega)⟩
  · unfold minW
    by_cases hsc : s < c
    · rw [if_pos hsc]
      exact (pm_dOK (hS s hsc) fr (o4 s hs)).1
    · rw [if_neg hsc]
      exact o4 s hs
  · unfold minW
    rw [if_neg (by omega)]
    exact o5 s hs hs5
theorem Sm_eq {μ ν : gMem} (t : TInv μ ν) {fr : Int32} {w : W5} : minS (cnt μ) (μ 1 4) fr (mS (ν 141)) w = minS (cnt μ) (μ 1 4) fr (cS μ) w ∧ minW (cnt μ) fr (mS (ν 141)) w = minW (cnt μ) fr (cS μ) w := by
  obtain ⟨t1, t2, t3, t4, t5, t6, t7⟩ := t
  constructor
  · unfold minS cS
    exact sumP_congr (fun k hk => by rw [t5 k (by omega)])
  · unfold minW cS
    funext s
    by_cases hs : s < cnt μ
    · rw [if_pos hs, if_pos hs, t5 s (by omega)]
    · rw [if_neg hs, if_neg hs]
/-- k minutes of both -/
theorem s_goloop (n0 : Nat) (hn0 : n0 ≤ 99) : ∀ (n k B : Nat) (μ ν : gMem) (x : V5) (w : W5), k ≤ n0 → n0 - k < n → B + (n0 - k) ≤ 999 → TInv μ ν → cSc μ 16 x w → mSc (ν 141) (ν 142) x w → xOK B (μ 1 4) (cnt μ) x w →
    ∃ (μ' ν' : gMem) (x' : V5) (w' : W5), l_X10_go_44 (nI n0) n (nI k) μ = some (nI n0, μ') ∧ l_X11_go_39 (nI n0) n (nI k) ν = some (nI n0, ν') ∧ cSc μ' 16 x' w' ∧ mSc (ν' 141) (ν' 142) x' w' ∧ xOK 999 (μ' 1 4) (cnt μ') x' w' ∧ (∀ q, q ≠ 16 → (∀ s, s < 5 → q ≠ 16 + 2 + s) → μ' q = μ q) ∧ (∀ b, b ≠ 142 → ν' b = ν b) := by
  intro n
  induction n with
  | zero => intro k B μ ν x w h1 h2; omega
  | succ n ih =>
    intro k B μ ν x w h1 h2 h3 t c1 m1 o1
    unfold l_X10_go_44 l_X11_go_39
    by_cases hk : k = n0
    · subst hk
      rw [if_pos (Int32.le_refl _), if_pos (Int32.le_refl _)]
      obtain ⟨oa, ob⟩ := o1
      exact ⟨μ, ν, x, w, rfl, rfl, c1, m1, ⟨⟨oa.1, by have := oa.2; omega⟩, ob⟩, fun _ _ _ => rfl, fun _ _ => rfl⟩
    · rw [if_neg (nI_ge (by omega) (by omega)), if_neg (nI_ge (by omega) (by omega))]
      obtain ⟨t1, t2, t3, ⟨g0, g1, g2, g3, g4, g5⟩, t5, t6, ⟨H, hH1, hH2, eH⟩, t7⟩ := id t
      obtain ⟨μ1, p1, p2, p3⟩ := c_min 16 (by decide) (cnt μ) t1 μ t2 x w c1
      have hm : rng x.1 1999 := ⟨o1.1.1, by have := o1.1.2; omega⟩
      obtain ⟨ν1, q1, q2, q3⟩ := m_min (cnt μ) t1 ν t3 (fun s hs => by rw [t5 s (by omega)]; exact t6 s hs) x w m1 o1.2.2.2.2 hm
      have e := Sm_eq t (fr := frT (μ 1 6) (μ 1 7) x.1) (w := w)
      rw [g0, g2, g3, e.1, e.2] at q2
      rw [p1, q1]
      simp only [Option.bind_some, lt, nI_inc]
      have k1 : μ1 1 = μ 1 := p3 1 (by decide) (fun s _ => by omega)
      have kc : cnt μ1 = cnt μ := by unfold cnt; rw [k1]
      have t' : TInv μ1 ν1 := t.congr k1 (fun s hs => p3 _ (by omega) (fun s2 _ => by omega)) (by rw [q3 140 (by decide)]) (q3 141 (by decide))
      have o' : xOK (B + 1) (μ1 1 4) (cnt μ1) (minX (μ 1 4) (minS (cnt μ) (μ 1 4) (frT (μ 1 6) (μ 1 7) x.1) (cS μ) w) x) (minW (cnt μ) (frT (μ 1 6) (μ 1 7) x.1) (cS μ) w) := by
        rw [k1, kc, eH]
        rw [eH] at o1
        exact xOK_min (by omega) t1 hH2 (fun s hs => t6 s hs) _ o1
      obtain ⟨μ', ν', x', w', r1, r2, r3, r4, r5, r6, r7⟩ := ih (k + 1) (B + 1) μ1 ν1 _ _ (by omega) (by omega) (by omega) t' p2 q2 o'
      exact ⟨μ', ν', x', w', r1, r2, r3, r4, r5, fun q h4 h5 => by rw [r6 q h4 h5, p3 q h4 h5], fun b hb => by rw [r7 b hb, q3 b hb]⟩

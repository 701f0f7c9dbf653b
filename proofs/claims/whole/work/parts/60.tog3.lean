def Vk (H ho l0 : Int32) (c n B : Nat) (S w : W5) (F : Nat → Int32) (k : Nat) : Int32 := hseq H ho l0 (fun m => sumP (fun s => dp (S s) F (w s) (dg c B s k) m) c) n
def FS (μ : gMem) (c B : Nat) (V : Nat → Int32) (k : Nat) : Prop := μ 106 6 = Bf V k ∧ (1 ≤ k → ∀ j, j < c → μ 137 j = Wf V (dg c B j) k)
def FR (s : Nat) (μ μ' : gMem) : Prop := (∀ q, q ≠ 106 → q ≠ 135 → q ≠ 137 → (q ≤ 129 + s ∨ 135 ≤ q) → μ' q = μ q) ∧ (∀ k, k ≠ 6 → μ' 106 k = μ 106 k) ∧ ∀ j, j < s → μ' 135 j = μ 135 j
theorem FR.rf (s : Nat) (μ : gMem) : FR s μ μ := ⟨fun _ _ _ _ _ => rfl, fun _ _ => rfl, fun _ _ => rfl⟩
theorem FR.tr {s : Nat} {μ μ1 μ2 : gMem} (h : FR s μ μ1) (h2 : FR s μ1 μ2) : FR s μ μ2 := ⟨fun q a b c d => by rw [h2.1 q a b c d, h.1 q a b c d], fun k hk => by rw [h2.2.1 k hk, h.2.1 k hk], fun j hj => by rw [h2.2.2 j hj, h.2.2 j hj]⟩
theorem FR.up {s : Nat} {μ μ1 : gMem} (h : FR (s + 1) μ μ1) : FR s μ μ1 := ⟨fun q a b c d => h.1 q a b c (by omega), h.2.1, fun j hj => h.2.2 j (by omega)⟩
def TC (μ : gMem) (c n B : Nat) (S w : W5) (F : Nat → Int32) (H ho l0 : Int32) : Prop := μ 1 1 = nI c ∧ μ 1 4 = H ∧ μ 106 7 = l0 ∧ μ 106 8 = ho ∧ μ 106 9 = nI n ∧ RW μ c n B S w F
theorem TC.fr {μ μ' : gMem} {c n B : Nat} {S w : W5} {F : Nat → Int32} {H ho l0 : Int32} {s : Nat} (hc : c ≤ 5) (h : TC μ c n B S w F H ho l0) (hf : FR s μ μ') : TC μ' c n B S w F H ho l0 := by
  obtain ⟨h1, h2, h3, h4, h5, h6⟩ := h
  obtain ⟨f1, f2, f3⟩ := hf
  have e1 : μ' 1 = μ 1 := f1 1 (by decide) (by decide) (by decide) (by omega)
  refine ⟨by rw [e1]; exact h1, by rw [e1]; exact h2, by rw [f2 7 (by decide)]; exact h3, by rw [f2 8 (by decide)]; exact h4, by rw [f2 9 (by decide)]; exact h5, fun s' hs' => ⟨fun hz d hd j hj => ?_, fun hz j hj => ?_⟩⟩
  · rw [f1 _ (by omega) (by omega) (by omega) (by omega)]; exact (h6 s' hs').1 hz d hd j hj
  · rw [f1 _ (by omega) (by omega) (by omega) (by omega)]; exact (h6 s' hs').2 hz j hj
theorem c_try {c n B : Nat} (hc : c ≤ 5) (hn : n ≤ 40) {S w : W5} {F : Nat → Int32} {H ho l0 : Int32} (hV : l0 ≤ H) (hl0 : ¬ l0 ≤ -1) : ∀ (t s p f : Nat) (μ : gMem), t = c - s → s ≤ c → t < f → TC μ c n B S w F H ho l0 → (∀ j, j < n → μ (129 + s) j = sumP (fun i => dp (S i) F (w i) (dg c B i (p * EE c B s)) j) s) → (∀ j, j < s → μ 135 j = dg c B j (p * EE c B s)) → (∀ j, s ≤ j → j < c → (μ 135 j = -1 ↔ ¬ B / 2 ^ j % 2 = 0)) → FS μ c B (Vk H ho l0 c n B S w F) (p * EE c B s) →
    ∃ μ', f_X1_tryFrom f (nI s) μ = some μ' ∧ FS μ' c B (Vk H ho l0 c n B S w F) ((p + 1) * EE c B s) ∧ FR s μ μ' ∧ ∀ j, s ≤ j → j < c → (μ' 135 j = -1 ↔ ¬ B / 2 ^ j % 2 = 0) := by
  have hVH : ∀ k, Vk H ho l0 c n B S w F k ≤ H := fun k => hseq_le _ hV n
  have hV0 : ∀ k, ¬ Vk H ho l0 c n B S w F k ≤ -1 := fun k z => hl0 (Int32.le_trans (hseq_ge _ n) z)
  intro t
  induction t with
  | zero =>
    intro s p f μ ht hs hf tc hrow htr htr2 hfs
    have hsc : s = c := by omega
    subst hsc
    obtain ⟨f', rfl⟩ : ∃ f', f = f' + 1 := ⟨f - 1, by omega⟩
    obtain ⟨h1, h2, h3, h4, h5, h6⟩ := id tc
    unfold f_X1_tryFrom
    simp only [lt, h1, if_pos (Int32.le_refl _), if_pos (inb5 (show s < 6 by omega) (by decide)), cl5 (show s < 1000 by omega)]
    rw [show 128 + 1 + s = 129 + s by omega]
    rw [EE_end, Nat.mul_one] at hrow htr hfs
    rw [EE_end, Nat.mul_one]
    obtain ⟨μ', p1, p2, p3, p4, p5⟩ := c_judge (129 + s) n hn _ H ho l0 μ h2 h3 h4 h5 hrow
    have eV : hseq H ho l0 (fun j => sumP (fun i => dp (S i) F (w i) (dg s B i p) j) s) n = Vk H ho l0 s n B S w F p := rfl
    rw [eV] at p2 p3
    rw [p1]
    obtain ⟨fs1, fs2⟩ := hfs
    refine ⟨μ', rfl, ⟨?_, fun _ j hj => ?_⟩, ⟨fun q a1 a2 a3 _ => p5 q a1 a3, p4, fun j hj => by rw [p5 135 (by decide) (by decide)]⟩, fun j hj hj2 => by omega⟩
    · rw [p2, fs1]
      rfl
    · rw [p3 j (by omega), fs1]
      rw [Wf]
      by_cases hv : Vk H ho l0 s n B S w F p ≤ Bf (Vk H ho l0 s n B S w F) p
      · rw [if_pos hv, if_pos hv]
        have hp1 : 1 ≤ p := by
          apply Classical.byContradiction
          intro z
          have : p = 0 := by omega
          subst this
          exact hV0 0 hv
        exact fs2 hp1 j hj
      · rw [if_neg hv, if_neg hv]
        exact htr j hj
  | succ t ih =>
    intro s p f μ ht hs hf tc hrow htr htr2 hfs
    have hsc : s < c := by omega
    have hs5 : s < 5 := by omega
    obtain ⟨f', rfl⟩ : ∃ f', f = f' + 1 := ⟨f - 1, by omega⟩
    obtain ⟨h1, h2, h3, h4, h5, h6⟩ := id tc
    unfold f_X1_tryFrom
    simp only [lt, h1, if_neg (nI_ge hsc (show c < 2 ^ 31 by omega)), if_pos (show nI s < (5 : Int32) from nI_lt (b := 5) hs5 (by decide)), if_pos (inb5 hs5 (by decide)), cl5 (show s < 1000 by omega), nI_1]
    by_cases hz : B / 2 ^ s % 2 = 0
    · have hne : ¬ μ 135 s = -1 := fun z => (htr2 s (Nat.le_refl _) hsc).mp z hz
      rw [if_neg hne]
      -- the loop over the delays
      have loop : ∀ (g d : Nat) (m : gMem), d ≤ 4 → 4 - d < g → FR s μ m → FS m c B (Vk H ho l0 c n B S w F) ((4 * p + d) * EE c B (s + 1)) → (∀ j, s ≤ j → j < c → (m 135 j = -1 ↔ ¬ B / 2 ^ j % 2 = 0)) →
          ∃ (i : Int32) (μ' : gMem), l_X1_tryFrom_53 (f_X1_tryFrom f') (nI s) g (nI d) m = some (i, μ') ∧ FS μ' c B (Vk H ho l0 c n B S w F) ((4 * p + 4) * EE c B (s + 1)) ∧ FR s μ μ' ∧ ∀ j, s ≤ j → j < c → (μ' 135 j = -1 ↔ ¬ B / 2 ^ j % 2 = 0) := by
        intro g
        induction g with
        | zero => intro d m _ h; omega
        | succ g ihg =>
          intro d m g1 g2 g3 g4 g5
          unfold l_X1_tryFrom_53
          by_cases hd : d = 4
          · subst hd
            rw [if_pos (show (4 : Int32) ≤ nI 4 from Int32.le_refl _)]
            exact ⟨_, m, rfl, g4, g3, g5⟩
          · rw [if_neg (show ¬ (4 : Int32) ≤ nI d from nI_ge (b := 4) (by omega) (by decide))]
            have tcm := tc.fr hc g3
            rw [tcm.2.1, g4.1]
            by_cases hfull : H ≤ Bf (Vk H ho l0 c n B S w F) ((4 * p + d) * EE c B (s + 1))
            · rw [if_pos hfull]
              have ek : (4 * p + 4) * EE c B (s + 1) = (4 * p + d) * EE c B (s + 1) + (4 - d) * EE c B (s + 1) := by
                rw [← Nat.add_mul]
                congr 1
                omega
              refine ⟨_, m, rfl, ⟨?_, fun _ j hj => ?_⟩, g3, g5⟩
              · rw [ek, Bf_stay hVH hfull]; exact g4.1
              · rw [ek, Wf_stay hVH hfull]
                refine g4.2 ?_ j hj
                apply Classical.byContradiction
                intro z
                have e0 : (4 * p + d) * EE c B (s + 1) = 0 := by omega
                rw [e0] at hfull
                exact hl0 (Int32.le_trans hV hfull)
            · rw [if_neg hfull, if_pos (inb5 hs5 (by decide)), cl5 (show s < 1000 by omega)]
              simp only [lt]
              have h9' : st m 135 s (nI d) 106 9 = nI n := by rw [st_ne (by decide)]; exact tcm.2.2.2.2.1
              obtain ⟨m16, q1, q2, q3⟩ := c_addRow s d n hs5 (by omega) hn (st m 135 s (nI d)) h9'
              rw [q1]
              simp only [Option.bind_some, nI_1, nI_inc]
              obtain ⟨ch1, ch2⟩ := dg_child (c := c) (B := B) (p := p) (d := d) hsc hz (by omega)
              have hpre : ∀ j, j < s → dg c B j ((4 * p + d) * EE c B (s + 1)) = dg c B j (p * EE c B s) := fun j hj => dg_same (by omega) hj (by rw [ch1, dg_node])
              have fr16 : FR s μ m16 := by
                refine g3.tr ⟨fun q a1 a2 a3 a4 => by rw [q3 q (by omega), st_ne a2], fun k hk => by rw [q3 106 (by omega), st_ne (by decide)], fun j hj => by rw [q3 135 (by omega), st_same, if_neg (by omega)]⟩
              have tc16 := tc.fr hc fr16
              have hrow16 : ∀ j, j < n → m16 (129 + (s + 1)) j = sumP (fun i => dp (S i) F (w i) (dg c B i ((4 * p + d) * EE c B (s + 1))) j) (s + 1) := by
                intro j hj
                rw [q2 j hj, st_ne (by omega), st_ne (by omega), sumP, ch2, (tcm.2.2.2.2.2 s hsc).1 hz d (by omega) j hj, g3.1 _ (by omega) (by omega) (by omega) (by omega), hrow j hj]
                congr 1
                exact sumP_congr (fun k hk => by rw [hpre k hk])
              have htr16 : ∀ j, j < s + 1 → m16 135 j = dg c B j ((4 * p + d) * EE c B (s + 1)) := by
                intro j hj
                rw [q3 135 (by omega), st_same]
                by_cases hjs : j = s
                · subst hjs; rw [if_pos rfl, ch2]
                · rw [if_neg hjs, g3.2.2 j (by omega), hpre j (by omega)]
                  exact htr j (by omega)
              have htr216 : ∀ j, s + 1 ≤ j → j < c → (m16 135 j = -1 ↔ ¬ B / 2 ^ j % 2 = 0) := by
                intro j hj hj2
                rw [q3 135 (by omega), st_same, if_neg (by omega)]
                exact g5 j (by omega) hj2
              have fs16 : FS m16 c B (Vk H ho l0 c n B S w F) ((4 * p + d) * EE c B (s + 1)) := by
                refine ⟨by rw [q3 106 (by omega), st_ne (by decide)]; exact g4.1, fun hk j hj => by rw [q3 137 (by omega), st_ne (by decide)]; exact g4.2 hk j hj⟩
              obtain ⟨m18, r1, r2, r3, r4⟩ := ih (s + 1) (4 * p + d) f' m16 (by omega) (by omega) (by omega) tc16 hrow16 htr16 htr216 fs16
              rw [r1]
              simp only [Option.bind_some]
              refine ihg (d + 1) m18 (by omega) (by omega) (fr16.tr r3.up) r2 (fun j hj hj2 => ?_)
              by_cases hjs : j = s
              · subst hjs
                rw [r3.2.2 j (by omega), htr16 j (by omega), ch2]
                exact ⟨fun z => absurd z.symm (nI_m1 (by omega)), fun z => absurd hz z⟩
              · exact r4 j (by omega) hj2
      have ek : (4 * p + 0) * EE c B (s + 1) = p * EE c B s := by rw [EE_idle hsc hz, Nat.add_zero, Nat.mul_comm 4 p, Nat.mul_assoc]
      have ek2 : (4 * p + 4) * EE c B (s + 1) = (p + 1) * EE c B s := by rw [EE_idle hsc hz, show 4 * p + 4 = (p + 1) * 4 by omega, Nat.mul_assoc]
      obtain ⟨i, μ', r1, r2, r3, r4⟩ := loop gF 0 μ (by omega) (by unfold gF; omega) (FR.rf s μ) (by rw [ek]; exact hfs) htr2
      have r1' : l_X1_tryFrom_53 (f_X1_tryFrom f') (nI s) gF 0 μ = some (i, μ') := r1
      rw [r1']
      rw [ek2] at r2
      exact ⟨μ', rfl, r2, r3, r4⟩
    · have hne : μ 135 s = -1 := (htr2 s (Nat.le_refl _) hsc).mpr hz
      rw [if_pos hne]
      have ee := EE_work (c := c) (B := B) hsc hz
      obtain ⟨m16, q1, q2, q3⟩ := c_addRow s 0 n hs5 (by omega) hn μ h5
      have q1' : f_X1_addRow (nI s) 0 μ = some m16 := q1
      rw [q1']
      simp only [Option.bind_some]
      have eD : dg c B s (p * EE c B (s + 1)) = -1 := by unfold dg; rw [if_neg hz]
      have fr16 : FR s μ m16 := ⟨fun q a1 a2 a3 a4 => q3 q (by omega), fun k hk => by rw [q3 106 (by omega)], fun j hj => by rw [q3 135 (by omega)]⟩
      have tc16 := tc.fr hc fr16
      rw [ee] at hrow htr hfs
      have hrow16 : ∀ j, j < n → m16 (129 + (s + 1)) j = sumP (fun i => dp (S i) F (w i) (dg c B i (p * EE c B (s + 1))) j) (s + 1) := by
        intro j hj
        rw [q2 j hj, sumP, eD, (h6 s hsc).2 hz j hj, hrow j hj]
      have htr16 : ∀ j, j < s + 1 → m16 135 j = dg c B j (p * EE c B (s + 1)) := by
        intro j hj
        rw [q3 135 (by omega)]
        by_cases hjs : j = s
        · subst hjs; rw [eD]; exact hne
        · exact htr j (by omega)
      obtain ⟨m18, r1, r2, r3, r4⟩ := ih (s + 1) p f' m16 (by omega) (by omega) (by omega) tc16 hrow16 htr16 (fun j hj hj2 => by rw [q3 135 (by omega)]; exact htr2 j (by omega) hj2) ⟨by rw [q3 106 (by omega)]; exact hfs.1, fun hk j hj => by rw [q3 137 (by omega)]; exact hfs.2 hk j hj⟩
      rw [r1, ee]
      refine ⟨m18, rfl, r2, fr16.tr r3.up, fun j hj hj2 => ?_⟩
      by_cases hjs : j = s
      · subst hjs
        rw [r3.2.2 j (by omega), htr16 j (by omega), eD]
        exact ⟨fun _ => hz, fun _ => rfl⟩
      · exact r4 j (by omega) hj2
theorem c_search {c n mn B : Nat} (hc : c ≤ 5) (hn : n ≤ 40) {μ : gMem} (h1 : μ 1 1 = nI c) {x : V5} {w : W5} (hx : cSc μ 16 x w) (hmn : x.1 = nI mn) (hB : ∀ s, s < c → ((w s).1 = 0 ↔ B / 2 ^ s % 2 = 0)) (hz : ZInv μ) (hV : x.2.1 ≤ μ 1 4) (hl0 : ¬ x.2.1 ≤ -1) :
    ∃ μ', f_X1_search 16 (nI n) μ = some μ' ∧ FS μ' c B (Vk (μ 1 4) x.2.2.1 x.2.1 c n B (cS μ) w (Fq (μ 1 6) (μ 1 7) mn)) (EE c B 0) ∧ ∀ q, (q < 106 ∨ 138 ≤ q ∨ q = 129) → μ' q = μ q := by
  unfold f_X1_search
  simp only [lt]
  have e1 : μ 16 1 = x.2.1 := by rw [← hx.1]; rfl
  have e2 : μ 16 2 = x.2.2.1 := by rw [← hx.1]; rfl
  rw [st_ne (show (16 : Nat) ≠ 106 by decide), e1, e2]
  generalize hm : st (st (st (st μ 106 7 x.2.1) 106 8 x.2.2.1) 106 9 (nI n)) 106 6 (-1) = m
  have km : ∀ q, q ≠ 106 → m q = μ q := fun q hq => by rw [← hm, st_ne hq, st_ne hq, st_ne hq, st_ne hq]
  have m7 : m 106 7 = x.2.1 := by rw [← hm]; simp [st_row]
  have m8 : m 106 8 = x.2.2.1 := by rw [← hm]; simp [st_row]
  have m9 : m 106 9 = nI n := by rw [← hm]; simp [st_row]
  have m6 : m 106 6 = -1 := by rw [← hm]; simp [st_row]
  obtain ⟨m2, p1, p2, p3, p4⟩ := c_s28 c n mn B hc hn (nI n) m (by rw [km 1 (by decide)]; exact h1) x w ⟨by rw [km 16 (by decide)]; exact hx.1, fun j hj => by rw [km _ (by omega)]; exact hx.2 j hj⟩ hmn m9 hB
  have eS : ∀ s, s < c → cS m s = cS μ s := fun s hs => by unfold cS; rw [km _ (by omega)]
  rw [km 1 (by decide)] at p2
  have p2' : RW m2 c n B (cS μ) w (Fq (μ 1 6) (μ 1 7) mn) := fun s hs => by rw [← eS s hs]; exact p2 s hs
  have p1' : l_X1_search_28 16 (nI n) gF 0 m = some (nI c, m2) := p1
  rw [p1']
  simp only [Option.bind_some]
  have k2 : m2 1 = μ 1 := by rw [p4 1 (by decide) (by decide) (by omega), km 1 (by decide)]
  have k106 : m2 106 = m 106 := p4 106 (by decide) (by decide) (by omega)
  have k129 : m2 129 = μ 129 := by rw [p4 129 (by decide) (by decide) (by omega), km 129 (by decide)]
  obtain ⟨μ', r1, r2, r3, r4⟩ := c_try (c := c) (n := n) (B := B) hc hn (S := cS μ) (w := w) (F := Fq (μ 1 6) (μ 1 7) mn) (H := μ 1 4) (ho := x.2.2.1) (l0 := x.2.1) hV hl0 c 0 0 7 m2 (by omega) (by omega) (by omega) ⟨by rw [k2]; exact h1, by rw [k2], by rw [k106]; exact m7, by rw [k106]; exact m8, by rw [k106]; exact m9, p2'⟩ (fun j hj => by show m2 129 j = 0; rw [k129]; exact hz j (by omega)) (fun j hj => by omega) (fun j _ hj => by
    rw [p3 j hj]
    by_cases hb : B / 2 ^ j % 2 = 0
    · rw [if_pos hb]
      exact ⟨fun z => absurd z (by decide), fun z => absurd hb z⟩
    · rw [if_neg hb]
      exact ⟨fun _ => hb, fun _ => rfl⟩) (by rw [Nat.zero_mul]; exact ⟨by rw [k106]; exact m6, fun z => by omega⟩)
  have r1' : f_X1_tryFrom 7 0 m2 = some μ' := r1
  rw [r1']
  rw [Nat.zero_add, Nat.one_mul] at r2
  refine ⟨μ', rfl, r2, fun q hq => ?_⟩
  rw [r3.1 q (by omega) (by omega) (by omega) (by omega), p4 q (by omega) (by omega) (by omega), km q (by omega)]

/-! the reference's search -/
theorem wk_tab : ∀ n : Nat, n < 5 → ∀ X : Nat, X < 32 → X < 2 ^ n → ((X / 2 ^ n % 2 = 0 ∧ (X + 2 ^ n) / 2 ^ n % 2 = 1) ∧ ∀ s : Nat, s < n → (X + 2 ^ n) / 2 ^ s % 2 = X / 2 ^ s % 2) := by decide +kernel
theorem wkN_bit (w : W5) : ∀ n, n ≤ 5 → ∀ s, s < n → ((w s).1 = 0 ↔ wkN w n / 2 ^ s % 2 = 0)
  | 0, _, s, hs => by omega
  | n + 1, hn, s, hs => by
    have hl := wkN_lt w n
    have hp := (pow_tab n (by omega)).2.1
    obtain ⟨⟨t1, t2⟩, t3⟩ := wk_tab n (by omega) (wkN w n) (by omega) hl
    rw [wkN]
    by_cases hsn : s = n
    · subst hsn
      by_cases h0 : (w s).1 = 0
      · rw [if_pos h0]; exact ⟨fun _ => t1, fun _ => h0⟩
      · rw [if_neg h0, t2]; exact ⟨fun z => absurd z h0, fun z => by omega⟩
    · have ih := wkN_bit w n (by omega) s (by omega)
      by_cases h0 : (w n).1 = 0
      · rw [if_pos h0]; exact ih
      · rw [if_neg h0, t3 s (by omega)]; exact ih
theorem idle_tab : ∀ c : Nat, c ≤ 5 → ∀ B : Nat, B < 32 → B < 2 ^ c → ((nI (2 ^ c) - 1) &&& (nI B ^^^ (-1 : Int32)) = nI (2 ^ c - 1 - B) ∧ (2 ^ c - 1 - B < 32 ∧ ((1 : Int32) <<< (((2 : Int32) * nI (popN (2 ^ c - 1 - B))) &&& 31) = nI (EE c B 0) ∧ EE c B 0 ≤ 1024))) := by decide +kernel
theorem idle_bit : ∀ c : Nat, c ≤ 5 → ∀ B : Nat, B < 32 → B < 2 ^ c → ∀ s : Nat, s < c → ((2 ^ c - 1 - B) / 2 ^ s % 2 = 1 ↔ B / 2 ^ s % 2 = 0) := by decide +kernel
theorem m_decode {c B IM k : Nat} (hc : c ≤ 5) (hIM : IM < 32) (hbit : ∀ s, s < c → (IM / 2 ^ s % 2 = 1 ↔ B / 2 ^ s % 2 = 0)) (hk : k < 2000) (i1 i2 i4 i5 i6 : Int32) (ν : gMem) : ∃ (a b : Int32) (ν' : gMem), l_X11_together_85 i1 i2 (nI IM) i4 i5 i6 gF (nI k) (nI c - 1) ν = some (a, b, ν') ∧ (∀ j, j < c → ν' 149 j = dg c B j k) ∧ ∀ b, b ≠ 149 → ν' b = ν b := by
  have key : ∀ (f s : Nat) (m : gMem), s ≤ c → s < f → (∀ j, s ≤ j → j < c → m 149 j = dg c B j k) → (∀ b, b ≠ 149 → m b = ν b) →
      ∃ (a b : Int32) (ν' : gMem), l_X11_together_85 i1 i2 (nI IM) i4 i5 i6 f (nI (k / EE c B s)) (nI s - 1) m = some (a, b, ν') ∧ (∀ j, j < c → ν' 149 j = dg c B j k) ∧ ∀ b, b ≠ 149 → ν' b = ν b := by
    intro f
    induction f with
    | zero => intro s m _ h; omega
    | succ f ih =>
      intro s m g1 g2 g3 g4
      unfold l_X11_together_85
      cases s with
      | zero =>
        rw [if_pos (show nI 0 - 1 < 0 by decide)]
        exact ⟨_, _, m, rfl, fun j hj => g3 j (by omega) hj, g4⟩
      | succ s =>
        have hs5 : s < 5 := by omega
        rw [nI_pred, if_neg (nI_pos (by omega)), if_pos (inb5 hs5 (by decide)), cl5 (by omega)]
        have em : nI s + Int32.ofInt (-1) = nI s - 1 := by rw [Int32.sub_eq_add_neg]; rfl
        simp only [lt, e_has IM s hIM hs5, Option.bind_some, b01, em]
        have hq : k / EE c B (s + 1) < 2000 := Nat.lt_of_le_of_lt (Nat.div_le_self _ _) hk
        by_cases hb : IM / 2 ^ s % 2 = 1
        · have hz := (hbit s (by omega)).mp hb
          rw [if_neg (not_not_intro hb)]
          have e1 : nI (k / EE c B (s + 1)) - nI (k / EE c B (s + 1)) / 4 * 4 = nI (k / EE c B (s + 1) % 4) := pk_rem (d := 4) (by omega) (by omega) (by omega)
          have e2 : nI (k / EE c B (s + 1)) / 4 = nI (k / EE c B s) := by
            rw [show (4 : Int32) = nI 4 from rfl, pk_div (by omega) (by omega) (by omega), Nat.div_div_eq_div_mul, Nat.mul_comm, ← EE_idle (by omega) hz]
          rw [e1, e2]
          refine ih s _ (by omega) (by omega) (fun j hj hj2 => ?_) (fun b hb => by rw [st_ne hb, st_ne hb]; exact g4 b hb)
          rw [st_same]
          by_cases hjs : j = s
          · subst hjs
            rw [if_pos rfl]
            unfold dg
            rw [if_pos hz]
          · rw [if_neg hjs, st_same, if_neg hjs]
            exact g3 j (by omega) hj2
        · have hz : ¬ B / 2 ^ s % 2 = 0 := fun z => hb ((hbit s (by omega)).mpr z)
          rw [if_pos hb, ← EE_work (by omega) hz]
          refine ih s _ (by omega) (by omega) (fun j hj hj2 => ?_) (fun b hb => by rw [st_ne hb]; exact g4 b hb)
          rw [st_same]
          by_cases hjs : j = s
          · subst hjs
            rw [if_pos rfl]
            unfold dg
            rw [if_neg hz]
          · rw [if_neg hjs]
            exact g3 j (by omega) hj2
  have := key gF c ν (Nat.le_refl _) (by unfold gF; omega) (fun j hj hj2 => by omega) (fun _ _ => rfl)
  rw [EE_end, Nat.div_one] at this
  exact this
/-- the draws of a minute -/
def preW (c t m : Nat) (S : W5) (δ : Nat → Int32) (w : W5) : W5 := fun s => if s < t ∧ s < c then dpre (S s) (δ s) m (w s) else w s
theorem m_drawAt {c B IM m : Nat} (hIM : IM < 32) (hbit : ∀ s, s < c → (IM / 2 ^ s % 2 = 1 ↔ B / 2 ^ s % 2 = 0)) (hm : m < 1000) (k : Nat) (i1 i3 : Int32) (S w : W5) (H fa fb : Int32) (x : V5) (ν : gMem) (hT : MT ν c S H fa fb) (h9 : ∀ j, j < c → ν 149 j = dg c B j k) (h : mSc (ν 141) (ν 142) x w) : ∃ ν', l_X11_highestBy_20 i1 (nI IM) i3 (nI m) gF 0 ν = some (nI c, ν') ∧ mSc (ν' 141) (ν' 142) x (preW c c m S (fun j => dg c B j k) w) ∧ ∀ b, b ≠ 142 → ν' b = ν b := by
  obtain ⟨hc, h1, t3, t4, t5, t6, t7⟩ := id hT
  have key : ∀ (f t : Nat) (n : gMem), t ≤ c → c - t < f → mSc (n 141) (n 142) x (preW c t m S (fun j => dg c B j k) w) → (∀ b, b ≠ 142 → n b = ν b) →
      ∃ ν', l_X11_highestBy_20 i1 (nI IM) i3 (nI m) f (nI t) n = some (nI c, ν') ∧ mSc (ν' 141) (ν' 142) x (preW c c m S (fun j => dg c B j k) w) ∧ ∀ b, b ≠ 142 → ν' b = ν b := by
    intro f
    induction f with
    | zero => intro t n _ h2; omega
    | succ f ih =>
      intro t n g1 g2 g3 g4
      unfold l_X11_highestBy_20
      rw [g4 140 (by decide), h1]
      by_cases ht : t = c
      · subst ht
        rw [if_pos (Int32.le_refl _)]
        exact ⟨n, rfl, g3, g4⟩
      · have ht5 : t < 5 := by omega
        have htc : t < c := by omega
        rw [if_neg (nI_ge (by omega) (by omega)), e_has IM t hIM ht5]
        simp only [Option.bind_some, b01, lt, nI_inc, if_pos (inb5 ht5 (by decide)), cl5 (show t < 1000 by omega), g4 149 (by decide), h9 t htc]
        have other : ¬ dg c B t k = nI m → preW c (t + 1) m S (fun j => dg c B j k) w = preW c t m S (fun j => dg c B j k) w := by
          intro hd
          funext s
          unfold preW
          by_cases hst : s = t
          · subst hst
            rw [if_pos ⟨by omega, htc⟩, if_neg (fun z => by omega)]
            unfold dpre
            rw [if_neg hd]
          · have : (s < t + 1 ∧ s < c) ↔ (s < t ∧ s < c) := by omega
            simp only [this]
        by_cases hb : IM / 2 ^ t % 2 = 1
        · rw [if_neg (not_not_intro hb)]
          by_cases hd : dg c B t k = nI m
          · rw [if_pos hd]
            have e141 : n 141 = ν 141 := g4 141 (by decide)
            obtain ⟨m2, u1, u2, u3, u4, u5, u6, u7⟩ := m_draws ht5 n (by rw [e141]; exact t3 t htc)
            rw [u1]
            simp only [Option.bind_some]
            refine ih (t + 1) m2 (by omega) (by omega) ?_ (fun b hb => by rw [u3 b hb]; exact g4 b hb)
            have e : preW c (t + 1) m S (fun j => dg c B j k) w = upW (preW c t m S (fun j => dg c B j k) w) t (drawT (mS (n 141) t) (preW c t m S (fun j => dg c B j k) w t)) := by
              funext s
              unfold upW preW
              by_cases hst : s = t
              · subst hst
                simp only [if_true]
                rw [if_pos ⟨by omega, htc⟩, if_neg (fun z => by omega), e141, t4 s htc]
                unfold dpre
                rw [if_pos hd]
              · rw [if_neg hst]
                have : (s < t + 1 ∧ s < c) ↔ (s < t ∧ s < c) := by omega
                simp only [this]
            rw [e]
            exact mSc_draw ht5 g3 (u3 141 (by decide)) u2 u4 u5 u6 u7
          · rw [if_neg hd]
            refine ih (t + 1) n (by omega) (by omega) ?_ g4
            rw [other hd]
            exact g3
        · rw [if_pos hb]
          refine ih (t + 1) n (by omega) (by omega) ?_ g4
          rw [other ?_]
          · exact g3
          · unfold dg
            rw [if_neg (fun z => hb ((hbit t htc).mpr z))]
            exact nI_m1 (by omega)
  have e0 : preW c 0 m S (fun j => dg c B j k) w = w := by
    funext s
    unfold preW
    rw [if_neg (fun z => by omega)]
  exact key gF 0 ν (by omega) (by unfold gF; omega) (by rw [e0]; exact h) (fun _ _ => rfl)
theorem m_highestBy {c n mn B IM k : Nat} (hn : n ≤ 40) (hmn : mn ≤ 999) (hIM : IM < 32) (hbit : ∀ s, s < c → (IM / 2 ^ s % 2 = 1 ↔ B / 2 ^ s % 2 = 0)) {S w : W5} {H fa fb : Int32} {x : V5} {ν : gMem} (hT : MT ν c S H fa fb) (h9 : ∀ j, j < c → ν 149 j = dg c B j k) (h : mSc (ν 141) (ν 142) x w) (hx : x.1 = nI mn) (h0 : ∀ s, c ≤ s → s < 5 → w s = (0, 0, 0, 0, 0)) :
    ∃ ν', f_X11_highestBy (nI n) (nI IM) ν = some (Vk H x.2.2.1 x.2.1 c n B S w (Fq fa fb mn) k, ν') ∧ (∀ j, j < 35 → ν' 142 j = ν 148 j) ∧ ∀ b, b ≠ 142 → ν' b = ν b := by
  obtain ⟨hc, h1, t3, t4, t5, t6, t7⟩ := id hT
  generalize hQ : (fun m => sumP (fun s => dp (S s) (Fq fa fb mn) (w s) (dg c B s k) m) c) = Q
  have eV : Vk H x.2.2.1 x.2.1 c n B S w (Fq fa fb mn) k = hseq H x.2.2.1 x.2.1 Q n := by unfold Vk; rw [hQ]
  rw [eV]
  have key : ∀ (f m : Nat) (ν1 : gMem), m ≤ n → n - m < f → (∀ b, b ≠ 142 → ν1 b = ν b) → (∃ (x' : V5) (w' : W5), mSc (ν1 141) (ν1 142) x' w' ∧ x'.1 = nI (mn + m) ∧ x'.2.1 = lseq H x.2.2.1 x.2.1 Q m ∧ x'.2.2.1 = x.2.2.1 ∧ (∀ s, s < c → w' s = dw (S s) (Fq fa fb mn) (w s) (dg c B s k) m) ∧ ∀ s, c ≤ s → s < 5 → w' s = (0, 0, 0, 0, 0)) →
      ∃ ν', l_X11_highestBy_11 (nI n) (nI IM) f (hseq H x.2.2.1 x.2.1 Q m) (nI m) ν1 = some (hseq H x.2.2.1 x.2.1 Q n, nI n, ν') ∧ ∀ b, b ≠ 142 → ν' b = ν b := by
    intro f
    induction f with
    | zero => intro m ν1 _ h2; omega
    | succ f ih =>
      intro m ν1 g1 g2 g3 g4
      unfold l_X11_highestBy_11
      by_cases hm : m = n
      · subst hm
        rw [if_pos (Int32.le_refl _)]
        exact ⟨ν1, rfl, g3⟩
      · rw [if_neg (nI_ge (by omega) (by omega))]
        obtain ⟨x', w', y1, y2, y3, y4, y5, y6⟩ := g4
        have hT1 := hT.congr (ν' := ν1) (by rw [g3 140 (by decide)]) (g3 141 (by decide))
        obtain ⟨ν2, q1, q2, q3⟩ := m_drawAt hIM hbit (show m < 1000 by omega) k (nI n) (hseq H x.2.2.1 x.2.1 Q m) S w' H fa fb x' ν1 hT1 (fun j hj => by rw [g3 149 (by decide)]; exact h9 j hj) y1
        rw [q1]
        simp only [Option.bind_some]
        have e141 : ν2 141 = ν 141 := by rw [q3 141 (by decide), g3 141 (by decide)]
        obtain ⟨ν3, p1, p2, p3⟩ := m_min c hc ν2 (by rw [q3 140 (by decide), g3 140 (by decide)]; exact h1) (by rw [e141]; exact t3) x' _ q2 (fun s hs hs5 => by unfold preW; rw [if_neg (fun z => by omega)]; exact y6 s hs hs5) (by rw [y2]; exact nI_rng (show mn + m ≤ 1999 by omega) (by decide))
        rw [e141, t5, t6, t7] at p1
        rw [p3 141 (by decide), e141, t5, t6, t7] at p2
        have eF : frT fa fb x'.1 = Fq fa fb mn m := by rw [y2]; rfl
        have ep : ∀ s, s < c → preW c c m S (fun j => dg c B j k) w' s = dpre (S s) (dg c B s k) m (dw (S s) (Fq fa fb mn) (w s) (dg c B s k) m) := fun s hs => by unfold preW; rw [if_pos ⟨hs, hs⟩, y5 s hs]
        have eQ : minS c H (frT fa fb x'.1) (mS (ν 141)) (preW c c m S (fun j => dg c B j k) w') = Q m := by
          rw [← hQ]
          unfold minS
          exact sumP_congr (fun s hs => by rw [t4 s hs, ep s hs, eF]; rfl)
        rw [eQ] at p1 p2
        rw [y3] at p1
        rw [p1]
        simp only [Option.bind_some, lt, nI_inc]
        have er : rise H (lseq H x.2.2.1 x.2.1 Q m + Q m) = rseq H x.2.2.1 x.2.1 Q m := rfl
        rw [er]
        have e : (if rseq H x.2.2.1 x.2.1 Q m ≤ hseq H x.2.2.1 x.2.1 Q m then hseq H x.2.2.1 x.2.1 Q m else rseq H x.2.2.1 x.2.1 Q m) = hseq H x.2.2.1 x.2.1 Q (m + 1) := by
          rw [hseq]
          by_cases hh : hseq H x.2.2.1 x.2.1 Q m < rseq H x.2.2.1 x.2.1 Q m
          · rw [if_pos hh, if_neg (Int32.not_le.mpr hh)]
          · rw [if_neg hh, if_pos (Int32.not_lt.mp hh)]
        rw [e]
        refine ih (m + 1) ν3 (by omega) (by omega) (fun b hb => by rw [p3 b hb, q3 b hb, g3 b hb]) ⟨minX H (Q m) x', minW c (frT fa fb x'.1) (mS (ν 141)) (preW c c m S (fun j => dg c B j k) w'), ?_, ?_, ?_, y4, fun s hs => ?_, fun s hs hs5 => ?_⟩
        · rw [p3 141 (by decide), e141]
          exact p2
        · show x'.1 + 1 = _
          rw [y2, nI_1]
          rfl
        · show rise H (x'.2.1 + _) - lost (rise H (x'.2.1 + _)) x'.2.2.1 = _
          rw [y3, y4]
          rfl
        · unfold minW
          rw [if_pos hs, t4 s hs, ep s hs, eF]
          rfl
        · unfold minW
          rw [if_neg (by omega)]
          unfold preW
          rw [if_neg (fun z => by omega)]
          exact y6 s hs hs5
  obtain ⟨ν1, p1, p2⟩ := key gF 0 ν (by omega) (by unfold gF; omega) (fun _ _ => rfl) ⟨x, w, h, hx, rfl, rfl, fun _ _ => rfl, h0⟩
  have e31 : ν 142 31 = x.2.1 := by rw [← h.1]; rfl
  have p1' : l_X11_highestBy_11 (nI n) (nI IM) gF x.2.1 0 ν = some (hseq H x.2.2.1 x.2.1 Q n, nI n, ν1) := p1
  obtain ⟨ν2, q1, q2, q3⟩ := m_takeBack ν1
  unfold f_X11_highestBy
  simp only [e31, p1', Option.bind_some, lt, q1, Int32.reduceToNatClampNeg]
  exact ⟨ν2, rfl, fun k hk => by rw [q2 k hk, p2 148 (by decide)], fun b hb => by rw [q3 b hb, p2 b hb]⟩

theorem m_together {c n mn B IM : Nat} (hn : n ≤ 40) (hmn : mn ≤ 999) (hIM : IM < 32) (hbit : ∀ s, s < c → (IM / 2 ^ s % 2 = 1 ↔ B / 2 ^ s % 2 = 0)) (hsh : (1 : Int32) <<< (((2 : Int32) * nI (popN IM)) &&& 31) = nI (EE c B 0)) (hEE : EE c B 0 ≤ 1024) {S w : W5} {H fa fb : Int32} {x : V5} {ν : gMem} (hT : MT ν c S H fa fb) (h : mSc (ν 141) (ν 142) x w) (hx : x.1 = nI mn) (h0 : ∀ s, c ≤ s → s < 5 → w s = (0, 0, 0, 0, 0)) (h8 : ∀ j, j < 35 → ν 148 j = ν 142 j) (i2 : Int32) (Wx : Nat → Int32) (hW0 : Wx 0 = -1)
    (hW : ∀ (k : Nat) (m : gMem), (∀ j, j < c → m 149 j = dg c B j k) → ∀ Z : Int32 → Option (Int32 × Int32 × Int32 × gMem), (if 0 ≤ i2 then (if inb i2 5 = true then Z (m 149 i2.toNatClampNeg) else none) else Z (-1)) = Z (if Vk H x.2.2.1 x.2.1 c n B S w (Fq fa fb mn) k ≤ Bf (Vk H x.2.2.1 x.2.1 c n B S w (Fq fa fb mn)) k then (if 0 ≤ i2 then (m 149 i2.toNatClampNeg) else -1) else Wx (k + 1)))
    (hWs : ∀ k, Vk H x.2.2.1 x.2.1 c n B S w (Fq fa fb mn) k ≤ Bf (Vk H x.2.2.1 x.2.1 c n B S w (Fq fa fb mn)) k → Wx (k + 1) = Wx k) :
    ∃ (a : Int32) (ν' : gMem), l_X11_together_60 (nI n) i2 (nI IM) gF (-1) (-1) 0 ν = some (Bf (Vk H x.2.2.1 x.2.1 c n B S w (Fq fa fb mn)) (EE c B 0), Wx (EE c B 0), a, ν') ∧ (∀ b, b ≠ 142 → b ≠ 149 → ν' b = ν b) ∧ ∀ j, j < 35 → ν' 142 j = ν 142 j := by
  obtain ⟨hc, h1, t3, t4, t5, t6, t7⟩ := id hT
  generalize hV : Vk H x.2.2.1 x.2.1 c n B S w (Fq fa fb mn) = V at *
  have key : ∀ (f k : Nat) (m : gMem), k ≤ EE c B 0 → EE c B 0 - k < f → (∀ b, b ≠ 142 → b ≠ 149 → m b = ν b) → (∀ j, j < 35 → m 142 j = ν 142 j) →
      ∃ (a : Int32) (ν' : gMem), l_X11_together_60 (nI n) i2 (nI IM) f (Bf V k) (Wx k) (nI k) m = some (Bf V (EE c B 0), Wx (EE c B 0), a, ν') ∧ (∀ b, b ≠ 142 → b ≠ 149 → ν' b = ν b) ∧ ∀ j, j < 35 → ν' 142 j = ν 142 j := by
    intro f
    induction f with
    | zero => intro k m _ h2; omega
    | succ f ih =>
      intro k m g1 g2 g3 g4
      unfold l_X11_together_60
      rw [e_ones IM hIM]
      simp only [Option.bind_some, hsh]
      by_cases hk : k = EE c B 0
      · rw [hk, if_pos (Int32.le_refl _)]
        exact ⟨_, m, rfl, g3, g4⟩
      · rw [if_neg (nI_ge (by omega) (by omega)), g3 140 (by decide) (by decide), h1]
        simp only [lt]
        obtain ⟨a, b, m2, p1, p2, p3⟩ := m_decode hc hIM hbit (show k < 2000 by omega) (nI n) i2 (Bf V k) (Wx k) (nI k) m
        rw [p1]
        simp only [Option.bind_some]
        have e141 : m2 141 = ν 141 := by rw [p3 141 (by decide), g3 141 (by decide) (by decide)]
        have hT2 := hT.congr (ν' := m2) (by rw [p3 140 (by decide), g3 140 (by decide) (by decide)]) e141
        obtain ⟨m3, q1, q2, q3⟩ := m_highestBy hn hmn hIM hbit hT2 p2 (mSc_keep h e141 (fun j hj => by rw [p3 142 (by decide)]; exact g4 j hj)) hx h0
        have eVk : Vk H x.2.2.1 x.2.1 c n B S w (Fq fa fb mn) k = V k := by rw [hV]
        rw [eVk] at q1
        rw [q1]
        simp only [Option.bind_some, nI_inc]
        have k3 : ∀ b, b ≠ 142 → b ≠ 149 → m3 b = ν b := fun b b1 b2 => by rw [q3 b b1, p3 b b2]; exact g3 b b1 b2
        have k4 : ∀ j, j < 35 → m3 142 j = ν 142 j := fun j hj => by rw [q2 j hj, p3 148 (by decide), g3 148 (by decide) (by decide)]; exact h8 j hj
        have hI := ih (k + 1) m3 (by omega) (by omega) k3 k4
        by_cases hv : V k ≤ Bf V k
        · rw [if_pos hv]
          rw [Bf, if_pos hv, hWs k hv] at hI
          exact hI
        · rw [if_neg hv]
          rw [Bf, if_neg hv] at hI
          have := hW k m3 (fun j hj => by rw [q3 149 (by decide)]; exact p2 j hj) (fun z => l_X11_together_60 (nI n) i2 (nI IM) f (V k) z (nI (k + 1)) m3)
          rw [this, if_neg hv]
          exact hI
  have := key gF 0 ν (by omega) (by unfold gF; omega) (fun _ _ _ => rfl) (fun _ _ => rfl)
  rw [hW0] at this
  exact this
theorem keepC.of2 {μ μ' : gMem} (h : ∀ q, (q < 106 ∨ 138 ≤ q ∨ q = 129) → μ' q = μ q) : keepC μ μ' :=
  ⟨by rw [h 0 (by omega)], h 1 (by omega), fun a _ _ => h a (by omega), by rw [h 8 (by omega)], h 9 (by omega), fun a _ _ => h a (by omega), fun _ _ => by rw [h 129 (by omega)], h 138 (by omega), h 139 (by omega)⟩
theorem RO.keep2 {μ ν μ' ν' : gMem} {r r' : Int32} (h : Sim μ ν) (e : r' = r) (hc : ∀ q, (q < 106 ∨ 138 ≤ q ∨ q = 129) → μ' q = μ q) (hm : ∀ b, b ≠ 142 → b ≠ 148 → b ≠ 149 → ν' b = ν b) (h2 : ∀ k, k < 35 → ν' 142 k = ν 142 k) : RO (some (r, μ')) (some (r', ν')) μ ν :=
  ⟨r, μ', ν', rfl, by rw [e], h.keep (keepC.of2 hc) (keepM.of hm h2), fun a ha => hc a (by omega), fun a ha => hm a (by omega) (by omega) (by omega)⟩
theorem s_together (i j : Int32) {μ ν : gMem} (h : Sim μ ν) : Res (f_X10_together i j) (f_X11_together i j) μ ν := by
  obtain ⟨c, x, w, mn, hc, h1, hT, sc1, sc2, hx, hmn, h0, hok, hH⟩ := h.unfold
  obtain ⟨-, -, -, -, -, -, hzi⟩ := id h
  show RO (f_X10_together i j μ) (f_X11_together i j ν) μ ν
  have hB := wkN_lt w c
  have hp := pow_tab c hc
  have hB32 : wkN w c < 32 := by omega
  obtain ⟨it1, it2, it3, it4⟩ := idle_tab c hc (wkN w c) hB32 hB
  have hbit := idle_bit c hc (wkN w c) hB32 hB
  have hwb := wkN_bit w c hc
  obtain ⟨o1, o2, ⟨l, hl1, hl2, hl3⟩, o4, o5⟩ := id hok
  have hl0 : ¬ x.2.1 ≤ -1 := by
    rw [hl2]
    intro z
    exact nI_pos (show l < 2 ^ 31 by omega) (Int32.lt_of_le_of_lt z (by decide))
  -- both searches, for a bound n
  have both : ∀ n : Nat, n ≤ 40 → ∃ (m7 ν1 : gMem), f_X1_search 16 (nI n) μ = some m7 ∧ FS m7 c (wkN w c) (Vk (μ 1 4) x.2.2.1 x.2.1 c n (wkN w c) (cS μ) w (Fq (μ 1 6) (μ 1 7) mn)) (EE c (wkN w c) 0) ∧ (∀ q, (q < 106 ∨ 138 ≤ q ∨ q = 129) → m7 q = μ q) ∧ f_X11_putAside ν = some ν1 ∧ f_X11_working ν1 = some (nI (wkN w c), ν1) ∧ (∀ k, k < 35 → ν1 148 k = ν 142 k) ∧ ∀ b, b ≠ 148 → ν1 b = ν b := by
    intro n hn
    obtain ⟨m7, p1, p2, p3⟩ := c_search hc hn h1 sc1 hx hwb hzi hl3 hl0
    obtain ⟨ν1, q1, q2, q3⟩ := m_putAside ν
    refine ⟨m7, ν1, p1, p2, p3, q1, ?_, q2, q3⟩
    rw [m_working c hc ν1 (by rw [q3 140 (by decide)]; exact hT.2.1) w (fun s hs => by rw [q3 142 (by decide)]; exact (sc2.2 s (by omega)).1), wkB_nI w c hc]
  unfold f_X10_together f_X11_together
  by_cases hj : j = -1
  · rw [if_pos hj, if_pos hj, e_isOutside, e_in0 i 1 40 ν 1 40 rfl rfl]
    simp only [Option.bind_some, b01, b10]
    by_cases hk : i < 1 ∨ ¬ i ≤ 40
    · simp only [hk, if_true, not_true, if_false]
      exact RO.rf h rfl
    · simp only [hk, if_false, not_false_eq_true, if_true]
      obtain ⟨n, hn1, hn, rfl⟩ := in1 (b := 40) (by decide) hk
      obtain ⟨m7, ν1, p1, p2, p3, q1, q4, q2, q3⟩ := both n hn
      have hT1 := hT.congr (ν' := ν1) (by rw [q3 140 (by decide)]) (q3 141 (by decide))
      have hj0 : ¬ 0 ≤ j := by rw [hj]; decide
      obtain ⟨a, ν2, r1, r2, r3⟩ := m_together (n := n) (mn := mn) (B := wkN w c) (IM := 2 ^ c - 1 - wkN w c) hn hmn it2 hbit it3 it4 hT1 (mSc_keep sc2 (q3 141 (by decide)) (fun k _ => by rw [q3 142 (by decide)])) hx h0 (fun k hk => by rw [q2 k hk, q3 142 (by decide)]) j (fun _ => -1) rfl (fun k m _ Z => by simp only [hj0, if_false, ite_self]) (fun _ _ => rfl)
      have hidle : (((1 : Int32) <<< ((ν1 140 1) &&& 31)) - (1 : Int32)) &&& ((nI (wkN w c)) ^^^ (-1 : Int32)) = nI (2 ^ c - 1 - wkN w c) := by rw [hT1.2.1, hp.1]; exact it1
      simp only [p1, q1, q4, Option.bind_some, if_pos hj, hidle, lt, r1, hj0, if_false]
      exact RO.keep2 h p2.1.symm p3 (fun b b1 b2 b3 => by rw [r2 b b1 b3, q3 b b2]) (fun k hk => by rw [r3 k hk, q3 142 (by decide)])
  · rw [if_neg hj, if_neg hj, e_isUnknown, h1, e_isSister c hc j ν hT.2.1]
    simp only [Option.bind_some, b01, b10, e_isOutside, e_in0 i 1 40 ν 1 40 rfl rfl]
    by_cases hk : j < 0 ∨ ¬ j < nI c
    · simp only [hk, if_true, not_true, if_false]
      exact RO.rf h rfl
    · simp only [hk, if_false, not_false_eq_true, if_true]
      obtain ⟨s, hs, rfl⟩ := known hc hk
      have hs5 : s < 5 := by omega
      by_cases hk2 : i < 1 ∨ ¬ i ≤ 40
      · simp only [hk2, if_true, not_true, if_false]
        exact RO.rf h rfl
      · simp only [hk2, if_false, not_false_eq_true, if_true]
        obtain ⟨n, hn1, hn, rfl⟩ := in1 (b := 40) (by decide) hk2
        obtain ⟨m7, ν1, p1, p2, p3, q1, q4, q2, q3⟩ := both n hn
        have hT1 := hT.congr (ν' := ν1) (by rw [q3 140 (by decide)]) (q3 141 (by decide))
        have hj0 : 0 ≤ nI s := nI_pos' (by omega)
        obtain ⟨a, ν2, r1, r2, r3⟩ := m_together (n := n) (mn := mn) (B := wkN w c) (IM := 2 ^ c - 1 - wkN w c) hn hmn it2 hbit it3 it4 hT1 (mSc_keep sc2 (q3 141 (by decide)) (fun k _ => by rw [q3 142 (by decide)])) hx h0 (fun k hk => by rw [q2 k hk, q3 142 (by decide)]) (nI s) (Wf (Vk (μ 1 4) x.2.2.1 x.2.1 c n (wkN w c) (cS μ) w (Fq (μ 1 6) (μ 1 7) mn)) (dg c (wkN w c) s)) rfl (fun k m hm Z => by
            simp only [hj0, if_true, if_pos (inb5 hs5 (by decide)), cl5 (show s < 1000 by omega)]
            by_cases hv : Vk (μ 1 4) x.2.2.1 x.2.1 c n (wkN w c) (cS μ) w (Fq (μ 1 6) (μ 1 7) mn) k ≤ Bf (Vk (μ 1 4) x.2.2.1 x.2.1 c n (wkN w c) (cS μ) w (Fq (μ 1 6) (μ 1 7) mn)) k
            · rw [if_pos hv]
            · rw [if_neg hv, Wf, if_neg hv, hm s hs]) (fun k hv => by rw [Wf, if_pos hv])
        have hidle : (((1 : Int32) <<< ((ν1 140 1) &&& 31)) - (1 : Int32)) &&& ((nI (wkN w c)) ^^^ (-1 : Int32)) = nI (2 ^ c - 1 - wkN w c) := by rw [hT1.2.1, hp.1]; exact it1
        simp only [p1, q1, q4, Option.bind_some, if_neg hj, hidle, lt, r1, hj0, if_true, if_pos (inb5 hs5 (by decide)), cl5 (show s < 1000 by omega)]
        exact RO.keep2 h (p2.2 (EE_pos c (wkN w c) 0) s hs).symm p3 (fun b b1 b2 b3 => by rw [r2 b b1 b3, q3 b b2]) (fun k hk => by rw [r3 k hk, q3 142 (by decide)])

/-! what the Statement gives of the start, by places; the constants' addresses out of it -/
def nF : List Cond := flatC (Jvm.Cond.and given_1 narrow_1)
def sIx : List Nat := [73, 79, 82, 85, 88, 91, 94, 97, 100, 103, 106, 109]
def sPl : List Nat := [211, 219, 229, 241, 252, 264, 278, 295, 310, 325, 342, 361]
def wPl : List Nat := [41, 46, 52, 59, 67, 76, 86, 97, 109, 122, 136, 151]
def wNm : List String := ["WELL", "PLAIN_SISTER", "RUNNER_SISTER", "LAZY_SISTER", "OPEN_SIEVE", "LINED_SIEVE", "DOUBLED_SIEVE", "TORN_SIEVE", "TUB", "HOLE", "FROST", "THAW"]
def tmS (i : Nat) : Term := .string "SieveTub$Word" (sIx.getD i 0)
def tmW (i : Nat) : Term := .static "SieveTub$Word" (wNm.getD i "") "LSieveTub$Word;"
def tmV : Term := .static "SieveTub$Word" "$VALUES" "[LSieveTub$Word;"
def tmA : Term := .static "SieveTub" "ABOVE_SISTER" "[I"
def tmB : Term := .static "SieveTub" "ABOVE_SIEVE" "[I"
theorem pS_ex : ∀ i : Nat, i < 12 → nF[sPl.getD i 0]? = some (Cond.exactly (tmS i) "java/lang/String") := by decide +kernel
theorem pS_co : ∀ i : Nat, i < 12 → nF[sPl.getD i 0 + 1]? = some (Cond.eq (.field (tmS i) "java/lang/String" "coder" "B") (.int 0)) := by decide +kernel
theorem pS_ar : ∀ i : Nat, i < 12 → nF[sPl.getD i 0 + 2]? = some (Cond.arrayOf (.field (tmS i) "java/lang/String" "value" "[B") .byte) := by decide +kernel
theorem pS_le : ∀ i : Nat, i < 12 → nF[sPl.getD i 0 + 3]? = some (Cond.eq (.length (.field (tmS i) "java/lang/String" "value" "[B")) (.int (Int32.ofNat (gLen.getD i 0)))) := by decide +kernel
theorem pS_el : ∀ i : Nat, i < 12 → ∀ j : Nat, j < gLen.getD i 0 → nF[sPl.getD i 0 + 4 + j]? = some (Cond.eq (.elem (.field (tmS i) "java/lang/String" "value" "[B") (.int (Int32.ofNat j))) (.int ((gByt.getD i []).getD j 0))) := by decide +kernel
theorem pS_ne : ∀ i : Nat, i < 12 → ∀ j : Nat, j < i → nF[sPl.getD i 0 + 4 + gLen.getD i 0 + j]? = some (Cond.not (Cond.eq (tmS j) (tmS i))) := by decide +kernel
theorem pW_ex : ∀ i : Nat, i < 12 → nF[wPl.getD i 0]? = some (Cond.exactly (tmW i) "SieveTub$Word") := by decide +kernel
theorem pW_le : ∀ i : Nat, i < 12 → nF[wPl.getD i 0 + 2]? = some (Cond.eq (.field (tmW i) "SieveTub$Word" "letters" "Ljava/lang/String;") (tmS i)) := by decide +kernel
theorem pW_de : ∀ i : Nat, i < 12 → nF[wPl.getD i 0 + 3]? = some (Cond.eq (.field (tmW i) "SieveTub$Word" "deed" "I") (.int (gDeed.getD i 0))) := by decide +kernel
theorem pW_ki : ∀ i : Nat, i < 12 → nF[wPl.getD i 0 + 4]? = some (Cond.eq (.field (tmW i) "SieveTub$Word" "kind" "I") (.int (gKind.getD i 0))) := by decide +kernel
theorem pV_ex : nF[5]? = some (Cond.exactly tmV "[LSieveTub$Word;") := by decide +kernel
theorem pV_ar : nF[6]? = some (Cond.arrayOf tmV (.object "SieveTub$Word")) := by decide +kernel
theorem pV_le : nF[7]? = some (Cond.eq (.length tmV) (.int (Int32.ofNat 12))) := by decide +kernel
theorem pV_al : nF[8]? = some (Cond.all tmV (.le (.index 0) (.int 11))) := by decide +kernel
theorem pV_el : ∀ i : Nat, i < 12 → nF[9 + i]? = some (Cond.eq (.elem tmV (.int (Int32.ofNat i))) (tmW i)) := by decide +kernel
theorem pZ_cs : nF[21]? = some (Cond.eq (.static "java/lang/String" "COMPACT_STRINGS" "Z") (.int 1)) := by decide +kernel
theorem pZ_fm : nF[22]? = some (Cond.isRef (.static "jdk/internal/util/Preconditions" "SIOOBE_FORMATTER" "Ljava/util/function/BiFunction;")) := by decide +kernel
theorem pA_ar : nF[27]? = some (Cond.arrayOf tmA .int) := by decide +kernel
theorem pA_le : nF[28]? = some (Cond.eq (.length tmA) (.int (Int32.ofNat 4))) := by decide +kernel
theorem pA_el : ∀ i : Nat, i < 4 → nF[29 + i]? = some (Cond.eq (.elem tmA (.int (Int32.ofNat i))) (.int (gAbS.getD i 0))) := by decide +kernel
theorem pB_ar : nF[34]? = some (Cond.arrayOf tmB .int) := by decide +kernel
theorem pB_le : nF[35]? = some (Cond.eq (.length tmB) (.int (Int32.ofNat 5))) := by decide +kernel
theorem pB_el : ∀ i : Nat, i < 5 → nF[36 + i]? = some (Cond.eq (.elem tmB (.int (Int32.ofNat i))) (.int (gAbV.getD i 0))) := by decide +kernel
theorem gN_of {s : State} {args : Array Value} (hts : ∀ w ∈ lw_tbl, w.before args s = true) : gN s :=
  ⟨⟨va_Nw.of rfl (hts _ (List.mem_of_getElem? (i := 85) (by decide +kernel))), va_Nw.of rfl (hts _ (List.mem_of_getElem? (i := 242) (by decide +kernel))), va_Nw.of rfl (hts _ (List.mem_of_getElem? (i := 330) (by decide +kernel))), va_Nw.of rfl (hts _ (List.mem_of_getElem? (i := 366) (by decide +kernel)))⟩,
    ⟨va_Nw.of rfl (hts _ (List.mem_of_getElem? (i := 564) (by decide +kernel))), va_Nw.of rfl (hts _ (List.mem_of_getElem? (i := 682) (by decide +kernel))), va_Nw.of rfl (hts _ (List.mem_of_getElem? (i := 727) (by decide +kernel))), va_Nw.of rfl (hts _ (List.mem_of_getElem? (i := 792) (by decide +kernel)))⟩,
    va_AO.of (hts (Cond.arrayOver (.object "SieveTub$Sister")) (List.mem_of_getElem? (i := 83) (by decide +kernel))), va_AO.of (hts (Cond.arrayOver (.object "SieveTub$Walker")) (List.mem_of_getElem? (i := 240) (by decide +kernel))), va_AO.of (hts (Cond.arrayOver (.object "SieveTub$Scene")) (List.mem_of_getElem? (i := 308) (by decide +kernel))), va_Nw.of rfl (hts _ (List.mem_of_getElem? (i := 203) (by decide +kernel))), hts (Cond.arrayOver (.array .int)) (List.mem_of_getElem? (i := 328) (by decide +kernel))⟩
theorem q_prim {args : Array Value} {s : State} {ty : FieldType} (hp : ty = .int ∨ ty = .boolean) (h : (Cond.arrayClass ty).before args s = true) : ∃ c : Nat, ArrOfT s c ty ∧ va_RA s c ty := by
  obtain ⟨c, k, comp, h1, h2, h3⟩ := Cond.arrayClass_spec h
  refine ⟨c, fun n z => ⟨fun k h => (by cases h), k, h2, comp, h3⟩, ?_⟩
  rcases hp with rfl | rfl <;> exact h1
theorem q_obj {args : Array Value} {s : State} {C : String} (h : (Cond.arrayOver (.object C)).before args s = true) : ∃ c : Nat, ArrOfT s c (.object C) ∧ va_RA s c (.object C) := by
  obtain ⟨comp, c, k, h1, h2, h3, h4, h5⟩ := Cond.arrayOver_spec h
  exact ⟨c, fun n z => ⟨fun k h => (by cases h), k, h3, comp, h4⟩, ⟨k, comp, h3, h4, h1, h5⟩⟩
theorem q_arr {args : Array Value} {s : State} (h : (Cond.arrayOver (.array .int)).before args s = true) : ∃ c : Nat, ArrOfT s c (.array .int) ∧ va_RA s c (.array .int) := by
  obtain ⟨comp, c, k, h1, h2, h3, h4, h5⟩ := arrayOverA_spec h
  exact ⟨c, fun n z => ⟨fun k h => (by cases h), k, h3, comp, h4⟩, h5⟩
theorem ch_of {α : Type} {P : Nat → α → Prop} (h : ∀ i, ∃ a, P i a) : ∃ f : Nat → α, ∀ i, P i (f i) := ⟨fun i => (h i).choose, fun i => (h i).choose_spec⟩
theorem known_all {s : State} {args : Array Value} (hts : ∀ w ∈ lw_tbl, w.before args s = true) : ∃ (cC : Nat → Nat) (iS : Nat → Nat → Nat), ∀ (k : Nat) (q : vw_C), vwCl[k]? = some q → u_Kn s q.1 q.2.1 q.2.2 (cC k) (iS k) := by
  have h0 : ∀ k : Nat, ∃ p : Nat × (Nat → Nat), ∀ q : vw_C, vwCl[k]? = some q → u_Kn s q.1 q.2.1 q.2.2 p.1 p.2 := by
    intro k
    match k with
    | 0 =>
      obtain ⟨c, i, h⟩ := u_known (C := RX0) (T := TX0) (N := 7) (n := 7) hts (fun w hw => lw_g_in w (gC0.2.1 w hw)) (hts _ (lw_g_in _ nK_X0.1))
      exact ⟨(c, i), fun q hq => by cases hq; exact h⟩
    | 1 =>
      obtain ⟨c, i, h⟩ := u_known (C := RX1) (T := TX1) (N := 10) (n := 10) hts (fun w hw => lw_g_in w (gC1.2.1 w hw)) (hts _ (lw_g_in _ nK_X1.1))
      exact ⟨(c, i), fun q hq => by cases hq; exact h⟩
    | 2 =>
      obtain ⟨c, i, h⟩ := u_known (C := RX2) (T := TX2) (N := 7) (n := 7) hts (fun w hw => lw_g_in w (gC2.2.1 w hw)) (hts _ (lw_g_in _ nK_X2.1))
      exact ⟨(c, i), fun q hq => by cases hq; exact h⟩
    | 3 =>
      obtain ⟨c, i, h⟩ := u_known (C := RX3) (T := TX3) (N := 5) (n := 5) hts (fun w hw => lw_g_in w (gC3.2.1 w hw)) (hts _ (lw_g_in _ nK_X3.1))
      exact ⟨(c, i), fun q hq => by cases hq; exact h⟩
    | 4 =>
      obtain ⟨c, i, h⟩ := u_known (C := RX4) (T := TX4) (N := 3) (n := 3) hts (fun w hw => lw_g_in w (gC4.2.1 w hw)) (hts _ (lw_g_in _ nK_X4.1))
      exact ⟨(c, i), fun q hq => by cases hq; exact h⟩
    | 5 =>
      obtain ⟨c, i, h⟩ := u_known (C := RX5) (T := TX5) (N := 6) (n := 6) hts (fun w hw => lw_g_in w (gC5.2.1 w hw)) (hts _ (lw_g_in _ nK_X5.1))
      exact ⟨(c, i), fun q hq => by cases hq; exact h⟩
    | 6 =>
      obtain ⟨c, i, h⟩ := u_known (C := RX6) (T := TX6) (N := 5) (n := 5) hts (fun w hw => lw_g_in w (gC6.2.1 w hw)) (hts _ (lw_g_in _ nK_X6.1))
      exact ⟨(c, i), fun q hq => by cases hq; exact h⟩
    | 7 =>
      obtain ⟨c, i, h⟩ := u_known (C := RX7) (T := TX7) (N := 8) (n := 8) hts (fun w hw => lw_g_in w (gC7.2.1 w hw)) (hts _ (lw_g_in _ nK_X7.1))
      exact ⟨(c, i), fun q hq => by cases hq; exact h⟩
    | 8 =>
      obtain ⟨c, i, h⟩ := u_known (C := RX8) (T := TX8) (N := 5) (n := 5) hts (fun w hw => lw_g_in w (gC8.2.1 w hw)) (hts _ (lw_g_in _ nK_X8.1))
      exact ⟨(c, i), fun q hq => by cases hq; exact h⟩
    | 9 =>
      obtain ⟨c, i, h⟩ := u_known (C := RX10) (T := TX10) (N := 12) (n := 12) hts (fun w hw => lw_g_in w (gC9.2.1 w hw)) (hts _ (lw_g_in _ nK_X10.1))
      exact ⟨(c, i), fun q hq => by cases hq; exact h⟩
    | 10 =>
      obtain ⟨c, i, h⟩ := u_known (C := RX11) (T := TX11) (N := 20) (n := 20) hts (fun w hw => lw_g_in w (gC10.2.1 w hw)) (hts _ (lw_g_in _ nK_X11.1))
      exact ⟨(c, i), fun q hq => by cases hq; exact h⟩
    | k + 11 => exact ⟨(0, fun _ => 0), fun q hq => by simp [vwCl] at hq⟩
  obtain ⟨f, hf⟩ := ch_of h0
  exact ⟨fun k => (f k).1, fun k => (f k).2, hf⟩
theorem eq_val {args : Array Value} {s : State} {t u : Term} {v : Value} (h : (Cond.eq t u).before args s = true) (hu : u.eval args s none [] s = some v) : t.eval args s none [] s = some v := va_eqI (by simpa [Cond.before, Cond.holds] using h) hu
theorem w_all {s : State} {args : Array Value} (hs : ∀ w ∈ nF, w.before args s = true) {A : Nat → Prop} (hA : ∀ a : Nat, a < s.heap.size → ¬ A a) : ∃ aK aV aW : Nat → Nat, vk_S 12 gLen gByt aK aV A s s.heap ∧ ∀ i : Nat, i < 12 → (tmW i).eval args s none [] s = some (.ref (aW i)) ∧ va_O "SieveTub$Word" (aW i) A s s.heap ∧ va_OF "SieveTub$Word" "letters" "Ljava/lang/String;" (.ref (aK i)) (aW i) A s s.heap ∧ va_OF "SieveTub$Word" "deed" "I" (.int (gDeed.getD i 0)) (aW i) A s s.heap ∧ va_OF "SieveTub$Word" "kind" "I" (.int (gKind.getD i 0)) (aW i) A s s.heap := by
  have hp : ∀ {w : Cond} {k : Nat}, nF[k]? = some w → w.before args s = true := fun h => hs _ (List.mem_of_getElem? h)
  have hlen : ∀ i : Nat, i < 12 → gLen.getD i 0 < 2 ^ 31 := fun i hi => Nat.lt_trans (gLen_lt i hi) (by decide)
  obtain ⟨aK, aV, hS, hT⟩ := vk_Sof (tm := tmS) (A := A) (len := gLen) (byt := gByt) (N := 12) hlen (fun i hi => hp (pS_ex i hi)) (fun i hi => hp (pS_co i hi)) (fun i hi => hp (pS_ar i hi)) (fun i hi => hp (pS_le i hi)) (fun i hi j hj => hp (pS_el i hi j hj)) (fun i j hi hj hne => by
    rcases Nat.lt_or_gt_of_ne hne with h | h
    · exact Or.inl (hp (pS_ne j hj i h))
    · exact Or.inr (hp (pS_ne i hi j h))) hA
  have h0 : ∀ i : Nat, ∃ a : Nat, i < 12 → (tmW i).eval args s none [] s = some (.ref a) := by
    intro i
    by_cases hi : i < 12
    · obtain ⟨a, c, cell, k, q1, -⟩ := Cond.exactly_spec (args := args) (first := s) (o := none) (s := s) (idx := []) (t := tmW i) (cls := "SieveTub$Word") (hp (pW_ex i hi))
      exact ⟨a, fun _ => q1⟩
    · exact ⟨0, fun h => absurd h hi⟩
  obtain ⟨aW, hW⟩ := ch_of h0
  exact ⟨aK, aV, aW, hS, fun i hi => ⟨hW i hi, va_Oof (hp (pW_ex i hi)) (hW i hi) hA, vk_OFof (hW i hi) (eq_val (hp (pW_le i hi)) (hT i hi)) hA, vk_OFof (hW i hi) (va_eqt (hp (pW_de i hi))) hA, vk_OFof (hW i hi) (va_eqt (hp (pW_ki i hi))) hA⟩⟩
/-- the row of the words: its cell, whole -/
theorem v_all {s : State} {args : Array Value} (hs : ∀ w ∈ nF, w.before args s = true) {aW : Nat → Nat} (hW : ∀ i : Nat, i < 12 → (tmW i).eval args s none [] s = some (.ref (aW i))) {c36 : Nat} (h36 : s.vm.findClass "[LSieveTub$Word;" = some c36) : ∃ (a : Nat) (cell : Cell), tmV.eval args s none [] s = some (.ref a) ∧ s.heap[a]? = some cell ∧ cell.vm ≠ .unknown ∧ (∀ k, cell.vm ≠ .statics k) ∧ cell.cls = c36 ∧ cell.slots = (vp_cell c36 (12, .inr (.inr (.inr (.inr (fun j => if j < 12 then some (aW j) else none)))))).slots := by
  have hp : ∀ {w : Cond} {k : Nat}, nF[k]? = some w → w.before args s = true := fun h => hs _ (List.mem_of_getElem? h)
  obtain ⟨a, c, cell, k, q1, q2, q3, q4, q5, q6, -⟩ := Cond.exactly_spec (args := args) (first := s) (o := none) (s := s) (idx := []) (t := tmV) (cls := "[LSieveTub$Word;") (hp pV_ex)
  cases h36.symm.trans q2
  obtain ⟨g1, g2⟩ := Cond.arrayOf_spec (hp pV_ar) q1 q3
  obtain ⟨a', cell', e1, e2, e3⟩ := Term.length_spec (va_eqt (hp pV_le))
  cases q1.symm.trans e1
  obtain ⟨r1, -, -, -⟩ := State.arrayAt?_spec e2
  cases q3.symm.trans r1
  have hel : ∀ j : Nat, j < 12 → cell.slots[j]? = some (.ref (aW j)) := by
    intro j hj
    obtain ⟨a3, i, cell3, f1, f2, f3, f4, f5⟩ := Term.elem_spec (eq_val (hp (pV_el j hj)) (hW j hj))
    cases q1.symm.trans f1
    cases e2.symm.trans f3
    have hi : i = Int32.ofNat j := by
      have e : (Term.int (Int32.ofNat j)).eval args s none [] s = some (.int (Int32.ofNat j)) := rfl
      cases f2.symm.trans e
      rfl
    have hc : i.toNatClampNeg = j := by rw [hi]; exact Int32.toNatClampNeg_ofNat_of_lt (by omega)
    rw [hc] at f5
    exact f5
  have hge : 12 ≤ cell.slots.size := (Array.getElem?_eq_some_iff.mp (hel 11 (by omega))).1
  have hle : cell.slots.size ≤ 12 := by
    apply Nat.not_lt.mp
    intro hlt
    have hall := Cond.all_elim (args := args) (first := s) (o := none) (idx := []) q1 e2 (by simpa [Cond.before, Cond.holds] using hp pV_al) 12 hlt
    have hv := Cond.le_ints (args := args) (first := s) (s := s) (o := none) (idx := [12]) (a := .index 0) (b := .int 11) (x := 12) (y := 11) rfl rfl
    rw [hv] at hall
    exact absurd hall (by decide)
  refine ⟨a, cell, q1, q3, g2, g1.1, q6, ?_⟩
  apply Array.ext_getElem?
  intro j
  have e9 : (vp_cell c36 (12, .inr (.inr (.inr (.inr (fun j => if j < 12 then some (aW j) else none)))))).slots[j]? = (arrV c36 12 (fun j => va_rf (if j < 12 then some (aW j) else none))).slots[j]? := rfl
  rw [e9]
  by_cases hj : j < 12
  · rw [hel j hj, arrV_read _ _ hj, if_pos hj]
    rfl
  · rw [Array.getElem?_eq_none (by omega), Array.getElem?_eq_none (by rw [arrV_size]; omega)]
def mkK (sz : Nat) (cC tC aW : Nat → Nat) (a60 a61 a62 f63 a64 b L : Nat) (aK aV : Nat → Nat) (iS : Nat → Nat → Nat) (xs : Nat → Nat) : Nat → Nat := fun n =>
  if n = 0 then sz else if n < 30 then cC (n - 10) else if n < 40 then tC (n - 30) else if n < 60 then aW (n - 40) else if n < 61 then a60 else if n < 62 then a61 else if n < 63 then a62 else if n < 64 then f63 else if n < 65 then a64 else if n < 66 then b else if n < 67 then L else if n < 90 then aK (n - 70) else if n < 1000 then aV (n - 90) else if n < 5000 then iS ((n - 1000) / 32) ((n - 1000) % 32) else xs (n - 5000)
theorem mkK_ex (sz : Nat) (cC tC aW : Nat → Nat) (a60 a61 a62 f63 a64 b L : Nat) (aK aV : Nat → Nat) (iS : Nat → Nat → Nat) (xs : Nat → Nat) : ∃ κ : Nat → Nat, κ 0 = sz ∧ (∀ k, k < 20 → κ (10 + k) = cC k) ∧ (∀ k, k < 10 → κ (30 + k) = tC k) ∧ (∀ i, i < 12 → κ (40 + i) = aW i) ∧ (κ 60 = a60 ∧ κ 61 = a61 ∧ κ 62 = a62 ∧ κ 63 = f63 ∧ κ 64 = a64 ∧ κ 65 = b ∧ κ 66 = L) ∧ (∀ i, i < 12 → κ (70 + i) = aK i) ∧ (∀ i, i < 12 → κ (90 + i) = aV i) ∧ (∀ k j, k < 11 → j < 32 → κ (1000 + 32 * k + j) = iS k j) ∧ ∀ j, κ (5000 + j) = xs j := by
  refine ⟨mkK sz cC tC aW a60 a61 a62 f63 a64 b L aK aV iS xs, rfl, fun k hk => ?_, fun k hk => ?_, fun i hi => ?_, ⟨rfl, rfl, rfl, rfl, rfl, rfl, rfl⟩, fun i hi => ?_, fun i hi => ?_, fun k j hk hj => ?_, fun j => ?_⟩
  · unfold mkK
    rw [if_neg (by omega), if_pos (by omega), show 10 + k - 10 = k by omega]
  · unfold mkK
    rw [if_neg (by omega), if_neg (by omega), if_pos (by omega), show 30 + k - 30 = k by omega]
  · unfold mkK
    rw [if_neg (by omega), if_neg (by omega), if_neg (by omega), if_pos (by omega), show 40 + i - 40 = i by omega]
  · unfold mkK
    rw [if_neg (by omega), if_neg (by omega), if_neg (by omega), if_neg (by omega), if_neg (by omega), if_neg (by omega), if_neg (by omega), if_neg (by omega), if_neg (by omega), if_neg (by omega), if_neg (by omega), if_pos (by omega), show 70 + i - 70 = i by omega]
  · unfold mkK
    rw [if_neg (by omega), if_neg (by omega), if_neg (by omega), if_neg (by omega), if_neg (by omega), if_neg (by omega), if_neg (by omega), if_neg (by omega), if_neg (by omega), if_neg (by omega), if_neg (by omega), if_neg (by omega), if_pos (by omega), show 90 + i - 90 = i by omega]
  · unfold mkK
    rw [if_neg (by omega), if_neg (by omega), if_neg (by omega), if_neg (by omega), if_neg (by omega), if_neg (by omega), if_neg (by omega), if_neg (by omega), if_neg (by omega), if_neg (by omega), if_neg (by omega), if_neg (by omega), if_neg (by omega), if_pos (by omega), show (1000 + 32 * k + j - 1000) / 32 = k by omega, show (1000 + 32 * k + j - 1000) % 32 = j by omega]
  · unfold mkK
    rw [if_neg (by omega), if_neg (by omega), if_neg (by omega), if_neg (by omega), if_neg (by omega), if_neg (by omega), if_neg (by omega), if_neg (by omega), if_neg (by omega), if_neg (by omega), if_neg (by omega), if_neg (by omega), if_neg (by omega), if_neg (by omega), show 5000 + j - 5000 = j by omega]

theorem nf_20 : ∀ q ∈ vwCl, q.2.2 ≤ 20 := by
  intro q hq
  simp only [vwCl, List.mem_cons, List.not_mem_nil, or_false] at hq
  rcases hq with rfl | rfl | rfl | rfl | rfl | rfl | rfl | rfl | rfl | rfl | rfl <;> decide
set_option maxRecDepth 100000 in
set_option maxHeartbeats 2000000 in
theorem prem {s : State} {args : Array Value} {b L : Nat} {xs : Nat → Int32} (hts : ∀ w ∈ lw_tbl, w.before args s = true) (hg : (Jvm.Cond.and given_1 narrow_1).before args s = true) (hX : va_X b L xs s s.heap) (hb : b < s.heap.size) : ∃ κ : Nat → Nat, κ 0 = s.heap.size ∧ κ 65 = b ∧ κ 66 = L ∧ va_K (gD κ) vwCl (gTy κ) s ∧ gT κ s s.heap := by
  have hs : ∀ w ∈ nF, w.before args s = true := flat_of_before _ hg
  have hp : ∀ {w : Cond} {k : Nat}, nF[k]? = some w → w.before args s = true := fun h => hs _ (List.mem_of_getElem? h)
  have hA : ∀ a : Nat, a < s.heap.size → ¬ (fun q : Nat => s.heap.size ≤ q) a := fun a h z => absurd (show s.heap.size ≤ a from z) (by omega)
  obtain ⟨cC, iS, hC⟩ := known_all hts
  obtain ⟨c30, t30⟩ := q_prim (Or.inl rfl) (hts (Cond.arrayClass .int) (lw_g_in _ aK_int))
  obtain ⟨c31, t31⟩ := q_prim (Or.inr rfl) (hts (Cond.arrayClass .boolean) (lw_g_in _ aK_bool))
  obtain ⟨c32, t32⟩ := q_obj (C := "SieveTub$Scene") (hts _ (List.mem_of_getElem? (i := 308) (by decide +kernel)))
  obtain ⟨c33, t33⟩ := q_obj (C := "SieveTub$Sister") (hts _ (List.mem_of_getElem? (i := 83) (by decide +kernel)))
  obtain ⟨c34, t34⟩ := q_obj (C := "SieveTub$Walker") (hts _ (List.mem_of_getElem? (i := 240) (by decide +kernel)))
  obtain ⟨c35, t35⟩ := q_arr (hts _ (List.mem_of_getElem? (i := 328) (by decide +kernel)))
  obtain ⟨c36, t36⟩ := q_obj (C := "SieveTub$Word") (hts _ (List.mem_of_getElem? (i := 204) (by decide +kernel)))
  obtain ⟨aK, aV, aW, hSt, hWd⟩ := w_all hs (A := fun q : Nat => s.heap.size ≤ q) hA
  have h36 : s.vm.findClass "[LSieveTub$Word;" = some c36 := by
    obtain ⟨kA, comp, -, -, -, h4⟩ := t36.2
    have e36 : "[" ++ (FieldType.object "SieveTub$Word").toString = "[LSieveTub$Word;" := by decide +kernel
    rw [← e36]
    exact h4
  obtain ⟨a62, cell, v1, v2, v3, v4, v5, v6⟩ := v_all hs (fun i hi => (hWd i hi).1) h36
  obtain ⟨a60, x60, y60⟩ := va_Tof (tm := tmA) (ty := .int) (N := 4) (f := fun j => .int (gAbS.getD j 0)) (A := fun q : Nat => s.heap.size ≤ q) (by decide) (hp pA_ar) (va_eqt (hp pA_le)) (fun j hj => va_eqt (hp (pA_el j hj))) hA
  obtain ⟨a61, x61, y61⟩ := va_Tof (tm := tmB) (ty := .int) (N := 5) (f := fun j => .int (gAbV.getD j 0)) (A := fun q : Nat => s.heap.size ≤ q) (by decide) (hp pB_ar) (va_eqt (hp pB_le)) (fun j hj => va_eqt (hp (pB_el j hj))) hA
  have z60 : va_Z "SieveTub" "ABOVE_SISTER" "[I" (.ref a60) (fun q : Nat => s.heap.size ≤ q) s s.heap := va_Zref (hts _ (List.mem_of_getElem? (i := 594) (by decide +kernel))) (hts _ (List.mem_of_getElem? (i := 48) (by decide +kernel))) x60 hA
  have z61 : va_Z "SieveTub" "ABOVE_SIEVE" "[I" (.ref a61) (fun q : Nat => s.heap.size ≤ q) s s.heap := va_Zref (hts _ (List.mem_of_getElem? (i := 610) (by decide +kernel))) (hts _ (List.mem_of_getElem? (i := 48) (by decide +kernel))) x61 hA
  have z62 : va_Z "SieveTub$Word" "$VALUES" "[LSieveTub$Word;" (.ref a62) (fun q : Nat => s.heap.size ≤ q) s s.heap := va_Zref (hts _ (List.mem_of_getElem? (i := 197) (by decide +kernel))) (hts _ (List.mem_of_getElem? (i := 54) (by decide +kernel))) v1 hA
  have hcs : va_Z "java/lang/String" "COMPACT_STRINGS" "Z" (.int 1) (fun q : Nat => s.heap.size ≤ q) s s.heap := va_Zof (hts _ (List.mem_of_getElem? (i := 505) (by decide +kernel))) (hts _ (List.mem_of_getElem? (i := 61) (by decide +kernel))) (va_eqi (hp pZ_cs)) hA
  obtain ⟨f63, a64, hfm⟩ : ∃ f63 a64 : Nat, va_Z "jdk/internal/util/Preconditions" "SIOOBE_FORMATTER" "Ljava/util/function/BiFunction;" (if f63 = 0 then .null else .ref a64) (fun q : Nat => s.heap.size ≤ q) s s.heap := by
    rcases va_Zqof (A := fun q : Nat => s.heap.size ≤ q) (hts _ (List.mem_of_getElem? (i := 521) (by decide +kernel))) (hts _ (List.mem_of_getElem? (i := 63) (by decide +kernel))) (hp pZ_fm) hA with h | ⟨t, h⟩
    · exact ⟨0, 0, h⟩
    · exact ⟨1, t, h⟩
  obtain ⟨κ, k0, kC, kT, kW, ⟨k60, k61, k62, k63, k64, k65, k66⟩, kK, kV, kI, kX⟩ := mkK_ex s.heap.size cC (fun k => [c30, c31, c32, c33, c34, c35, c36].getD k 0) aW a60 a61 a62 f63 a64 b L aK aV iS (fun j => (xs j).toBitVec.toNat)
  have e30 : κ 30 = c30 := kT 0 (by omega)
  have e31 : κ 31 = c31 := kT 1 (by omega)
  have e32 : κ 32 = c32 := kT 2 (by omega)
  have e33 : κ 33 = c33 := kT 3 (by omega)
  have e34 : κ 34 = c34 := kT 4 (by omega)
  have e35 : κ 35 = c35 := kT 5 (by omega)
  have e36 : κ 36 = c36 := kT 6 (by omega)
  have eA : gA κ = fun q : Nat => s.heap.size ≤ q := by
    funext q
    unfold gA
    rw [k0]
  refine ⟨κ, k0, k65, k66, ⟨fun c q hq => ?_, fun k q hq => ?_⟩, ?_⟩
  · have hc : c < 11 := (List.getElem?_eq_some_iff.mp hq).1
    have hn := nf_20 q (List.mem_of_getElem? hq)
    have h := hC c q hq
    refine ⟨fun k hk => ?_, ?_⟩
    · show SlotIs s _ _ _ (κ (1000 + 32 * c + k))
      rw [kI c k hc (by omega)]
      exact h.1 k hk
    · show ClassAt s _ (κ (10 + c))
      rw [kC c (by omega)]
      exact h.2
  · unfold gTy at hq
    rw [e30, e31, e32, e33, e34, e35, e36] at hq
    match k, hq with
    | 0, hq => cases hq; exact t30
    | 1, hq => cases hq; exact t31
    | 2, hq => cases hq; exact t32
    | 3, hq => cases hq; exact t33
    | 4, hq => cases hq; exact t34
    | 5, hq => cases hq; exact t35
    | 6, hq => cases hq; exact t36
    | k + 7, hq => simp at hq
  · have ef : (fun j => if j < 12 then some (κ (40 + j)) else none) = (fun j => if j < 12 then some (aW j) else none) := by
      funext j
      by_cases hj : j < 12
      · rw [if_pos hj, if_pos hj, kW j hj]
      · rw [if_neg hj, if_neg hj]
    unfold gT
    rw [eA, k60, k61, k62, k65, k66, e36, ef]
    refine ⟨⟨z60, y60⟩, ⟨z61, y61⟩, ⟨z62, ⟨cell, v2, v3, v4, v5, v6⟩, hA a62 (Array.getElem?_eq_some_iff.mp v2).1⟩, fun i hi => ?_, ⟨fun i hi => ?_, fun i j hi hj e => ?_⟩, hcs, ?_, ?_⟩
    · rw [kW i hi, kK i hi]
      exact (hWd i hi).2
    · show va_O "java/lang/String" (κ (70 + i)) _ s s.heap ∧ va_OF "java/lang/String" "coder" "B" (.int 0) (κ (70 + i)) _ s s.heap ∧ va_OF "java/lang/String" "value" "[B" (.ref (κ (90 + i))) (κ (70 + i)) _ s s.heap ∧ va_T .byte (κ (90 + i)) _ _ _ s s.heap
      rw [kK i hi, kV i hi]
      exact hSt.1 i hi
    · exact hSt.2 i j hi hj (by rw [← kK i hi, ← kK j hj]; exact e)
    · unfold gFm
      rw [k63, k64]
      exact hfm
    · obtain ⟨scr, g1, g2, g3, g4, g5⟩ := hX
      refine ⟨scr, g1, g2, g3, by omega, by rw [g4], fun j hj => ?_, hA b hb⟩
      show scr.slots[j]? = some (.int (Int32.ofNat (κ (5000 + j))))
      rw [kX j, i32_of]
      exact g5 j hj

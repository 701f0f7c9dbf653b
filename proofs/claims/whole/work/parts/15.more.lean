section GM
variable {κ : Nat → Nat} {d : Nat} {mi : gMI} {pc : Nat} {lv : List (Nat × Value)} {st : List Value} {n : Nat} {w : gWd} {cr sr : Nat} {Q Q' : gQ} {a idx : Nat} {y : MethodName} {mi' : gMI} {d' mc' ms' : Nat} {As : List Value}
set_option maxHeartbeats 1000000 in
/-- a call on a constant object -/
theorem g_callVT {b : Nat} (hM : CT κ d' y mi' (.ref b :: As) n w mc' ms' Q') (hd : decode mi.2.1 pc = .ok (.invokevirtual idx, 3)) (hY : gYV y mi') (hlk : Cond.methodLink mi.1 idx y ∈ lw_g) (hrc : ∀ U H, gT κ U H → ∃ cell : Cell, H[b]? = some cell ∧ cell.vm.isStatics = false ∧ U.vm.findClass y.cls = some cell.cls) (hdd : d' + 1 ≤ d)
    (hlen : (parseMethodDescriptor y.desc).map (fun d => d.parameters.length) = some As.length) (hst : (st.map fun v => v.category).sum ≤ 8) (hcr : mc' ≤ cr) (hsr : ms' ≤ sr)
    (k : ∀ v n' w', Q' v n' w' → G κ d mi (pc + 3) lv (v.toList ++ st) n' w' (cr - mc') (sr - ms') Q) : G κ d mi pc lv (As.reverse ++ .ref b :: st) n w cr sr Q := by
  intro p l e R s m args below meth c H locs cells slots mc ms Z ls hX hl hw hS h1 h2 h3 h4 hE
  obtain ⟨hx, hbc, hml, hown, hts, hK, hT, hN, h0, ⟨hf, hlo⟩, -⟩ := id hX
  obtain ⟨⟨y1, y2, y3, y4⟩, hy, hm80⟩ := hY
  have hE1 : va_Run p l e R s m args below meth c H locs cells slots mc' ms' (F0 m pc ls (As.reverse ++ .ref b :: st)) st (gQc κ Q' (Value.ref b :: As).toArray) (gA κ) := by
    refine va_runV (C := y.cls) (bytes := mi'.2.1) (maxL := mi'.2.2.1) (ret := mi'.2.2.2.2) (n := As.length) (As := As) (rest := st) ⟨hx, hbc, hml, hown, hts⟩ (hM l) (cwV As.length hts (gGood _ ?_) rfl rfl rfl ⟨rfl, hy.1, hy.2, hlen⟩ ⟨by show d' + 1 ≤ R.frames; omega, by show 8 + (mi'.2.2.1 + 11) + 100 * d' ≤ R.locals; omega⟩) ⟨gPc_blind, hrc s H (hT.kept hS.2.1), gPre hK hT hN hw hS⟩ rfl rfl hl.1 rfl (lv_room hst) hd ⟨by omega, by omega⟩
    intro w hw
    simp only [wsV, List.mem_append, List.mem_cons, List.not_mem_nil, or_false, gWs] at hw
    rcases hw with (rfl | rfl | rfl | rfl) | rfl | hw
    · exact hlk
    · exact y1
    · exact y2
    · exact y3
    · exact y4
    · exact hw
  exact gRun hX hl hS h1 h2 h3 h4 hE hcr hsr hE1 k
set_option maxHeartbeats 1000000 in
/-- arraycopy of int rows, one to another -/
theorem g_copyi {a0 N0 N1 : Nat} {f g : Nat → Int32} {sp dp x : Int32} (hd : decode mi.2.1 pc = .ok (.invokestatic idx, 3)) (hlk : Cond.methodLink mi.1 idx arraycopyName ∈ lw_g) (hs : Cond.native arraycopyName ∈ lw_g ∧ Cond.static arraycopyName ∈ lw_g ∧ Cond.initialized "java/lang/System" ∈ lw_g) (ha0 : a0 < n) (ha : a < n) (hne : a0 ≠ a) (hw0 : w a0 = .inl (κ 30, N0, .inl f)) (hwa : w a = .inl (κ 30, N1, .inl g))
    (g1 : ¬ sp < 0) (g2 : ¬ dp < 0) (g3 : ¬ x < 0) (g4 : sp.toNatClampNeg + x.toNatClampNeg ≤ N0) (g5 : dp.toNatClampNeg + x.toNatClampNeg ≤ N1) (hdd : 1 ≤ d) (hst : (st.map fun v => v.category).sum ≤ 8)
    (k : G κ d mi (pc + 3) lv st n (va_up w a (.inl (κ 30, N1, .inl (va_cpy f g sp.toNatClampNeg dp.toNatClampNeg x.toNatClampNeg)))) cr sr Q) : G κ d mi pc lv (.int x :: .int dp :: .ref (κ 0 + a) :: .int sp :: .ref (κ 0 + a0) :: st) n w cr sr Q := by
  intro p l e R s m args below meth c H locs cells slots mc ms Z ls hX hl hw hS h1 h2 h3 h4 hE
  obtain ⟨hx, hbc, hml, hown, hts, hK, hT, hN, h0, ⟨hf, hlo⟩, -⟩ := id hX
  have hnat : nativeFrameWords "java/lang/System" "arraycopy" 5 + 11 ≤ 90 := by decide
  intro T hTT X
  have hwa' : (gL κ n w)[a]? = some (κ 0 + a, .inl (κ 30, N1, .inl g)) := by rw [gL_at ha, hwa]
  have hw0' : (gL κ n w)[a0]? = some (κ 0 + a0, .inl (κ 30, N0, .inl f)) := by rw [gL_at ha0, hw0]
  have hc0 : H[κ 0 + a0]? = some (vp_cell (κ 30) (N0, .inl f)) := hw.1 a0 _ hw0'
  have hc1 : H[κ 0 + a]? = some (vp_cell (κ 30) (N1, .inl g)) := hw.1 a _ hwa'
  have nn : ∀ z : Int32, ¬ z < 0 → z.toInt = (z.toNatClampNeg : Int) := by
    intro z hz
    have hz0 : (0 : Int) ≤ z.toInt := by
      have := Int32.not_lt.mp hz
      simpa using Int32.le_iff_toInt_le.mp this
    show z.toInt = ((z.toInt.toNat : Nat) : Int)
    omega
  obtain ⟨-, k0, hk0, cm0, hkk0⟩ := (hK.2 0 _ rfl).1 N0 (fun j => .int (f j))
  obtain ⟨-, k1, hk1, cm1, hkk1⟩ := (hK.2 0 _ rfl).1 N1 (fun j => .int (g j))
  obtain ⟨vm', X', step⟩ := X.arraycopy hx hown (hts _ hlk) (hts _ hs.1) (hts _ hs.2.1) (hts _ hs.2.2) (src := κ 0 + a0) (dst := κ 0 + a) (cs := vp_cell (κ 30) (N0, .inl f)) (cd := vp_cell (κ 30) (N1, .inl g)) (srcPos := sp) (destPos := dp) (n := x) (by rw [hTT]; exact hc0) (by rw [hTT]; exact hc1)
    (fun _ h => by cases h) (fun _ h => by cases h) (fun h => by cases h) (fun h => by cases h) hk0 hk1 hkk0 hkk1 (by simp [refKind]) g1 g2 g3
    (by rw [nn sp g1, nn x g3]; show ¬ _ > ((arrV (κ 30) N0 (fun j => .int (f j))).slots.size : Int); rw [arrV_size]; omega)
    (by rw [nn dp g2, nn x g3]; show ¬ _ > ((arrV (κ 30) N1 (fun j => .int (g j))).slots.size : Int); rw [arrV_size]; omega)
    (fun vm₁ _ i hi => by
      have ee : (vp_cell (κ 30) (N0, .inl f)).slots.getD (sp.toNatClampNeg + i) .null = .int (f (sp.toNatClampNeg + i)) := by
        show (arrV (κ 30) N0 (fun j => .int (f j))).slots.getD _ _ = _
        rw [Array.getD_eq_getD_getElem?, arrV_read _ _ (by omega)]
        rfl
      refine ⟨?_, ?_⟩
      · rw [ee]
        rfl
      · rw [ee]
        exact trivial)
    (g := F0 m pc ls (.int x :: .int dp :: .ref (κ 0 + a) :: .int sp :: .ref (κ 0 + a0) :: st)) rfl (by rw [hml]; exact hl.1) (rest := st) rfl (by rw [hbc]; exact hd) (by omega) (by show 2 * 0 + _ + _ ≤ _; omega)
  have e1 : copied (vp_cell (κ 30) (N0, .inl f)) (vp_cell (κ 30) (N1, .inl g)) sp dp x = vp_cell (κ 30) (N1, .inl (va_cpy f g sp.toNatClampNeg dp.toNatClampNeg x.toNatClampNeg)) := va_copied (fun z => .int z) (κ 30) (κ 30) f g g4
  rw [e1] at X' step
  have hlt : κ 0 + a < H.size := (Array.getElem?_eq_some_iff.mp hc1).1
  have hheap : ((T.setVm vm').setCell (κ 0 + a) (vp_cell (κ 30) (N1, .inl (va_cpy f g sp.toNatClampNeg dp.toNatClampNeg x.toNatClampNeg)))).heap = H.setIfInBounds (κ 0 + a) (vp_cell (κ 30) (N1, .inl (va_cpy f g sp.toNatClampNeg dp.toNatClampNeg x.toNatClampNeg))) := by rw [← hTT]; rfl
  have oq : ∀ q : Nat, q ≠ κ 0 + a → (H.setIfInBounds (κ 0 + a) (vp_cell (κ 30) (N1, .inl (va_cpy f g sp.toNatClampNeg dp.toNatClampNeg x.toNatClampNeg))))[q]? = H[q]? := fun q hq => by simp [Array.getElem?_setIfInBounds, Ne.symm hq]
  have hS' : ∀ L : List Loc, (∀ q ∈ L, q.base = κ 0 + a) → va_S (gA κ) s.heap (H.setIfInBounds (κ 0 + a) (vp_cell (κ 30) (N1, .inl (va_cpy f g sp.toNatClampNeg dp.toNatClampNeg x.toNatClampNeg)))) (locs ++ L) := fun L hL => ⟨by simp; exact hS.1, fun q g1 g2 => by
      rw [oq q (fun e => g2 (by show κ 0 ≤ q; omega))]
      exact hS.2.1 q g1 g2, fun q hq => by
      rcases List.mem_append.mp hq with h | h
      · exact hS.2.2 q h
      · rw [hL q h]
        show κ 0 ≤ κ 0 + a
        omega⟩
  obtain ⟨t, a1, b1⟩ := k p l e R s m args below meth c _ _ cells slots mc ms Z ls hX hl (gW_set ha hw (by simp) (hw.1.set gL_D hwa' (show (H.setIfInBounds (κ 0 + a) _)[κ 0 + a]? = some _ by simp [Array.getElem?_setIfInBounds, hlt]) oq)) (hS' _ (fun q hq => by
      obtain ⟨z, -, hz⟩ := List.mem_map.mp hq
      rw [← hz])) h1 h2 h3 h4 hE _ hheap X'
  exact ⟨t, step t a1, b1⟩
end GM

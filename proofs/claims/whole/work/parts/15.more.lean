theorem gW_intro {κ : Nat → Nat} {n : Nat} {w : gWd} {H : Heap} (hz : H.size = κ 0 + n) (h : ∀ a, a < n → va_at (gD κ) vwCl (κ 0 + a, w a) H) : gW κ n w H := by
  refine ⟨fun k q hk => ?_, hz⟩
  have hlt : k < n := by
    have := (List.getElem?_eq_some_iff.mp hk).1
    simpa [gL] using this
  rw [gL_at hlt] at hk
  cases hk
  exact h k hlt
theorem gW_at {κ : Nat → Nat} {n a : Nat} {w : gWd} {H : Heap} (hw : gW κ n w H) (ha : a < n) : va_at (gD κ) vwCl (κ 0 + a, w a) H := hw.1 a _ (gL_at ha)
theorem g_outer (c : ClassId) (N h0 : Nat) : ∀ i : Nat, Jvm.Free.Multi.outerC c N h0 i = arrV c N (fun j => va_rf (if j < i then some (h0 + 1 + j) else none))
  | 0 => by
    show ({ cls := c, slots := Array.replicate N .null, vm := .none } : Cell) = _
    rw [arrV_new]
    refine congrArg (arrV c N) (funext fun j => ?_)
    simp [va_rf]
  | i + 1 => by
    show (Jvm.Free.Multi.outerC c N h0 i).setSlot i (.ref (h0 + 1 + i)) = _
    rw [g_outer c N h0 i, arrV_store]
    refine congrArg (arrV c N) (funext fun j => ?_)
    by_cases e : j = i
    · subst e
      simp [updV, va_rf]
    · by_cases h : j < i
      · simp [updV, e, h, Nat.lt_succ_of_lt h]
      · simp [updV, e, h, show ¬ j < i + 1 by omega]
section GM
variable {κ : Nat → Nat} {d : Nat} {mi : gMI} {pc : Nat} {lv : List (Nat × Value)} {st : List Value} {n : Nat} {w : gWd} {cr sr : Nat} {Q Q' : gQ} {a idx : Nat} {y : MethodName} {mi' : gMI} {d' mc' ms' : Nat} {As : List Value}
set_option maxHeartbeats 1000000 in
/-- a call on a constant object -/
theorem g_callVT {b : Nat} (hM : CT κ d' y mi' (.ref b :: As) n w mc' ms' Q') (hd : decode mi.2.1 pc = .ok (.invokevirtual idx, 3)) (hY : gYV y mi') (hlk : Cond.methodLink mi.1 idx y ∈ lw_g) (hrc : ∀ U H, gT κ U H → ∃ cell : Cell, H[b]? = some cell ∧ cell.vm.isStatics = false ∧ U.vm.findClass y.cls = some cell.cls) (hdd : d' + 1 ≤ d)
    (hlen : (parseMethodDescriptor y.desc).map (fun d => d.parameters.length) = some As.length) (hst : (st.map fun v => v.category).sum ≤ 8) (hcr : mc' ≤ cr) (hsr : ms' ≤ sr)
    (k : ∀ v n' w', Q' v n' w' → G κ d mi (pc + 3) lv (v.toList ++ st) n' w' (cr - mc') (sr - ms') Q) : G κ d mi pc lv (As.reverse ++ .ref b :: st) n w cr sr Q := by
  intro p l e R s m args below meth c H locs cells slots mc ms Z ls hX hl hw hS h1 h2 h3 h4 hE
  obtain ⟨hx, hbc, hml, hown, hts, hK, hT, hN, h0, ⟨hf, hlo⟩, -⟩ := id hX
  obtain ⟨⟨y1, y2, y3, y4⟩, hy, hm80⟩ := hY
  have hE1 : va_Run p l e R s m args below meth c H locs cells slots mc' ms' (F0 m pc ls (As.reverse ++ .ref b :: st)) st (gQc κ Q' (Value.ref b :: As).toArray) (gA κ) := by
    refine va_runV (C := y.cls) (bytes := mi'.2.1) (maxL := mi'.2.2.1) (ret := mi'.2.2.2.2) (n := As.length) (As := As) (rest := st) ⟨hx, hbc, hml, hown, hts⟩ (hM l) (cwV As.length hts (gGood _ ?_) rfl rfl rfl ⟨rfl, hy.1, hy.2, hlen⟩ ⟨by show d' + 1 ≤ R.frames; omega, by show 8 + (mi'.2.2.1 + 11) + 100 * d' ≤ R.locals; omega⟩) ⟨gPc_blind, hrc s H (hT.kept hS.2.1), gPre hK hT hN hw hS⟩ rfl rfl hl.1 rfl (lv_room hst) hd ⟨by omega, by omega⟩
    intro w hw
    simp only [wsV, List.mem_append, List.mem_cons, List.not_mem_nil, or_false, gWs] at hw
    rcases hw with (rfl | rfl | rfl | rfl) | rfl | hw
    · exact hlk
    · exact y1
    · exact y2
    · exact y3
    · exact y4
    · exact hw
  exact gRun hX hl hS h1 h2 h3 h4 hE hcr hsr hE1 k
set_option maxHeartbeats 1000000 in
/-- arraycopy of int rows, one to another -/
theorem g_copyi {a0 N0 N1 : Nat} {f g : Nat → Int32} {sp dp x : Int32} (hd : decode mi.2.1 pc = .ok (.invokestatic idx, 3)) (hlk : Cond.methodLink mi.1 idx arraycopyName ∈ lw_g) (hs : Cond.native arraycopyName ∈ lw_g ∧ Cond.static arraycopyName ∈ lw_g ∧ Cond.initialized "java/lang/System" ∈ lw_g) (ha0 : a0 < n) (ha : a < n) (hne : a0 ≠ a) (hw0 : w a0 = .inl (κ 30, N0, .inl f)) (hwa : w a = .inl (κ 30, N1, .inl g))
    (g1 : ¬ sp < 0) (g2 : ¬ dp < 0) (g3 : ¬ x < 0) (g4 : sp.toNatClampNeg + x.toNatClampNeg ≤ N0) (g5 : dp.toNatClampNeg + x.toNatClampNeg ≤ N1) (hdd : 1 ≤ d) (hst : (st.map fun v => v.category).sum ≤ 8)
    (k : G κ d mi (pc + 3) lv st n (va_up w a (.inl (κ 30, N1, .inl (va_cpy f g sp.toNatClampNeg dp.toNatClampNeg x.toNatClampNeg)))) cr sr Q) : G κ d mi pc lv (.int x :: .int dp :: .ref (κ 0 + a) :: .int sp :: .ref (κ 0 + a0) :: st) n w cr sr Q := by
  intro p l e R s m args below meth c H locs cells slots mc ms Z ls hX hl hw hS h1 h2 h3 h4 hE
  obtain ⟨hx, hbc, hml, hown, hts, hK, hT, hN, h0, ⟨hf, hlo⟩, -⟩ := id hX
  have hnat : nativeFrameWords "java/lang/System" "arraycopy" 5 + 11 ≤ 90 := by decide
  intro T hTT X
  have hwa' : (gL κ n w)[a]? = some (κ 0 + a, .inl (κ 30, N1, .inl g)) := by rw [gL_at ha, hwa]
  have hw0' : (gL κ n w)[a0]? = some (κ 0 + a0, .inl (κ 30, N0, .inl f)) := by rw [gL_at ha0, hw0]
  have hc0 : H[κ 0 + a0]? = some (vp_cell (κ 30) (N0, .inl f)) := hw.1 a0 _ hw0'
  have hc1 : H[κ 0 + a]? = some (vp_cell (κ 30) (N1, .inl g)) := hw.1 a _ hwa'
  have nn : ∀ z : Int32, ¬ z < 0 → z.toInt = (z.toNatClampNeg : Int) := by
    intro z hz
    have hz0 : (0 : Int) ≤ z.toInt := by
      have := Int32.not_lt.mp hz
      simpa using Int32.le_iff_toInt_le.mp this
    show z.toInt = ((z.toInt.toNat : Nat) : Int)
    omega
  obtain ⟨-, k0, hk0, cm0, hkk0⟩ := (hK.2 0 _ rfl).1 N0 (fun j => .int (f j))
  obtain ⟨-, k1, hk1, cm1, hkk1⟩ := (hK.2 0 _ rfl).1 N1 (fun j => .int (g j))
  obtain ⟨vm', X', step⟩ := X.arraycopy hx hown (hts _ hlk) (hts _ hs.1) (hts _ hs.2.1) (hts _ hs.2.2) (src := κ 0 + a0) (dst := κ 0 + a) (cs := vp_cell (κ 30) (N0, .inl f)) (cd := vp_cell (κ 30) (N1, .inl g)) (srcPos := sp) (destPos := dp) (n := x) (by rw [hTT]; exact hc0) (by rw [hTT]; exact hc1)
    (fun _ h => by cases h) (fun _ h => by cases h) (fun h => by cases h) (fun h => by cases h) hk0 hk1 hkk0 hkk1 (by simp [refKind]) g1 g2 g3
    (by rw [nn sp g1, nn x g3]; show ¬ _ > ((arrV (κ 30) N0 (fun j => .int (f j))).slots.size : Int); rw [arrV_size]; omega)
    (by rw [nn dp g2, nn x g3]; show ¬ _ > ((arrV (κ 30) N1 (fun j => .int (g j))).slots.size : Int); rw [arrV_size]; omega)
    (fun vm₁ _ i hi => by
      have ee : (vp_cell (κ 30) (N0, .inl f)).slots.getD (sp.toNatClampNeg + i) .null = .int (f (sp.toNatClampNeg + i)) := by
        show (arrV (κ 30) N0 (fun j => .int (f j))).slots.getD _ _ = _
        rw [Array.getD_eq_getD_getElem?, arrV_read _ _ (by omega)]
        rfl
      refine ⟨?_, ?_⟩
      · rw [ee]
        rfl
      · rw [ee]
        exact trivial)
    (g := F0 m pc ls (.int x :: .int dp :: .ref (κ 0 + a) :: .int sp :: .ref (κ 0 + a0) :: st)) rfl (by rw [hml]; exact hl.1) (rest := st) rfl (by rw [hbc]; exact hd) (by omega) (by show 2 * 0 + _ + _ ≤ _; omega)
  have e1 : copied (vp_cell (κ 30) (N0, .inl f)) (vp_cell (κ 30) (N1, .inl g)) sp dp x = vp_cell (κ 30) (N1, .inl (va_cpy f g sp.toNatClampNeg dp.toNatClampNeg x.toNatClampNeg)) := va_copied (fun z => .int z) (κ 30) (κ 30) f g g4
  rw [e1] at X' step
  have hlt : κ 0 + a < H.size := (Array.getElem?_eq_some_iff.mp hc1).1
  have hheap : ((T.setVm vm').setCell (κ 0 + a) (vp_cell (κ 30) (N1, .inl (va_cpy f g sp.toNatClampNeg dp.toNatClampNeg x.toNatClampNeg)))).heap = H.setIfInBounds (κ 0 + a) (vp_cell (κ 30) (N1, .inl (va_cpy f g sp.toNatClampNeg dp.toNatClampNeg x.toNatClampNeg))) := by rw [← hTT]; rfl
  have oq : ∀ q : Nat, q ≠ κ 0 + a → (H.setIfInBounds (κ 0 + a) (vp_cell (κ 30) (N1, .inl (va_cpy f g sp.toNatClampNeg dp.toNatClampNeg x.toNatClampNeg))))[q]? = H[q]? := fun q hq => by simp [Array.getElem?_setIfInBounds, Ne.symm hq]
  have hS' : ∀ L : List Loc, (∀ q ∈ L, q.base = κ 0 + a) → va_S (gA κ) s.heap (H.setIfInBounds (κ 0 + a) (vp_cell (κ 30) (N1, .inl (va_cpy f g sp.toNatClampNeg dp.toNatClampNeg x.toNatClampNeg)))) (locs ++ L) := fun L hL => ⟨by simp; exact hS.1, fun q g1 g2 => by
      rw [oq q (fun e => g2 (by show κ 0 ≤ q; omega))]
      exact hS.2.1 q g1 g2, fun q hq => by
      rcases List.mem_append.mp hq with h | h
      · exact hS.2.2 q h
      · rw [hL q h]
        show κ 0 ≤ κ 0 + a
        omega⟩
  obtain ⟨t, a1, b1⟩ := k p l e R s m args below meth c _ _ cells slots mc ms Z ls hX hl (gW_set ha hw (by simp) (hw.1.set gL_D hwa' (show (H.setIfInBounds (κ 0 + a) _)[κ 0 + a]? = some _ by simp [Array.getElem?_setIfInBounds, hlt]) oq)) (hS' _ (fun q hq => by
      obtain ⟨z, -, hz⟩ := List.mem_map.mp hq
      rw [← hz])) h1 h2 h3 h4 hE _ hheap X'
  exact ⟨t, step t a1, b1⟩
set_option maxHeartbeats 1000000 in
/-- new int[N][M]: the outer row, then the inner ones -/
theorem g_mna {x z : Int32} (N M : Nat) (hd : decode mi.2.1 pc = .ok (.multianewarray idx 2, 4)) (hlk : Cond.classLink mi.1 idx "[[I" ∈ lw_g) (hao : ∀ U, gN U → (Cond.arrayOver (.array .int)).before #[] U = true) (hac : Cond.arrayClass .int ∈ lw_g) (hx0 : ¬ x < 0) (hz0 : ¬ z < 0) (hN : x.toNatClampNeg = N) (hM : z.toNatClampNeg = M) (hb1 : N * 4 ≤ 536870912) (hb2 : M * 4 ≤ 536870912)
    (k : G κ d mi (pc + 4) lv (.ref (κ 0 + n) :: st) (n + 1 + N) (fun q => if q = n then .inl (κ 35, N, .inr (.inr (.inr (.inr (fun i => if i < N then some (κ 0 + (n + 1 + i)) else none))))) else if n < q ∧ q < n + 1 + N then .inl (κ 30, M, .inl (fun _ => 0)) else w q) cr sr Q) : G κ d mi pc lv (.int z :: .int x :: st) n w (cr + (1 + N)) (sr + (N + N * M)) Q := by
  intro p l e R s m args below meth c H locs cells slots mc ms Z ls hX hl hw hS h1 h2 h3 h4 hE
  obtain ⟨hx, hbc, hml, hown, hts, hK, hT, hNn, h0, ⟨hf, hlo⟩, -⟩ := id hX
  subst hN
  subst hM
  intro T hTT Xs
  obtain ⟨vm₁, cA, comp, -, fA, fC, hO, -, X', step⟩ := Jvm.Stand.multianewarray2F Xs hx hown (hts _ hlk) (hao s hNn) (hts _ hac) (g := F0 m pc ls (.int z :: .int x :: st)) rfl (by rw [hbc]; exact hd) rfl hx0 hz0 hb1 hb2 (by omega) rfl rfl (by omega) (by omega)
  have hcA : cA = κ 35 := gTy_at hK (t0 := 5) rfl fA
  have hcC : comp = κ 30 := gTy_at hK (t0 := 0) (ty := .int) rfl fC
  have hTh : (T.setVm vm₁).heap = H := hTT
  generalize hF : Jvm.Free.Multi.fill (T.setVm vm₁) cA comp x.toNatClampNeg z.toNatClampNeg (defaultValue .int) x.toNatClampNeg = F at X' step
  obtain ⟨f1, f2, -, -⟩ := Jvm.Free.Multi.fill_facts (T.setVm vm₁) cA comp x.toNatClampNeg z.toNatClampNeg (defaultValue .int) x.toNatClampNeg
  rw [hF, hTh] at f1 f2
  have hold : ∀ q : Nat, q < H.size → F.heap[q]? = H[q]? := fun q hq => by
    have := Jvm.Free.Multi.fill_old (T.setVm vm₁) cA comp x.toNatClampNeg z.toNatClampNeg (defaultValue .int) (a := q) (by rw [hTh]; exact hq) x.toNatClampNeg
    rw [hF, hTh] at this
    exact this
  have hrow : ∀ j : Nat, j < x.toNatClampNeg → F.heap[H.size + 1 + j]? = some (vp_cell comp (z.toNatClampNeg, .inl (fun _ => 0))) := fun j hj => by
    have := Jvm.Free.Multi.fill_inner (T.setVm vm₁) cA comp x.toNatClampNeg z.toNatClampNeg (defaultValue .int) x.toNatClampNeg j hj
    rw [hF, hTh] at this
    rw [this]
    congr 1
    rw [vp_cell_i, ← arrV_new]
    rfl
  have hout : Jvm.Free.Multi.outerC cA x.toNatClampNeg H.size x.toNatClampNeg = vp_cell cA (x.toNatClampNeg, .inr (.inr (.inr (.inr (fun i => if i < x.toNatClampNeg then some (H.size + 1 + i) else none))))) := by
    rw [vp_cell_q]
    exact g_outer cA x.toNatClampNeg H.size x.toNatClampNeg
  rw [hout] at f2
  subst hcA
  subst hcC
  have hw' : gW κ (n + 1 + x.toNatClampNeg) (fun q => if q = n then .inl (κ 35, x.toNatClampNeg, .inr (.inr (.inr (.inr (fun i => if i < x.toNatClampNeg then some (κ 0 + (n + 1 + i)) else none))))) else if n < q ∧ q < n + 1 + x.toNatClampNeg then .inl (κ 30, z.toNatClampNeg, .inl (fun _ => 0)) else w q) F.heap := by
    refine gW_intro (by rw [f1, hw.2]; omega) (fun a ha => ?_)
    by_cases h1 : a = n
    · subst h1
      simp only [if_true]
      show F.heap[κ 0 + a]? = some (vp_cell _ _)
      rw [← hw.2, f2, hw.2]
      simp only [Nat.add_assoc]
    · by_cases h2 : n < a
      · simp only [if_neg h1, if_pos (And.intro h2 ha)]
        show F.heap[κ 0 + a]? = some (vp_cell _ _)
        have := hrow (a - (n + 1)) (by omega)
        rw [hw.2] at this
        rw [show κ 0 + a = κ 0 + n + 1 + (a - (n + 1)) by omega]
        exact this
      · have hlt : a < n := by omega
        simp only [if_neg h1, if_neg (fun z : n < a ∧ a < n + 1 + x.toNatClampNeg => h2 z.1)]
        exact (gW_at hw hlt).kept (hold _ (by rw [hw.2]; show κ 0 + a < κ 0 + n; omega))
  have hk := k p l e R s m args below meth c F.heap locs (cells + 1 + x.toNatClampNeg) (slots + x.toNatClampNeg + x.toNatClampNeg * z.toNatClampNeg) mc ms Z ls hX hl hw' (hS.push (by rw [f1]; omega) hold) (by omega) (by omega) h3 h4 hE
  obtain ⟨t, a1, b1⟩ := hk F rfl X'
  refine ⟨t, step t ?_, b1⟩
  have e9 : T.heap.size = κ 0 + n := by rw [hTT, hw.2]
  rw [e9]
  exact a1
end GM

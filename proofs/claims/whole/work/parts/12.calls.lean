theorem gPc_blind {κ : Nat → Nat} {av : List Value} {n : Nat} {w : gWd} : FrameBlind (gPc κ av n w) := by
  intro a U g mk h
  obtain ⟨h1, h2, h3, h4, h5⟩ := h
  exact ⟨h1, h2, va_K.moved (u := U) (U := U.calling g mk a) (Vm.Alike.refl U.vm) h3, gT.moved (u := U) (U := U.calling g mk a) (Vm.Alike.refl U.vm) h4, gN.same (u := U) (U := U.calling g mk a) rfl h5⟩
/-- what the tables say of a method of ours -/
def gYV (y : MethodName) (mi : gMI) : Prop := (Cond.instanceMethod y ∈ lw_g ∧ Cond.selects y.cls y y ∈ lw_g ∧ Cond.initialized y.cls ∈ lw_g ∧ Cond.code y mi.2.1 mi.2.2.1 mi.2.2.2.2 ∈ lw_g) ∧ (y.cls ≠ "java/lang/invoke/MethodHandle" ∧ y.cls ≠ "java/lang/invoke/VarHandle") ∧ mi.2.2.1 ≤ 80
def gYS (y : MethodName) (mi : gMI) : Prop := (Cond.static y ∈ lw_g ∧ Cond.initialized y.cls ∈ lw_g ∧ Cond.code y mi.2.1 mi.2.2.1 mi.2.2.2.2 ∈ lw_g) ∧ (y.cls ≠ "java/lang/invoke/MethodHandle" ∧ y.cls ≠ "java/lang/invoke/VarHandle") ∧ mi.2.2.1 ≤ 80
def gYI (y : MethodName) (mi : gMI) : Prop := (Cond.instanceMethod y ∈ lw_g ∧ Cond.initialized y.cls ∈ lw_g ∧ Cond.code y mi.2.1 mi.2.2.1 mi.2.2.2.2 ∈ lw_g) ∧ (y.cls ≠ "java/lang/invoke/MethodHandle" ∧ y.cls ≠ "java/lang/invoke/VarHandle") ∧ mi.2.2.1 ≤ 80 ∧ y.name = "<init>" ∧ mi.2.2.2.2 = none
theorem gGood (ws : List Cond) (h : ∀ w ∈ ws, w ∈ lw_g) : GoodIn lw_g ws := fun w hw => ⟨h w hw, lw_g_good (h w hw)⟩
section GC
variable {κ : Nat → Nat} {d : Nat} {mi : gMI} {pc : Nat} {lv : List (Nat × Value)} {st : List Value} {n : Nat} {w : gWd} {cr sr : Nat} {Q Q' : gQ} {y : MethodName} {mi' : gMI} {d' mc' ms' : Nat} {As : List Value} {idx : Nat}
theorem gPre {s : State} {H : Heap} {av : List Value} (hK : va_K (gD κ) vwCl (gTy κ) s) (hT : gT κ s s.heap) (hN : gN s) (hw : gW κ n w H) {locs : List Loc} (hS : va_S (gA κ) s.heap H locs) : ∀ U : State, U.heap = H → s.WarmedH U.vm → gPc κ av n w av.toArray U := fun U hU hW =>
  ⟨rfl, by rw [hU]; exact hw, va_K.moved hW.alike hK, by rw [hU]; exact (gT.moved hW.alike (hT.kept hS.2.1)), gN.warm hW hN⟩
theorem gRun {p : Program} {l : Launch} {e : Env} {R : Room} {s : State} {m : MethodId} {args : Array Value} {below : List Frame} {meth : Method} {c : Code} {H : Heap} {locs : List Loc} {cells slots mc ms : Nat} {Z : State → Prop} {ls : Array Slot} {st0 : List Value} {a : Array Value}
    (hX : gX κ d mi p R s m args meth c) (hl : lv_has ls mi.2.2.1 lv) (hS : va_S (gA κ) s.heap H locs) (h1 : cells + cr ≤ mc) (h2 : slots + sr ≤ ms) (h3 : mc ≤ R.cells) (h4 : ms ≤ R.slots) (hE : gE κ mi Q p l e R s m args below meth c mc ms Z)
    (hcr : mc' ≤ cr) (hsr : ms' ≤ sr)
    (hr : va_Run p l e R s m args below meth c H locs cells slots mc' ms' (F0 m pc ls st0) st (gQc κ Q' a) (gA κ))
    (k : ∀ v n' w', Q' v n' w' → G κ d mi (pc + 3) lv (v.toList ++ st) n' w' (cr - mc') (sr - ms') Q) : W p l e R s m args below meth c H locs cells slots Z (F0 m pc ls st0) := by
  intro T hT X
  obtain ⟨v, st₀, t, T', L, h0, X', hL, e1, e2, ⟨⟨v', n', w', hv, hq, hw'⟩, hz, hk⟩, stp⟩ := hr T hT X
  cases hv
  rw [h0] at hz hk
  have hS' : va_S (gA κ) s.heap T'.heap (locs ++ L) := ⟨Nat.le_trans hS.1 (by rw [e1]; exact hz), fun q g1 g2 => by rw [e1, hk q (Nat.lt_of_lt_of_le g1 hS.1) g2]; exact hS.2.1 q g1 g2, fun q hq => (List.mem_append.mp hq).elim (hS.2.2 q) (hL q)⟩
  obtain ⟨t2, a1, b1⟩ := k v n' w' hq p l e R s m args below meth c T'.heap (locs ++ L) (cells + mc') (slots + ms') mc ms Z ls hX hl (by rw [e1]; exact hw') hS' (by omega) (by omega) h3 h4 hE T' rfl X'
  exact ⟨t2, stp t2 a1, b1⟩
set_option maxHeartbeats 1000000 in
theorem g_callV {b ci N : Nat} {T : u_T} {fs : List Value} (hM : CT κ d' y mi' (.ref (κ 0 + b) :: As) n w mc' ms' Q') (hd : decode mi.2.1 pc = .ok (.invokevirtual idx, 3)) (hY : gYV y mi') (hlk : Cond.methodLink mi.1 idx y ∈ lw_g) (hb : b < n) (hwb : w b = .inr (ci, fs)) (hc : vwCl[ci]? = some (y.cls, T, N)) (hdd : d' + 1 ≤ d)
    (hlen : (parseMethodDescriptor y.desc).map (fun d => d.parameters.length) = some As.length) (hst : (st.map fun v => v.category).sum ≤ 8) (hcr : mc' ≤ cr) (hsr : ms' ≤ sr)
    (k : ∀ v n' w', Q' v n' w' → G κ d mi (pc + 3) lv (v.toList ++ st) n' w' (cr - mc') (sr - ms') Q) : G κ d mi pc lv (As.reverse ++ .ref (κ 0 + b) :: st) n w cr sr Q := by
  intro p l e R s m args below meth c H locs cells slots mc ms Z ls hX hl hw hS h1 h2 h3 h4 hE
  obtain ⟨hx, hbc, hml, hown, hts, hK, hT, hN, h0, ⟨hf, hlo⟩, -⟩ := id hX
  obtain ⟨⟨y1, y2, y3, y4⟩, hy, hm80⟩ := hY
  have hE1 : va_Run p l e R s m args below meth c H locs cells slots mc' ms' (F0 m pc ls (As.reverse ++ .ref (κ 0 + b) :: st)) st (gQc κ Q' (Value.ref (κ 0 + b) :: As).toArray) (gA κ) := by
    refine va_runV (C := y.cls) (bytes := mi'.2.1) (maxL := mi'.2.2.1) (ret := mi'.2.2.2.2) (n := As.length) (As := As) (rest := st) ⟨hx, hbc, hml, hown, hts⟩ (hM l) (cwV As.length hts (gGood _ ?_) rfl rfl rfl ⟨rfl, hy.1, hy.2, hlen⟩ ⟨by show d' + 1 ≤ R.frames; omega, by show 8 + (mi'.2.2.1 + 11) + 100 * d' ≤ R.locals; omega⟩) ⟨gPc_blind, va_recv hK hw.1 hc (by rw [gL_at hb, hwb]), gPre hK hT hN hw hS⟩ rfl rfl hl.1 rfl (lv_room hst) hd ⟨by omega, by omega⟩
    intro w hw
    simp only [wsV, List.mem_append, List.mem_cons, List.not_mem_nil, or_false, gWs] at hw
    rcases hw with (rfl | rfl | rfl | rfl) | rfl | hw
    · exact hlk
    · exact y1
    · exact y2
    · exact y3
    · exact y4
    · exact hw
  exact gRun hX hl hS h1 h2 h3 h4 hE hcr hsr hE1 k
set_option maxHeartbeats 1000000 in
theorem g_callS (hM : CT κ d' y mi' As n w mc' ms' Q') (hd : decode mi.2.1 pc = .ok (.invokestatic idx, 3)) (hY : gYS y mi') (hlk : Cond.methodLink mi.1 idx y ∈ lw_g) (hdd : d' + 1 ≤ d)
    (hlen : (parseMethodDescriptor y.desc).map (fun d => d.parameters.length) = some As.length) (hst : (st.map fun v => v.category).sum ≤ 8) (hcr : mc' ≤ cr) (hsr : ms' ≤ sr)
    (k : ∀ v n' w', Q' v n' w' → G κ d mi (pc + 3) lv (v.toList ++ st) n' w' (cr - mc') (sr - ms') Q) : G κ d mi pc lv (As.reverse ++ st) n w cr sr Q := by
  intro p l e R s m args below meth c H locs cells slots mc ms Z ls hX hl hw hS h1 h2 h3 h4 hE
  obtain ⟨hx, hbc, hml, hown, hts, hK, hT, hN, h0, ⟨hf, hlo⟩, -⟩ := id hX
  obtain ⟨⟨y1, y3, y4⟩, hy, hm80⟩ := hY
  have hE1 : va_Run p l e R s m args below meth c H locs cells slots mc' ms' (F0 m pc ls (As.reverse ++ st)) st (gQc κ Q' As.toArray) (gA κ) := by
    refine va_runS (bytes := mi'.2.1) (maxL := mi'.2.2.1) (ret := mi'.2.2.2.2) (n := As.length) (As := As) (rest := st) ⟨hx, hbc, hml, hown, hts⟩ (hM l) (va_cwS As.length hts (gGood _ ?_) rfl rfl rfl ⟨hy.1, hy.2, hlen⟩ ⟨by show d' + 1 ≤ R.frames; omega, by show 8 + (mi'.2.2.1 + 11) + 100 * d' ≤ R.locals; omega⟩) ⟨gPc_blind, gPre hK hT hN hw hS⟩ rfl rfl hl.1 rfl (lv_room hst) hd ⟨by omega, by omega⟩
    intro w hw
    simp only [va_wsS, List.mem_append, List.mem_cons, List.not_mem_nil, or_false, gWs] at hw
    rcases hw with (rfl | rfl | rfl) | rfl | hw
    · exact hlk
    · exact y1
    · exact y3
    · exact y4
    · exact hw
  exact gRun hX hl hS h1 h2 h3 h4 hE hcr hsr hE1 k
set_option maxHeartbeats 1000000 in
theorem g_callSN {host : String} (hM : CT κ d' y mi' As n w mc' ms' Q') (hd : decode mi.2.1 pc = .ok (.invokestatic idx, 3)) (hY : gYS y mi') (hlk : ∀ U, gN U → va_Nw (.methodLinkNest mi.1 idx y host) U) (hdd : d' + 1 ≤ d)
    (hlen : (parseMethodDescriptor y.desc).map (fun d => d.parameters.length) = some As.length) (hst : (st.map fun v => v.category).sum ≤ 8) (hcr : mc' ≤ cr) (hsr : ms' ≤ sr)
    (k : ∀ v n' w', Q' v n' w' → G κ d mi (pc + 3) lv (v.toList ++ st) n' w' (cr - mc') (sr - ms') Q) : G κ d mi pc lv (As.reverse ++ st) n w cr sr Q := by
  intro p l e R s m args below meth c H locs cells slots mc ms Z ls hX hl hw hS h1 h2 h3 h4 hE
  obtain ⟨hx, hbc, hml, hown, hts, hK, hT, hN, h0, ⟨hf, hlo⟩, -⟩ := id hX
  obtain ⟨⟨y1, y3, y4⟩, hy, hm80⟩ := hY
  have hE1 : va_Run p l e R s m args below meth c H locs cells slots mc' ms' (F0 m pc ls (As.reverse ++ st)) st (gQc κ Q' As.toArray) (gA κ) := by
    refine va_runSN (bytes := mi'.2.1) (maxL := mi'.2.2.1) (ret := mi'.2.2.2.2) (n := As.length) (As := As) (rest := st) ⟨hx, hbc, hml, hown, hts⟩ (hM l) ⟨va_cnB As.length hts (gGood _ ?_) rfl rfl rfl (hlk s hN) (hts _ y3) ⟨hy.1, hy.2, hlen⟩ ⟨by show d' + 1 ≤ R.frames; omega, by show 8 + (mi'.2.2.1 + 11) + 100 * d' ≤ R.locals; omega⟩, hts _ y1, trivial⟩ ⟨gPc_blind, gPre hK hT hN hw hS⟩ rfl rfl hl.1 rfl (lv_room hst) hd ⟨by omega, by omega⟩
    intro w hw
    simp only [List.mem_cons, gWs] at hw
    rcases hw with rfl | hw
    · exact y4
    · exact hw
  exact gRun hX hl hS h1 h2 h3 h4 hE hcr hsr hE1 k
set_option maxHeartbeats 1000000 in
theorem g_callI {b : Nat} (hM : CT κ d' y mi' (.ref b :: As) n w mc' ms' Q') (hd : decode mi.2.1 pc = .ok (.invokespecial idx, 3)) (hY : gYI y mi') (hlk : Cond.methodLink mi.1 idx y ∈ lw_g) (hdd : d' + 1 ≤ d)
    (hlen : (parseMethodDescriptor y.desc).map (fun d => d.parameters.length) = some As.length) (hst : (st.map fun v => v.category).sum ≤ 8) (hcr : mc' ≤ cr) (hsr : ms' ≤ sr)
    (k : ∀ v n' w', Q' v n' w' → G κ d mi (pc + 3) lv (v.toList ++ st) n' w' (cr - mc') (sr - ms') Q) : G κ d mi pc lv (As.reverse ++ .ref b :: st) n w cr sr Q := by
  intro p l e R s m args below meth c H locs cells slots mc ms Z ls hX hl hw hS h1 h2 h3 h4 hE
  obtain ⟨hx, hbc, hml, hown, hts, hK, hT, hN, h0, ⟨hf, hlo⟩, -⟩ := id hX
  obtain ⟨⟨y1, y3, y4⟩, hy, hm80, hy1, hrn⟩ := hY
  rw [hrn] at y4
  have hE1 : va_Run p l e R s m args below meth c H locs cells slots mc' ms' (F0 m pc ls (As.reverse ++ .ref b :: st)) st (gQc κ Q' (Value.ref b :: As).toArray) (gA κ) := by
    refine va_runI (bytes := mi'.2.1) (maxL := mi'.2.2.1) (n := As.length) (As := As) (rest := st) ⟨hx, hbc, hml, hown, hts⟩ (hM l) (cwI As.length hts (gGood _ ?_) (by unfold gWs; rw [hrn]) rfl rfl (hts _ y3) (hts _ hlk) (hts _ y1) hy1 ⟨hy.1, hy.2, hlen⟩ ⟨by show d' + 1 ≤ R.frames; omega, by show 8 + (mi'.2.2.1 + 11) + 100 * d' ≤ R.locals; omega⟩) ⟨gPc_blind, gPre hK hT hN hw hS⟩ rfl rfl hl.1 rfl (lv_room hst) hd ⟨by omega, by omega⟩
    intro w hw
    simp only [List.mem_cons, gWs, hrn] at hw
    rcases hw with rfl | hw
    · exact y4
    · exact hw
  exact gRun hX hl hS h1 h2 h3 h4 hE hcr hsr hE1 k
set_option maxHeartbeats 1000000 in
theorem g_callIN {b : Nat} {host : String} (hM : CT κ d' y mi' (.ref b :: As) n w mc' ms' Q') (hd : decode mi.2.1 pc = .ok (.invokespecial idx, 3)) (hY : gYI y mi') (hlk : ∀ U, gN U → va_Nw (.methodLinkNest mi.1 idx y host) U) (hdd : d' + 1 ≤ d)
    (hlen : (parseMethodDescriptor y.desc).map (fun d => d.parameters.length) = some As.length) (hst : (st.map fun v => v.category).sum ≤ 8) (hcr : mc' ≤ cr) (hsr : ms' ≤ sr)
    (k : ∀ v n' w', Q' v n' w' → G κ d mi (pc + 3) lv (v.toList ++ st) n' w' (cr - mc') (sr - ms') Q) : G κ d mi pc lv (As.reverse ++ .ref b :: st) n w cr sr Q := by
  intro p l e R s m args below meth c H locs cells slots mc ms Z ls hX hl hw hS h1 h2 h3 h4 hE
  obtain ⟨hx, hbc, hml, hown, hts, hK, hT, hN, h0, ⟨hf, hlo⟩, -⟩ := id hX
  obtain ⟨⟨y1, y3, y4⟩, hy, hm80, hy1, hrn⟩ := hY
  rw [hrn] at y4
  have hE1 : va_Run p l e R s m args below meth c H locs cells slots mc' ms' (F0 m pc ls (As.reverse ++ .ref b :: st)) st (gQc κ Q' (Value.ref b :: As).toArray) (gA κ) := by
    refine va_runIN (bytes := mi'.2.1) (maxL := mi'.2.2.1) (n := As.length) (As := As) (rest := st) ⟨hx, hbc, hml, hown, hts⟩ (hM l) ⟨va_cnB As.length hts (gGood _ ?_) (by unfold gWs; rw [hrn]) rfl rfl (hlk s hN) (hts _ y3) ⟨hy.1, hy.2, hlen⟩ ⟨by show d' + 1 ≤ R.frames; omega, by show 8 + (mi'.2.2.1 + 11) + 100 * d' ≤ R.locals; omega⟩, hy1, hts _ y1⟩ ⟨gPc_blind, gPre hK hT hN hw hS⟩ rfl rfl hl.1 rfl (lv_room hst) hd ⟨by omega, by omega⟩
    intro w hw
    simp only [List.mem_cons, gWs, hrn] at hw
    rcases hw with rfl | hw
    · exact y4
    · exact hw
  exact gRun hX hl hS h1 h2 h3 h4 hE hcr hsr hE1 k
end GC

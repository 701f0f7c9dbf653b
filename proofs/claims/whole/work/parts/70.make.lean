/-! MAKING: the world up to n, room, a row cloned, worlds half made -/
theorem gL_congr {κ : Nat → Nat} {n : Nat} {w w' : gWd} (h : ∀ q, q < n → w q = w' q) : gL κ n w = gL κ n w' := by
  unfold gL
  apply List.map_congr_left
  intro a ha
  rw [h a (List.mem_range.mp ha)]
def xWd (κ : Nat → Nat) : vp_A := (12, .inr (.inr (.inr (.inr (fun j => if j < 12 then some (κ (40 + j)) else none)))))
section GK
variable {κ : Nat → Nat} {d : Nat} {mi : gMI} {pc : Nat} {lv : List (Nat × Value)} {st : List Value} {n : Nat} {w : gWd} {cr sr : Nat} {Q : gQ} {a idx : Nat}
theorem g_wc {w' : gWd} (h : ∀ q, q < n → w q = w' q) (k : G κ d mi pc lv st n w' cr sr Q) : G κ d mi pc lv st n w cr sr Q := by
  intro p l e R s m args below meth c H locs cells slots mc ms Z ls hX hl hw hS h1 h2 h3 h4 hE
  exact k p l e R s m args below meth c H locs cells slots mc ms Z ls hX hl ⟨by rw [← gL_congr h]; exact hw.1, hw.2⟩ hS h1 h2 h3 h4 hE
theorem g_room {cr' sr' : Nat} (e1 : cr' ≤ cr) (e2 : sr' ≤ sr) (k : G κ d mi pc lv st n w cr' sr' Q) : G κ d mi pc lv st n w cr sr Q := by
  intro p l e R s m args below meth c H locs cells slots mc ms Z ls hX hl hw hS h1 h2 h3 h4 hE
  exact k p l e R s m args below meth c H locs cells slots mc ms Z ls hX hl hw hS (by omega) (by omega) h3 h4 hE
theorem gWordNm {s : State} (hK : va_K (gD κ) vwCl (gTy κ) s) (hN : gN s) : s.vm.findClass "[LSieveTub$Word;" = some (κ 36) := by
  obtain ⟨c0, t0', f1, f2, f3⟩ := Cond.castable_spec (va_Nw.use (A := #[]) rfl hN.2.2.2.2.2.1)
  have e : "[" ++ (FieldType.object "SieveTub$Word").toString = "[LSieveTub$Word;" := by decide +kernel
  have hc : c0 = κ 36 := gTy_at hK (t0 := 6) rfl (by rw [e]; exact f1)
  rw [← hc]
  exact f1
set_option maxHeartbeats 1000000 in
theorem g_clone (hd : decode mi.2.1 pc = .ok (.invokevirtual idx, 3)) (hlk : Cond.methodLink mi.1 idx ⟨"[LSieveTub$Word;", "clone", "()Ljava/lang/Object;"⟩ ∈ lw_g) (hs : Cond.sameMethod "[LSieveTub$Word;" "java/lang/Object" "clone" "()Ljava/lang/Object;" ∈ lw_g ∧ Cond.native ⟨"java/lang/Object", "clone", "()Ljava/lang/Object;"⟩ ∈ lw_g ∧ Cond.instanceMethod ⟨"java/lang/Object", "clone", "()Ljava/lang/Object;"⟩ ∈ lw_g ∧ Cond.selects "[LSieveTub$Word;" ⟨"[LSieveTub$Word;", "clone", "()Ljava/lang/Object;"⟩ ⟨"java/lang/Object", "clone", "()Ljava/lang/Object;"⟩ ∈ lw_g) (hst : (st.map fun v => v.category).sum ≤ 8) (hdd : 1 ≤ d)
    (k : G κ d mi (pc + 3) lv (.ref (κ 0 + n) :: st) (n + 1) (va_up w n (.inl (κ 36, xWd κ))) cr sr Q) : G κ d mi pc lv (.ref (κ 62) :: st) n w (cr + 1) (sr + 12) Q := by
  intro p l e R s m args below meth c H locs cells slots mc ms Z ls hX hl hw hS h1 h2 h3 h4 hE
  obtain ⟨hx, hbc, hml, hown, hts, hK, hT, hN, h0, ⟨hf, hlo⟩, -⟩ := id hX
  have hTH := hT.kept hS.2.1
  obtain ⟨cell, hcell, hun, hst0, hcls, hslots⟩ := hTH.2.2.1.2.1
  have hslots : cell.slots = (vp_cell (κ 36) (xWd κ)).slots := hslots
  have hnm := gWordNm hK hN
  obtain ⟨c0, t0', f1, f2, f3⟩ := Cond.castable_spec (va_Nw.use (A := args) rfl hN.2.2.2.2.2.1)
  cases hnm.symm.trans f1
  have hsz : (vp_cell (κ 36) (xWd κ)).slots.size = 12 := arrV_size _ _ _
  have hfit : ∀ (i : Nat) (v : Value), (vp_cell (κ 36) (xWd κ)).slots[i]? = some v → fits (.object "SieveTub$Word") v = true := by
    intro i v hv
    refine va_fit (ty := .object "SieveTub$Word") (fun j hj => ?_) i v (show (arrV (κ 36) 12 (fun j => va_rf (if j < 12 then some (κ (40 + j)) else none))).slots[i]? = some v from hv)
    rw [if_pos hj]
    rfl
  intro T hTT X
  obtain ⟨-, kA, hkA, comp, hkind⟩ := State.isArrayOf_alike X.warmed.alike ((hK.2 6 _ rfl).1 0 (fun _ => .null))
  obtain ⟨-, kS, hkS, compS, hkindS⟩ := (hK.2 6 _ rfl).1 0 (fun _ => .null)
  obtain ⟨vm', X', stp⟩ := X.cloneArray hx hown (hts _ hlk) (hts _ hs.1) (hts _ hs.2.1) (hts _ hs.2.2.1) (hts _ hs.2.2.2) (a := κ 62) (cell := cell) (by rw [hTT]; exact hcell) (fun k h => hst0 k h) hun (by rw [hcls]; exact hnm) f2 (by rw [hcls]; exact f3)
    (fun i v hv => by
      have hk' : T.vm.classes[κ 36]? = some kA := hkA
      have := hfit i v (by rw [← hslots]; exact hv)
      rw [hcls]
      simpa [State.fitsSlot, State.slotType?, hk', hkind] using this)
    (g := F0 m pc ls (.ref (κ 62) :: st)) rfl (by rw [hml]; exact hl.1) rfl (by rw [hbc]; exact hd) (by omega) (by show 2 * 0 + _ + 14 ≤ _; omega) (by omega) (by rw [hslots, hsz]; omega) (hloader := by rw [hcls]; exact Vm.clonesLoader_of_array hkS hkindS)
  rw [hslots, hsz] at X'
  have hcellE : ({ cls := cell.cls, slots := (vp_cell (κ 36) (xWd κ)).slots } : Cell) = vp_cell (κ 36) (xWd κ) := by rw [hcls]; rfl
  rw [hcellE] at X'
  generalize hH1 : H.push (vp_cell (κ 36) (xWd κ)) = H1
  have z1 : H1.size = H.size + 1 := by rw [← hH1, Array.size_push]
  have e1 : H1[H.size]? = some (vp_cell (κ 36) (xWd κ)) := by rw [← hH1, Array.getElem?_push_size]
  have o1 : ∀ q : Nat, q < H.size → H1[q]? = H[q]? := fun q hq => by rw [← hH1, Array.getElem?_push, if_neg (Nat.ne_of_lt hq)]
  have hk := k p l e R s m args below meth c H1 locs (cells + 1) (slots + 12) mc ms Z ls hX hl (gW_push hw z1 o1 (by
    show H1[κ 0 + n]? = some (vp_cell _ _)
    rw [← hw.2]
    exact e1)) (hS.push (by omega) o1) (by omega) (by omega) h3 h4 hE
  obtain ⟨t, b1, b2⟩ := hk ((T.setVm vm').pushCell (vp_cell (κ 36) (xWd κ))) (by rw [← hH1, ← hTT]; rfl) X'
  refine ⟨t, stp t ?_, b2⟩
  rw [hslots, hcellE, hTT, hw.2]
  exact b1
theorem g_castW {x : vp_A} (hd : decode mi.2.1 pc = .ok (.checkcast idx, 3)) (hlk : Cond.classLink mi.1 idx "[LSieveTub$Word;" ∈ lw_g) (ha : a < n) (hwa : w a = .inl (κ 36, x)) (k : G κ d mi (pc + 3) lv (.ref (κ 0 + a) :: st) n w cr sr Q) : G κ d mi pc lv (.ref (κ 0 + a) :: st) n w cr sr Q := by
  intro p l e R s m args below meth c H locs cells slots mc ms Z ls hX hl hw hS h1 h2 h3 h4 hE
  obtain ⟨hx, hbc, hml, hown, hts, hK, hT, hN, h0, ⟨hf, hlo⟩, -⟩ := id hX
  exact va_castA hx hbc hown (hts _ hlk) hw.1 a (by rw [gL_at ha, hwa]) (gWordNm hK hN) hd (k p l e R s m args below meth c H locs cells slots mc ms Z ls hX hl hw hS h1 h2 h3 h4 hE)
end GK
/-- behind a constructor: m cells, as W says -/
def qD (m : Nat) (W : gWd) : gQ := fun v n w => v = none ∧ n = m ∧ ∀ q, q < m → w q = W q
def pw (κ : Nat → Nat) (a : Nat) (w : gWd) (μ : gMem) : gWd := fun q => if q < a then w q else wOf κ μ q
/-- a's object half made: its fields are fs yet -/
def xW (κ : Nat → Nat) (a : Nat) (w : gWd) (μ : gMem) (c : Nat) (fs : List Value) : gWd := fun q => if q < a then w q else if q = a then .inr (c, fs) else wOf κ μ q
/-- the first s objects of a row of references -/
def prt (κ : Nat → Nat) (b s : Nat) : Nat → Option Nat := fun j => if j < s then some (κ 0 + rfA b j) else none
theorem xW_lo {κ : Nat → Nat} {a : Nat} {w : gWd} {μ : gMem} {c : Nat} {fs : List Value} {q : Nat} (h : q < a) : xW κ a w μ c fs q = w q := by unfold xW; rw [if_pos h]
theorem xW_at {κ : Nat → Nat} {a : Nat} {w : gWd} {μ : gMem} {c : Nat} {fs : List Value} : xW κ a w μ c fs a = .inr (c, fs) := by unfold xW; rw [if_neg (Nat.lt_irrefl a), if_pos rfl]
theorem xW_hi {κ : Nat → Nat} {a : Nat} {w : gWd} {μ : gMem} {c : Nat} {fs : List Value} {q : Nat} (h : a < q) : xW κ a w μ c fs q = wOf κ μ q := by unfold xW; rw [if_neg (by omega), if_neg (by omega)]
theorem up_eq {w : gWd} {a : Nat} {e : va_E} : va_up w a e a = e := by simp [va_up]
theorem up_ne {w : gWd} {a q : Nat} {e : va_E} (h : q ≠ a) : va_up w a e q = w q := by simp [va_up, h]
theorem xW_put {κ : Nat → Nat} {a : Nat} {w : gWd} {μ : gMem} {c : Nat} {fs fs' : List Value} : va_up (xW κ a w μ c fs) a (.inr (c, fs')) = xW κ a w μ c fs' := by
  funext q
  by_cases h : q = a
  · subst h; rw [up_eq, xW_at]
  · rw [up_ne h]
    unfold xW
    simp only [h, if_false]
theorem xW_end {κ : Nat → Nat} {a : Nat} {w : gWd} {μ : gMem} {c : Nat} {fs : List Value} (hk : kd a = c) (hc : c < 11) (h : fs = gFs κ μ a c) : xW κ a w μ c fs = pw κ a w μ := by
  funext q
  unfold xW pw
  by_cases h1 : q < a
  · rw [if_pos h1, if_pos h1]
  · rw [if_neg h1, if_neg h1]
    by_cases h2 : q = a
    · subst h2; rw [if_pos rfl, wOf_obj hk hc, h]
    · rw [if_neg h2]
theorem xW_new {κ : Nat → Nat} {a n : Nat} {w : gWd} {μ : gMem} {c : Nat} {fs : List Value} {e : va_E} (ha : a < n) (he : wOf κ μ n = e) : va_up (xW κ a w μ c fs) n e = xW κ a w μ c fs := by
  funext q
  by_cases h : q = n
  · subst h; rw [up_eq, xW_hi ha, he]
  · rw [up_ne h]
theorem xW_sub {κ : Nat → Nat} {a n q : Nat} {w : gWd} {μ : gMem} {c : Nat} {fs : List Value} {e : va_E} (ha : a < n) : pw κ n (va_up (xW κ a w μ c fs) n e) μ q = xW κ a w μ c fs q := by
  unfold pw
  by_cases h : q < n
  · rw [if_pos h, up_ne (by omega)]
  · rw [if_neg h, xW_hi (by omega)]
theorem wOf_i0 {κ : Nat → Nat} {μ : gMem} {a N : Nat} (hk : kd a = 20) (hl : ln a = N) (hz : μ a = fun _ => 0) : wOf κ μ a = .inl (κ 30, N, .inl (fun _ => 0)) := by rw [wOf_int hk, hl, hz]
theorem wOf_z0 {κ : Nat → Nat} {μ : gMem} {a N : Nat} (hk : kd a = 21) (hl : ln a = N) (hz : μ a = fun _ => 0) : wOf κ μ a = .inl (κ 31, N, .inl (fun _ => 0)) := by rw [wOf_bool hk, hl, hz]
theorem wOf_row {κ : Nat → Nat} {μ : gMem} {a c N : Nat} (hk : kd a = c) (h1 : 22 ≤ c) (h2 : c ≤ 25) (hl : ln a = N) : wOf κ μ a = .inl (κ (c + 10), N, .inr (.inr (.inr (.inr (prt κ a N))))) := by
  rw [wOf_refs hk h1 h2, ← hl]
  rfl
theorem prt_up {κ : Nat → Nat} {b s r : Nat} (h : rfA b s = r) : va_up (prt κ b s) s (some (κ 0 + r)) = prt κ b (s + 1) := by
  funext j
  unfold prt
  by_cases hj : j = s
  · subst hj
    simp [va_up, h]
  · simp only [va_up, hj, if_false]
    by_cases h2 : j < s
    · rw [if_pos h2, if_pos (by omega)]
    · rw [if_neg h2, if_neg (by omega)]
theorem prt_0 {κ : Nat → Nat} {b : Nat} : prt κ b 0 = fun _ => none := by
  funext j
  unfold prt
  rw [if_neg (by omega)]
section GX
variable {κ : Nat → Nat} {d : Nat} {mi : gMI} {pc : Nat} {lv : List (Nat × Value)} {st : List Value} {n : Nat} {w : gWd} {cr sr : Nat} {Q : gQ} {a idx : Nat} {μ : gMem} {c : Nat} {fs : List Value}
/-- new int[N], into its place -/
theorem x_int {x : Int32} (N : Nat) (hd : decode mi.2.1 pc = .ok (.newarray .int, 2)) (hlk : Cond.arrayClass .int ∈ lw_g) (hx0 : ¬ x < 0) (hN : x.toNatClampNeg = N) (hb : N ≤ 1000) (ha : a < n) (hk : kd n = 20) (hl : ln n = N) (hz : μ n = fun _ => 0)
    (k : G κ d mi (pc + 2) lv (.ref (κ 0 + n) :: st) (n + 1) (xW κ a w μ c fs) cr sr Q) : G κ d mi pc lv (.int x :: st) n (xW κ a w μ c fs) (cr + 1) (sr + N) Q := by
  refine g_newa (t0 := 0) N .int .int hd rfl rfl hlk rfl hx0 hN (by show N * 4 ≤ 536870912; omega) ?_
  rw [xW_new ha (wOf_i0 hk hl hz)]
  exact k
theorem x_bool {x : Int32} (N : Nat) (hd : decode mi.2.1 pc = .ok (.newarray .boolean, 2)) (hlk : Cond.arrayClass .boolean ∈ lw_g) (hx0 : ¬ x < 0) (hN : x.toNatClampNeg = N) (hb : N ≤ 1000) (ha : a < n) (hk : kd n = 21) (hl : ln n = N) (hz : μ n = fun _ => 0)
    (k : G κ d mi (pc + 2) lv (.ref (κ 0 + n) :: st) (n + 1) (xW κ a w μ c fs) cr sr Q) : G κ d mi pc lv (.int x :: st) n (xW κ a w μ c fs) (cr + 1) (sr + N) Q := by
  refine g_newa (t0 := 1) N .boolean .boolean hd rfl rfl hlk rfl hx0 hN (by show N * 1 ≤ 536870912; omega) ?_
  rw [xW_new ha (wOf_z0 hk hl hz)]
  exact k
/-- new int[N][M] -/
theorem x_mna {x z : Int32} (N M : Nat) (hd : decode mi.2.1 pc = .ok (.multianewarray idx 2, 4)) (hlk : Cond.classLink mi.1 idx "[[I" ∈ lw_g) (hac : Cond.arrayClass .int ∈ lw_g) (hx0 : ¬ x < 0) (hz0 : ¬ z < 0) (hN : x.toNatClampNeg = N) (hM : z.toNatClampNeg = M) (hb1 : N ≤ 1000) (hb2 : M ≤ 1000) (ha : a < n) (hk : kd n = 25) (hl : ln n = N) (hr : ∀ j, j < N → kd (n + 1 + j) = 20 ∧ ln (n + 1 + j) = M) (hz : ∀ q, n < q → q < n + 1 + N → μ q = fun _ => 0)
    (k : G κ d mi (pc + 4) lv (.ref (κ 0 + n) :: st) (n + 1 + N) (xW κ a w μ c fs) cr sr Q) : G κ d mi pc lv (.int z :: .int x :: st) n (xW κ a w μ c fs) (cr + (1 + N)) (sr + (N + N * M)) Q := by
  refine g_mna N M hd hlk (fun U h => h.2.2.2.2.2.2) hac hx0 hz0 hN hM (by omega) (by omega) (g_wc (fun q hq => ?_) k)
  by_cases h1 : q = n
  · subst h1
    have e : (fun i => if i < N then some (κ 0 + (q + 1 + i)) else none) = prt κ q N := by
      funext j
      unfold prt rfA
      rw [hk, if_neg (show ¬ (25 : Nat) = 22 by decide)]
    rw [xW_hi ha, wOf_row hk (by decide) (by decide) hl, e]
    simp only [if_true]
  · by_cases h2 : n < q
    · obtain ⟨g1, g2⟩ := hr (q - (n + 1)) (by omega)
      rw [show n + 1 + (q - (n + 1)) = q by omega] at g1 g2
      rw [xW_hi (by omega), wOf_i0 g1 g2 (hz q h2 hq)]
      simp only [h1, if_false, h2, hq, and_self, if_true]
    · have : ¬ (n < q ∧ q < n + 1 + N) := fun z => h2 z.1
      simp only [h1, if_false, this]
/-- a reference into a final field of the object that is made -/
theorem x_putF {N : Nat} {C : String} {T : u_T} {ty : Nat → FieldType} {v : Nat} (j : Nat) (hd : decode mi.2.1 pc = .ok (.putfield idx, 3)) (hc : gCl c C T N ty) (hlk : Cond.fieldLink mi.1 idx (T j).1 (T j).2.1 (T j).2.2.1 ∈ lw_g) (ha : a < n) (hj : j < N) (hfin : (T j).2.2.2 = true) (hnm : mi.2.2.2.1 = "<init>") (hdecl : (T j).1 = mi.1) (hn : narrow (ty j) (.ref v) = .ref v) (hfit : fits (ty j) (.ref v) = true) (hlen : j < fs.length) {fs' : List Value} (hfs : fs.set j (.ref v) = fs')
    (k : G κ d mi (pc + 3) lv st n (xW κ a w μ c fs') cr sr Q) : G κ d mi pc lv (.ref v :: .ref (κ 0 + a) :: st) n (xW κ a w μ c fs) cr sr Q := by
  refine g_putF j hd hc hlk ha xW_at hj hfin hnm hdecl hn hfit hlen ?_
  rw [xW_put, hfs]
  exact k
theorem x_get {N : Nat} {C : String} {T : u_T} {ty : Nat → FieldType} {v : Value} (j : Nat) (hd : decode mi.2.1 pc = .ok (.getfield idx, 3)) (hc : gCl c C T N ty) (hlk : Cond.fieldLink mi.1 idx (T j).1 (T j).2.1 (T j).2.2.1 ∈ lw_g) (ha : a < n) (hj : j < N) (hv : fs[j]? = some v)
    (k : G κ d mi (pc + 3) lv (v :: st) n (xW κ a w μ c fs) cr sr Q) : G κ d mi pc lv (.ref (κ 0 + a) :: st) n (xW κ a w μ c fs) cr sr Q := g_get j hd hc hlk ha xW_at hj hv k
end GX
theorem xW_start {κ : Nat → Nat} {a : Nat} {w : gWd} {μ : gMem} {c : Nat} {fs : List Value} (h : w a = .inr (c, fs)) : ∀ q, q < a + 1 → w q = xW κ a w μ c fs q := by
  intro q hq
  by_cases h1 : q = a
  · subst h1; rw [xW_at, h]
  · rw [xW_lo (by omega)]
theorem wOf_w0 {κ : Nat → Nat} {μ : gMem} {a : Nat} (hk : kd a = 8) (hz : μ a = fun _ => 0) : wOf κ μ a = .inr (8, [.int 0, .int 0, .int 0, .int 0, .int 0]) := by
  rw [wOf_obj hk (by decide)]
  show (Sum.inr (8, ([.int (μ a 0), .int (μ a 1), .int (μ a 2), .int (μ a 3), .int (μ a 4)] : List Value)) : va_E) = _
  rw [hz]
theorem pw_st {κ : Nat → Nat} {a0 a c j : Nat} {w : gWd} {μ : gMem} {v : Int32} (h0 : a0 ≤ a) (hk : kd a = c) (hc : c < 11) (hr : rfO a c j = none) : va_up (pw κ a0 w μ) a (.inr (c, (gFs κ μ a c).set j (.int v))) = pw κ a0 w (st μ a j v) := by
  have e := wOf_stO (κ := κ) (μ := μ) (v := v) hk hc hr
  funext q
  have eq := congrFun e q
  by_cases h : q = a
  · subst h
    rw [up_eq] at eq ⊢
    unfold pw
    rw [if_neg (by omega), ← eq]
  · rw [up_ne h] at eq ⊢
    unfold pw
    rw [eq]
section GP
variable {κ : Nat → Nat} {d : Nat} {mi : gMI} {pc : Nat} {lv : List (Nat × Value)} {sk : List Value} {n : Nat} {w : gWd} {cr sr : Nat} {Q : gQ} {a a0 idx : Nat} {μ : gMem}
theorem p_putI {c nf : Nat} {C : String} {T : u_T} {ty : Nat → FieldType} {v : Int32} (j : Nat) (hc : gCl c C T nf ty) (hs : c < 11 ∧ j < nf ∧ j < nfL.getD c 0) (hr : ∀ a, rfO a c j = none) (ht : ty j = .int ∧ (T j).2.2.2 = false) (hlk : Cond.fieldLink mi.1 idx (T j).1 (T j).2.1 (T j).2.2.1 ∈ lw_g) (hd : decode mi.2.1 pc = .ok (.putfield idx, 3)) (h0 : a0 ≤ a) (ha : a < n) (hk : kd a = c)
    (k : G κ d mi (pc + 3) lv sk n (pw κ a0 w (st μ a j v)) cr sr Q) : G κ d mi pc lv (.int v :: .ref (κ 0 + a) :: sk) n (pw κ a0 w μ) cr sr Q := by
  refine g_put j hd hc hlk ha (by unfold pw; rw [if_neg (by omega)]; exact wOf_obj hk hs.1) hs.2.1 ht.2 (by rw [ht.1]; rfl) (by rw [ht.1]; rfl) (by simp [gFs]; simpa using hs.2.2) ?_
  rw [pw_st h0 hk hs.1 (hr a)]
  exact k
end GP
def Zm : gMem := fun _ _ => 0
def tT (μ : gMem) : gMem := st (st (st (st (st (st (st μ 1 1 0) 1 2 0) 1 3 3) 1 4 50) 1 5 2) 1 6 (-1)) 1 7 (-1)
theorem tT_z {q : Nat} (h : q ≠ 1) : tT Zm q = fun _ => 0 := by
  unfold tT
  rw [st_ne h, st_ne h, st_ne h, st_ne h, st_ne h, st_ne h, st_ne h]
  rfl

def gGet : List (Nat × Value) → Nat → Option Value
  | [], _ => none
  | (j, u) :: l, i => if j = i then some u else gGet l i
theorem gGet_mem {i : Nat} {v : Value} : ∀ {lv : List (Nat × Value)}, gGet lv i = some v → (i, v) ∈ lv
  | [], h => by cases h
  | (j, u) :: l, h => by
    unfold gGet at h
    by_cases hj : j = i
    · rw [if_pos hj] at h
      cases h
      subst hj
      exact List.mem_cons_self
    · rw [if_neg hj] at h
      exact List.mem_cons_of_mem _ (gGet_mem h)
def gIns : List (Nat × Value) → Nat → Value → List (Nat × Value)
  | [], i, v => [(i, v)]
  | (j, u) :: l, i, v => if j < i then (j, u) :: gIns l i v else if j = i then (i, v) :: l else (i, v) :: (j, u) :: l
theorem gIns_mem {i : Nat} {v : Value} {q : Nat × Value} : ∀ {l : List (Nat × Value)}, q ∈ gIns l i v → q = (i, v) ∨ q ∈ l
  | [], h => Or.inl (List.mem_singleton.mp h)
  | (j, u) :: l, h => by
    unfold gIns at h
    split at h
    · rcases List.mem_cons.mp h with h | h
      · exact Or.inr (by rw [h]; exact List.mem_cons_self)
      · rcases gIns_mem h with h | h
        · exact Or.inl h
        · exact Or.inr (List.mem_cons_of_mem _ h)
    · split at h
      · rcases List.mem_cons.mp h with h | h
        · exact Or.inl h
        · exact Or.inr (List.mem_cons_of_mem _ h)
      · rcases List.mem_cons.mp h with h | h
        · exact Or.inl h
        · exact Or.inr h
/-- the locals behind a store at i: of one word, of two -/
def gPut (lv : List (Nat × Value)) (i : Nat) (v : Value) : List (Nat × Value) := gIns (lv.filter (fun q => !(q.1 == i) && !(q.1 + 1 == i && q.2.category == 2))) i v
def gPut2 (lv : List (Nat × Value)) (i : Nat) (v : Value) : List (Nat × Value) := gIns (lv.filter (fun q => !(q.1 == i) && (!(q.1 == i + 1) && !(q.1 + 1 == i && q.2.category == 2)))) i v
theorem lv_has.le {ls : Array Slot} {nL : Nat} {l l' : List (Nat × Value)} (h : lv_has ls nL l) (hs : ∀ q ∈ l', q ∈ l) : lv_has ls nL l' := ⟨h.1, h.2.1, fun q hq => h.2.2 q (hs q hq)⟩
theorem gPut_le {lv : List (Nat × Value)} {i : Nat} {v : Value} : ∀ q ∈ gPut lv i v, q ∈ (i, v) :: lv.filter (fun q => !(q.1 == i) && !(q.1 + 1 == i && q.2.category == 2)) := fun _ h => (gIns_mem h).elim (fun z => by rw [z]; exact List.mem_cons_self) (fun z => List.mem_cons_of_mem _ z)
theorem gPut2_le {lv : List (Nat × Value)} {i : Nat} {v : Value} : ∀ q ∈ gPut2 lv i v, q ∈ (i, v) :: lv.filter (fun q => !(q.1 == i) && (!(q.1 == i + 1) && !(q.1 + 1 == i && q.2.category == 2))) := fun _ h => (gIns_mem h).elim (fun z => by rw [z]; exact List.mem_cons_self) (fun z => List.mem_cons_of_mem _ z)
section GR
variable {κ : Nat → Nat} {d : Nat} {mi : gMI} {pc : Nat} {lv : List (Nat × Value)} {st : List Value} {n : Nat} {w : gWd} {cr sr : Nat} {Q : gQ}
/-- the same locals, in another order, or fewer -/
theorem g_lv {lv' : List (Nat × Value)} (h : lv'.map (fun q => gGet lv q.1) = lv'.map (fun q => some q.2)) (k : G κ d mi pc lv' st n w cr sr Q) : G κ d mi pc lv st n w cr sr Q := by
  intro p l e R s m args below meth c H locs cells slots mc ms Z ls hX hl hw hS h1 h2 h3 h4 hE
  refine k p l e R s m args below meth c H locs cells slots mc ms Z ls hX (hl.le fun q hq => ?_) hw hS h1 h2 h3 h4 hE
  obtain ⟨i, hi⟩ := List.getElem?_of_mem hq
  have := congrArg (fun l : List (Option Value) => l[i]?) h
  simp only [List.getElem?_map, hi, Option.map_some] at this
  exact gGet_mem (Option.some.inj this)
theorem g_to {Q' : gQ} (h : ∀ v n' w', Q' v n' w' → Q v n' w') (k : G κ d mi pc lv st n w cr sr Q') : G κ d mi pc lv st n w cr sr Q := by
  intro p l e R s m args below meth c H locs cells slots mc ms Z ls hX hl hw hS h1 h2 h3 h4 hE
  exact k p l e R s m args below meth c H locs cells slots mc ms Z ls hX hl hw hS h1 h2 h3 h4 (fun H' locs' cells' slots' pc' ls' v n' w' a1 a2 a3 a4 a5 a6 => hE H' locs' cells' slots' pc' ls' v n' w' a1 a2 a3 a4 (h v n' w' a5) a6)
theorem g_iconst {n0 : Int} {v : Int32} (hd : decode mi.2.1 pc = .ok (.iconst n0, 1)) (hv : Int32.ofInt n0 = v) (k : G κ d mi (pc + 1) lv (.int v :: st) n w cr sr Q) : G κ d mi pc lv (st) n w cr sr Q := by
  intro p l e R s m args below meth c H locs cells slots mc ms Z ls hX hl hw hS h1 h2 h3 h4 hE
  exact lv_iconst hX.1 hX.2.1 hd hv (k p l e R s m args below meth c H locs cells slots mc ms Z ls hX hl hw hS h1 h2 h3 h4 hE)
theorem g_bipush {n0 : Int} {v : Int32} (hd : decode mi.2.1 pc = .ok (.bipush n0, 2)) (hv : (Int8.ofInt n0).toInt32 = v) (k : G κ d mi (pc + 2) lv (.int v :: st) n w cr sr Q) : G κ d mi pc lv (st) n w cr sr Q := by
  intro p l e R s m args below meth c H locs cells slots mc ms Z ls hX hl hw hS h1 h2 h3 h4 hE
  exact lv_bipush hX.1 hX.2.1 hd hv (k p l e R s m args below meth c H locs cells slots mc ms Z ls hX hl hw hS h1 h2 h3 h4 hE)
theorem g_sipush {n0 : Int} {v : Int32} (hd : decode mi.2.1 pc = .ok (.sipush n0, 3)) (hv : (Int16.ofInt n0).toInt32 = v) (k : G κ d mi (pc + 3) lv (.int v :: st) n w cr sr Q) : G κ d mi pc lv (st) n w cr sr Q := by
  intro p l e R s m args below meth c H locs cells slots mc ms Z ls hX hl hw hS h1 h2 h3 h4 hE
  exact lv_sipush hX.1 hX.2.1 hd hv (k p l e R s m args below meth c H locs cells slots mc ms Z ls hX hl hw hS h1 h2 h3 h4 hE)
theorem g_lconst {n0 : Fin 2} {v : Int64} (hd : decode mi.2.1 pc = .ok (.lconst n0, 1)) (hv : Int64.ofNat (n0 : Nat) = v) (k : G κ d mi (pc + 1) lv (.long v :: st) n w cr sr Q) : G κ d mi pc lv (st) n w cr sr Q := by
  intro p l e R s m args below meth c H locs cells slots mc ms Z ls hX hl hw hS h1 h2 h3 h4 hE
  exact lv_lconst hX.1 hX.2.1 hd hv (k p l e R s m args below meth c H locs cells slots mc ms Z ls hX hl hw hS h1 h2 h3 h4 hE)
theorem g_null (hd : decode mi.2.1 pc = .ok (.aconst_null, 1)) (k : G κ d mi (pc + 1) lv (.null :: st) n w cr sr Q) : G κ d mi pc lv (st) n w cr sr Q := by
  intro p l e R s m args below meth c H locs cells slots mc ms Z ls hX hl hw hS h1 h2 h3 h4 hE
  exact lv_null hX.1 hX.2.1 hd (k p l e R s m args below meth c H locs cells slots mc ms Z ls hX hl hw hS h1 h2 h3 h4 hE)
theorem g_iload_n {j : Fin 4} {i : Nat} {x : Int32} (hd : decode mi.2.1 pc = .ok (.iload_n j, 1)) (hj : (j : Nat) = i) (hg : gGet lv i = some (.int x)) (k : G κ d mi (pc + 1) lv (.int x :: st) n w cr sr Q) : G κ d mi pc lv (st) n w cr sr Q := by
  intro p l e R s m args below meth c H locs cells slots mc ms Z ls hX hl hw hS h1 h2 h3 h4 hE
  exact lv_iload_n hX.1 hX.2.1 hd hj (hl.2.2 _ (gGet_mem hg)) (k p l e R s m args below meth c H locs cells slots mc ms Z ls hX hl hw hS h1 h2 h3 h4 hE)
theorem g_iload {i : Nat} {x : Int32} (hd : decode mi.2.1 pc = .ok (.iload i, 2)) (hg : gGet lv i = some (.int x)) (k : G κ d mi (pc + 2) lv (.int x :: st) n w cr sr Q) : G κ d mi pc lv (st) n w cr sr Q := by
  intro p l e R s m args below meth c H locs cells slots mc ms Z ls hX hl hw hS h1 h2 h3 h4 hE
  exact lv_iload hX.1 hX.2.1 hd (hl.2.2 _ (gGet_mem hg)) (k p l e R s m args below meth c H locs cells slots mc ms Z ls hX hl hw hS h1 h2 h3 h4 hE)
theorem g_istore_n {j : Fin 4} {i : Nat} {x : Int32} (lv' : Int32 → List (Nat × Value)) (hd : decode mi.2.1 pc = .ok (.istore_n j, 1)) (hj : (j : Nat) = i) (hn : i < mi.2.2.1) (hl' : ∀ y, gPut lv i (.int y) = lv' y) (k : ∀ y : Int32, y = x → G κ d mi (pc + 1) (lv' y) st n w cr sr Q) : G κ d mi pc lv (.int x :: st) n w cr sr Q := by
  intro p l e R s m args below meth c H locs cells slots mc ms Z ls hX hl hw hS h1 h2 h3 h4 hE
  refine lv_istore_n hX.1 hX.2.1 hd hj hl hn rfl (fun ls2 hl2 => k x rfl p l e R s m args below meth c H locs cells slots mc ms Z ls2 hX (hl2.le ?_) hw hS h1 h2 h3 h4 hE)
  rw [← hl' x]
  exact gPut_le
theorem g_istore {i : Nat} {x : Int32} (lv' : Int32 → List (Nat × Value)) (hd : decode mi.2.1 pc = .ok (.istore i, 2)) (hn : i < mi.2.2.1) (hl' : ∀ y, gPut lv i (.int y) = lv' y) (k : ∀ y : Int32, y = x → G κ d mi (pc + 2) (lv' y) st n w cr sr Q) : G κ d mi pc lv (.int x :: st) n w cr sr Q := by
  intro p l e R s m args below meth c H locs cells slots mc ms Z ls hX hl hw hS h1 h2 h3 h4 hE
  refine lv_istore hX.1 hX.2.1 hd hl hn rfl (fun ls2 hl2 => k x rfl p l e R s m args below meth c H locs cells slots mc ms Z ls2 hX (hl2.le ?_) hw hS h1 h2 h3 h4 hE)
  rw [← hl' x]
  exact gPut_le
theorem g_lload_n {j : Fin 4} {i : Nat} {x : Int64} (hd : decode mi.2.1 pc = .ok (.lload_n j, 1)) (hj : (j : Nat) = i) (hg : gGet lv i = some (.long x)) (k : G κ d mi (pc + 1) lv (.long x :: st) n w cr sr Q) : G κ d mi pc lv (st) n w cr sr Q := by
  intro p l e R s m args below meth c H locs cells slots mc ms Z ls hX hl hw hS h1 h2 h3 h4 hE
  exact lv_lload_n hX.1 hX.2.1 hd hj (hl.2.2 _ (gGet_mem hg)) (k p l e R s m args below meth c H locs cells slots mc ms Z ls hX hl hw hS h1 h2 h3 h4 hE)
theorem g_lload {i : Nat} {x : Int64} (hd : decode mi.2.1 pc = .ok (.lload i, 2)) (hg : gGet lv i = some (.long x)) (k : G κ d mi (pc + 2) lv (.long x :: st) n w cr sr Q) : G κ d mi pc lv (st) n w cr sr Q := by
  intro p l e R s m args below meth c H locs cells slots mc ms Z ls hX hl hw hS h1 h2 h3 h4 hE
  exact lv_lload hX.1 hX.2.1 hd (hl.2.2 _ (gGet_mem hg)) (k p l e R s m args below meth c H locs cells slots mc ms Z ls hX hl hw hS h1 h2 h3 h4 hE)
theorem g_lstore_n {j : Fin 4} {i : Nat} {x : Int64} (lv' : Int64 → List (Nat × Value)) (hd : decode mi.2.1 pc = .ok (.lstore_n j, 1)) (hj : (j : Nat) = i) (hn : i + 1 < mi.2.2.1) (hl' : ∀ y, gPut2 lv i (.long y) = lv' y) (k : ∀ y : Int64, y = x → G κ d mi (pc + 1) (lv' y) st n w cr sr Q) : G κ d mi pc lv (.long x :: st) n w cr sr Q := by
  intro p l e R s m args below meth c H locs cells slots mc ms Z ls hX hl hw hS h1 h2 h3 h4 hE
  refine lv_lstore_n hX.1 hX.2.1 hd hj hl hn rfl (fun ls2 hl2 => k x rfl p l e R s m args below meth c H locs cells slots mc ms Z ls2 hX (hl2.le ?_) hw hS h1 h2 h3 h4 hE)
  rw [← hl' x]
  exact gPut2_le
theorem g_lstore {i : Nat} {x : Int64} (lv' : Int64 → List (Nat × Value)) (hd : decode mi.2.1 pc = .ok (.lstore i, 2)) (hn : i + 1 < mi.2.2.1) (hl' : ∀ y, gPut2 lv i (.long y) = lv' y) (k : ∀ y : Int64, y = x → G κ d mi (pc + 2) (lv' y) st n w cr sr Q) : G κ d mi pc lv (.long x :: st) n w cr sr Q := by
  intro p l e R s m args below meth c H locs cells slots mc ms Z ls hX hl hw hS h1 h2 h3 h4 hE
  refine lv_lstore hX.1 hX.2.1 hd hl hn rfl (fun ls2 hl2 => k x rfl p l e R s m args below meth c H locs cells slots mc ms Z ls2 hX (hl2.le ?_) hw hS h1 h2 h3 h4 hE)
  rw [← hl' x]
  exact gPut2_le
theorem g_aload_n {j : Fin 4} {i : Nat} {x : Nat} (hd : decode mi.2.1 pc = .ok (.aload_n j, 1)) (hj : (j : Nat) = i) (hg : gGet lv i = some (.ref x)) (k : G κ d mi (pc + 1) lv (.ref x :: st) n w cr sr Q) : G κ d mi pc lv (st) n w cr sr Q := by
  intro p l e R s m args below meth c H locs cells slots mc ms Z ls hX hl hw hS h1 h2 h3 h4 hE
  exact lv_aload_n hX.1 hX.2.1 hd hj (hl.2.2 _ (gGet_mem hg)) (k p l e R s m args below meth c H locs cells slots mc ms Z ls hX hl hw hS h1 h2 h3 h4 hE)
theorem g_aload {i : Nat} {x : Nat} (hd : decode mi.2.1 pc = .ok (.aload i, 2)) (hg : gGet lv i = some (.ref x)) (k : G κ d mi (pc + 2) lv (.ref x :: st) n w cr sr Q) : G κ d mi pc lv (st) n w cr sr Q := by
  intro p l e R s m args below meth c H locs cells slots mc ms Z ls hX hl hw hS h1 h2 h3 h4 hE
  exact lv_aload hX.1 hX.2.1 hd (hl.2.2 _ (gGet_mem hg)) (k p l e R s m args below meth c H locs cells slots mc ms Z ls hX hl hw hS h1 h2 h3 h4 hE)
theorem g_astore_n {j : Fin 4} {i : Nat} {x : Nat} (lv' : Nat → List (Nat × Value)) (hd : decode mi.2.1 pc = .ok (.astore_n j, 1)) (hj : (j : Nat) = i) (hn : i < mi.2.2.1) (hl' : ∀ y, gPut lv i (.ref y) = lv' y) (k : ∀ y : Nat, y = x → G κ d mi (pc + 1) (lv' y) st n w cr sr Q) : G κ d mi pc lv (.ref x :: st) n w cr sr Q := by
  intro p l e R s m args below meth c H locs cells slots mc ms Z ls hX hl hw hS h1 h2 h3 h4 hE
  refine lv_astore_n hX.1 hX.2.1 hd hj hl hn rfl (fun ls2 hl2 => k x rfl p l e R s m args below meth c H locs cells slots mc ms Z ls2 hX (hl2.le ?_) hw hS h1 h2 h3 h4 hE)
  rw [← hl' x]
  exact gPut_le
theorem g_astore {i : Nat} {x : Nat} (lv' : Nat → List (Nat × Value)) (hd : decode mi.2.1 pc = .ok (.astore i, 2)) (hn : i < mi.2.2.1) (hl' : ∀ y, gPut lv i (.ref y) = lv' y) (k : ∀ y : Nat, y = x → G κ d mi (pc + 2) (lv' y) st n w cr sr Q) : G κ d mi pc lv (.ref x :: st) n w cr sr Q := by
  intro p l e R s m args below meth c H locs cells slots mc ms Z ls hX hl hw hS h1 h2 h3 h4 hE
  refine lv_astore hX.1 hX.2.1 hd hl hn rfl (fun ls2 hl2 => k x rfl p l e R s m args below meth c H locs cells slots mc ms Z ls2 hX (hl2.le ?_) hw hS h1 h2 h3 h4 hE)
  rw [← hl' x]
  exact gPut_le
theorem g_iinc {i : Nat} {n0 : Int} {x : Int32} (lv' : Int32 → List (Nat × Value)) (hd : decode mi.2.1 pc = .ok (.iinc i n0, 3)) (hg : gGet lv i = some (.int x)) (hn : i < mi.2.2.1) (hl' : ∀ y, gPut lv i (.int y) = lv' y) (k : ∀ y : Int32, y = x + Int32.ofInt n0 → G κ d mi (pc + 3) (lv' y) st n w cr sr Q) : G κ d mi pc lv st n w cr sr Q := by
  intro p l e R s m args below meth c H locs cells slots mc ms Z ls hX hl hw hS h1 h2 h3 h4 hE
  obtain ⟨q, hq⟩ := List.getElem?_of_mem (gGet_mem hg)
  refine lv_iinc (v := x + Int32.ofInt n0) hX.1 hX.2.1 hd hl hq rfl hn rfl (fun ls2 hl2 => k _ rfl p l e R s m args below meth c H locs cells slots mc ms Z ls2 hX (hl2.le ?_) hw hS h1 h2 h3 h4 hE)
  rw [← hl' _]
  exact gPut_le
theorem g_iadd {x y : Int32} (hd : decode mi.2.1 pc = .ok (.iadd, 1)) (k : G κ d mi (pc + 1) lv (.int (x + y) :: st) n w cr sr Q) : G κ d mi pc lv (.int y :: .int x :: st) n w cr sr Q := by
  intro p l e R s m args below meth c H locs cells slots mc ms Z ls hX hl hw hS h1 h2 h3 h4 hE
  exact lv_iadd hX.1 hX.2.1 hd (k p l e R s m args below meth c H locs cells slots mc ms Z ls hX hl hw hS h1 h2 h3 h4 hE)
theorem g_isub {x y : Int32} (hd : decode mi.2.1 pc = .ok (.isub, 1)) (k : G κ d mi (pc + 1) lv (.int (x - y) :: st) n w cr sr Q) : G κ d mi pc lv (.int y :: .int x :: st) n w cr sr Q := by
  intro p l e R s m args below meth c H locs cells slots mc ms Z ls hX hl hw hS h1 h2 h3 h4 hE
  exact lv_isub hX.1 hX.2.1 hd (k p l e R s m args below meth c H locs cells slots mc ms Z ls hX hl hw hS h1 h2 h3 h4 hE)
theorem g_imul {x y : Int32} (hd : decode mi.2.1 pc = .ok (.imul, 1)) (k : G κ d mi (pc + 1) lv (.int (x * y) :: st) n w cr sr Q) : G κ d mi pc lv (.int y :: .int x :: st) n w cr sr Q := by
  intro p l e R s m args below meth c H locs cells slots mc ms Z ls hX hl hw hS h1 h2 h3 h4 hE
  exact lv_imul hX.1 hX.2.1 hd (k p l e R s m args below meth c H locs cells slots mc ms Z ls hX hl hw hS h1 h2 h3 h4 hE)
theorem g_iand {x y : Int32} (hd : decode mi.2.1 pc = .ok (.iand, 1)) (k : G κ d mi (pc + 1) lv (.int (x &&& y) :: st) n w cr sr Q) : G κ d mi pc lv (.int y :: .int x :: st) n w cr sr Q := by
  intro p l e R s m args below meth c H locs cells slots mc ms Z ls hX hl hw hS h1 h2 h3 h4 hE
  exact lv_iand hX.1 hX.2.1 hd (k p l e R s m args below meth c H locs cells slots mc ms Z ls hX hl hw hS h1 h2 h3 h4 hE)
theorem g_ior {x y : Int32} (hd : decode mi.2.1 pc = .ok (.ior, 1)) (k : G κ d mi (pc + 1) lv (.int (x ||| y) :: st) n w cr sr Q) : G κ d mi pc lv (.int y :: .int x :: st) n w cr sr Q := by
  intro p l e R s m args below meth c H locs cells slots mc ms Z ls hX hl hw hS h1 h2 h3 h4 hE
  exact lv_ior hX.1 hX.2.1 hd (k p l e R s m args below meth c H locs cells slots mc ms Z ls hX hl hw hS h1 h2 h3 h4 hE)
theorem g_ixor {x y : Int32} (hd : decode mi.2.1 pc = .ok (.ixor, 1)) (k : G κ d mi (pc + 1) lv (.int (x ^^^ y) :: st) n w cr sr Q) : G κ d mi pc lv (.int y :: .int x :: st) n w cr sr Q := by
  intro p l e R s m args below meth c H locs cells slots mc ms Z ls hX hl hw hS h1 h2 h3 h4 hE
  exact lv_ixor hX.1 hX.2.1 hd (k p l e R s m args below meth c H locs cells slots mc ms Z ls hX hl hw hS h1 h2 h3 h4 hE)
theorem g_ishl {x y : Int32} (hd : decode mi.2.1 pc = .ok (.ishl, 1)) (k : G κ d mi (pc + 1) lv (.int (x <<< (y &&& 31)) :: st) n w cr sr Q) : G κ d mi pc lv (.int y :: .int x :: st) n w cr sr Q := by
  intro p l e R s m args below meth c H locs cells slots mc ms Z ls hX hl hw hS h1 h2 h3 h4 hE
  exact lv_ishl hX.1 hX.2.1 hd (k p l e R s m args below meth c H locs cells slots mc ms Z ls hX hl hw hS h1 h2 h3 h4 hE)
theorem g_ishr {x y : Int32} (hd : decode mi.2.1 pc = .ok (.ishr, 1)) (k : G κ d mi (pc + 1) lv (.int (x >>> (y &&& 31)) :: st) n w cr sr Q) : G κ d mi pc lv (.int y :: .int x :: st) n w cr sr Q := by
  intro p l e R s m args below meth c H locs cells slots mc ms Z ls hX hl hw hS h1 h2 h3 h4 hE
  exact lv_ishr hX.1 hX.2.1 hd (k p l e R s m args below meth c H locs cells slots mc ms Z ls hX hl hw hS h1 h2 h3 h4 hE)
theorem g_idiv {x y : Int32} (hd : decode mi.2.1 pc = .ok (.idiv, 1)) (hne : ¬ y = 0) (k : G κ d mi (pc + 1) lv (.int (x / y) :: st) n w cr sr Q) : G κ d mi pc lv (.int y :: .int x :: st) n w cr sr Q := by
  intro p l e R s m args below meth c H locs cells slots mc ms Z ls hX hl hw hS h1 h2 h3 h4 hE
  exact lv_idiv hX.1 hX.2.1 hd hne (k p l e R s m args below meth c H locs cells slots mc ms Z ls hX hl hw hS h1 h2 h3 h4 hE)
theorem g_irem {x y : Int32} (hd : decode mi.2.1 pc = .ok (.irem, 1)) (hne : ¬ y = 0) (k : G κ d mi (pc + 1) lv (.int (x - x / y * y) :: st) n w cr sr Q) : G κ d mi pc lv (.int y :: .int x :: st) n w cr sr Q := by
  intro p l e R s m args below meth c H locs cells slots mc ms Z ls hX hl hw hS h1 h2 h3 h4 hE
  exact lv_irem hX.1 hX.2.1 hd hne (k p l e R s m args below meth c H locs cells slots mc ms Z ls hX hl hw hS h1 h2 h3 h4 hE)
theorem g_ladd {x y : Int64} (hd : decode mi.2.1 pc = .ok (.ladd, 1)) (k : G κ d mi (pc + 1) lv (.long (x + y) :: st) n w cr sr Q) : G κ d mi pc lv (.long y :: .long x :: st) n w cr sr Q := by
  intro p l e R s m args below meth c H locs cells slots mc ms Z ls hX hl hw hS h1 h2 h3 h4 hE
  exact lv_ladd hX.1 hX.2.1 hd (k p l e R s m args below meth c H locs cells slots mc ms Z ls hX hl hw hS h1 h2 h3 h4 hE)
theorem g_lsub {x y : Int64} (hd : decode mi.2.1 pc = .ok (.lsub, 1)) (k : G κ d mi (pc + 1) lv (.long (x - y) :: st) n w cr sr Q) : G κ d mi pc lv (.long y :: .long x :: st) n w cr sr Q := by
  intro p l e R s m args below meth c H locs cells slots mc ms Z ls hX hl hw hS h1 h2 h3 h4 hE
  exact lv_lsub hX.1 hX.2.1 hd (k p l e R s m args below meth c H locs cells slots mc ms Z ls hX hl hw hS h1 h2 h3 h4 hE)
theorem g_lmul {x y : Int64} (hd : decode mi.2.1 pc = .ok (.lmul, 1)) (k : G κ d mi (pc + 1) lv (.long (x * y) :: st) n w cr sr Q) : G κ d mi pc lv (.long y :: .long x :: st) n w cr sr Q := by
  intro p l e R s m args below meth c H locs cells slots mc ms Z ls hX hl hw hS h1 h2 h3 h4 hE
  exact lv_lmul hX.1 hX.2.1 hd (k p l e R s m args below meth c H locs cells slots mc ms Z ls hX hl hw hS h1 h2 h3 h4 hE)
theorem g_lcmp {x y : Int64} (hd : decode mi.2.1 pc = .ok (.lcmp, 1)) (k : G κ d mi (pc + 1) lv (.int (lg_cmp x y) :: st) n w cr sr Q) : G κ d mi pc lv (.long y :: .long x :: st) n w cr sr Q := by
  intro p l e R s m args below meth c H locs cells slots mc ms Z ls hX hl hw hS h1 h2 h3 h4 hE
  exact W.lcmp hX.1 hX.2.1 hd (k p l e R s m args below meth c H locs cells slots mc ms Z ls hX hl hw hS h1 h2 h3 h4 hE)
theorem g_i2l {x : Int32} (hd : decode mi.2.1 pc = .ok (.i2l, 1)) (k : G κ d mi (pc + 1) lv (.long x.toInt64 :: st) n w cr sr Q) : G κ d mi pc lv (.int x :: st) n w cr sr Q := by
  intro p l e R s m args below meth c H locs cells slots mc ms Z ls hX hl hw hS h1 h2 h3 h4 hE
  exact lv_i2l hX.1 hX.2.1 hd rfl (k p l e R s m args below meth c H locs cells slots mc ms Z ls hX hl hw hS h1 h2 h3 h4 hE)
theorem g_i2c {x : Int32} (hd : decode mi.2.1 pc = .ok (.i2c, 1)) (k : G κ d mi (pc + 1) lv (.int (x.toUInt32 % 65536).toInt32 :: st) n w cr sr Q) : G κ d mi pc lv (.int x :: st) n w cr sr Q := by
  intro p l e R s m args below meth c H locs cells slots mc ms Z ls hX hl hw hS h1 h2 h3 h4 hE
  exact lv_i2c hX.1 hX.2.1 hd rfl (k p l e R s m args below meth c H locs cells slots mc ms Z ls hX hl hw hS h1 h2 h3 h4 hE)
theorem g_iushr {x y : Int32} (hd : decode mi.2.1 pc = .ok (.iushr, 1)) (k : G κ d mi (pc + 1) lv (.int (x.toUInt32 >>> (y.toUInt32 &&& Int32.toUInt32 31)).toInt32 :: st) n w cr sr Q) : G κ d mi pc lv (.int y :: .int x :: st) n w cr sr Q := by
  intro p l e R s m args below meth c H locs cells slots mc ms Z ls hX hl hw hS h1 h2 h3 h4 hE
  exact lv_iushr hX.1 hX.2.1 hd rfl (k p l e R s m args below meth c H locs cells slots mc ms Z ls hX hl hw hS h1 h2 h3 h4 hE)
theorem g_dup {u : Value} (hd : decode mi.2.1 pc = .ok (.dup, 1)) (hu : u.category = 1) (k : G κ d mi (pc + 1) lv (u :: u :: st) n w cr sr Q) : G κ d mi pc lv (u :: st) n w cr sr Q := by
  intro p l e R s m args below meth c H locs cells slots mc ms Z ls hX hl hw hS h1 h2 h3 h4 hE
  exact lv_dup hX.1 hX.2.1 hd hu (k p l e R s m args below meth c H locs cells slots mc ms Z ls hX hl hw hS h1 h2 h3 h4 hE)
theorem g_pop {u : Value} (hd : decode mi.2.1 pc = .ok (.pop, 1)) (hu : u.category = 1) (k : G κ d mi (pc + 1) lv (st) n w cr sr Q) : G κ d mi pc lv (u :: st) n w cr sr Q := by
  intro p l e R s m args below meth c H locs cells slots mc ms Z ls hX hl hw hS h1 h2 h3 h4 hE
  exact lv_pop hX.1 hX.2.1 hd hu (k p l e R s m args below meth c H locs cells slots mc ms Z ls hX hl hw hS h1 h2 h3 h4 hE)
theorem g_dup2 {u v : Value} (hd : decode mi.2.1 pc = .ok (.dup2, 1)) (hu : u.category = 1) (hv : v.category = 1) (k : G κ d mi (pc + 1) lv (u :: v :: u :: v :: st) n w cr sr Q) : G κ d mi pc lv (u :: v :: st) n w cr sr Q := by
  intro p l e R s m args below meth c H locs cells slots mc ms Z ls hX hl hw hS h1 h2 h3 h4 hE
  exact lv_dup2_11 hX.1 hX.2.1 hd hu hv (k p l e R s m args below meth c H locs cells slots mc ms Z ls hX hl hw hS h1 h2 h3 h4 hE)
theorem g_ni {x : Int32} (k : ∀ y : Int32, y = x → G κ d mi pc lv (.int y :: st) n w cr sr Q) : G κ d mi pc lv (.int x :: st) n w cr sr Q := k x rfl
theorem g_nl {x : Int64} (k : ∀ y : Int64, y = x → G κ d mi pc lv (.long y :: st) n w cr sr Q) : G κ d mi pc lv (.long x :: st) n w cr sr Q := k x rfl
theorem g_if_eq {x : Int32} {off : Int} (tgt : Nat) (hd : decode mi.2.1 pc = .ok (.ifCond .eq off, 3)) (ht : (pc : Int) + off = (tgt : Int)) (kt : x = 0 → G κ d mi tgt lv st n w cr sr Q) (kf : ¬ x = 0 → G κ d mi (pc + 3) lv st n w cr sr Q) : G κ d mi pc lv (.int x :: st) n w cr sr Q := by
  intro p l e R s m args below meth c H locs cells slots mc ms Z ls hX hl hw hS h1 h2 h3 h4 hE
  exact lv_if_eq hX.1 hX.2.1 hd ht (fun z => kt z p l e R s m args below meth c H locs cells slots mc ms Z ls hX hl hw hS h1 h2 h3 h4 hE) (fun z => kf z p l e R s m args below meth c H locs cells slots mc ms Z ls hX hl hw hS h1 h2 h3 h4 hE)
theorem g_icmp_eq {x y : Int32} {off : Int} (tgt : Nat) (hd : decode mi.2.1 pc = .ok (.if_icmp .eq off, 3)) (ht : (pc : Int) + off = (tgt : Int)) (kt : x = y → G κ d mi tgt lv st n w cr sr Q) (kf : ¬ x = y → G κ d mi (pc + 3) lv st n w cr sr Q) : G κ d mi pc lv (.int y :: .int x :: st) n w cr sr Q := by
  intro p l e R s m args below meth c H locs cells slots mc ms Z ls hX hl hw hS h1 h2 h3 h4 hE
  exact lv_icmp_eq hX.1 hX.2.1 hd ht (fun z => kt z p l e R s m args below meth c H locs cells slots mc ms Z ls hX hl hw hS h1 h2 h3 h4 hE) (fun z => kf z p l e R s m args below meth c H locs cells slots mc ms Z ls hX hl hw hS h1 h2 h3 h4 hE)
theorem g_if_lt {x : Int32} {off : Int} (tgt : Nat) (hd : decode mi.2.1 pc = .ok (.ifCond .lt off, 3)) (ht : (pc : Int) + off = (tgt : Int)) (kt : x < 0 → G κ d mi tgt lv st n w cr sr Q) (kf : ¬ x < 0 → G κ d mi (pc + 3) lv st n w cr sr Q) : G κ d mi pc lv (.int x :: st) n w cr sr Q := by
  intro p l e R s m args below meth c H locs cells slots mc ms Z ls hX hl hw hS h1 h2 h3 h4 hE
  exact lv_if_lt hX.1 hX.2.1 hd ht (fun z => kt z p l e R s m args below meth c H locs cells slots mc ms Z ls hX hl hw hS h1 h2 h3 h4 hE) (fun z => kf z p l e R s m args below meth c H locs cells slots mc ms Z ls hX hl hw hS h1 h2 h3 h4 hE)
theorem g_icmp_lt {x y : Int32} {off : Int} (tgt : Nat) (hd : decode mi.2.1 pc = .ok (.if_icmp .lt off, 3)) (ht : (pc : Int) + off = (tgt : Int)) (kt : x < y → G κ d mi tgt lv st n w cr sr Q) (kf : ¬ x < y → G κ d mi (pc + 3) lv st n w cr sr Q) : G κ d mi pc lv (.int y :: .int x :: st) n w cr sr Q := by
  intro p l e R s m args below meth c H locs cells slots mc ms Z ls hX hl hw hS h1 h2 h3 h4 hE
  exact lv_icmp_lt hX.1 hX.2.1 hd ht (fun z => kt z p l e R s m args below meth c H locs cells slots mc ms Z ls hX hl hw hS h1 h2 h3 h4 hE) (fun z => kf z p l e R s m args below meth c H locs cells slots mc ms Z ls hX hl hw hS h1 h2 h3 h4 hE)
theorem g_if_ge {x : Int32} {off : Int} (tgt : Nat) (hd : decode mi.2.1 pc = .ok (.ifCond .ge off, 3)) (ht : (pc : Int) + off = (tgt : Int)) (kt : 0 ≤ x → G κ d mi tgt lv st n w cr sr Q) (kf : ¬ 0 ≤ x → G κ d mi (pc + 3) lv st n w cr sr Q) : G κ d mi pc lv (.int x :: st) n w cr sr Q := by
  intro p l e R s m args below meth c H locs cells slots mc ms Z ls hX hl hw hS h1 h2 h3 h4 hE
  exact lv_if_ge hX.1 hX.2.1 hd ht (fun z => kt z p l e R s m args below meth c H locs cells slots mc ms Z ls hX hl hw hS h1 h2 h3 h4 hE) (fun z => kf z p l e R s m args below meth c H locs cells slots mc ms Z ls hX hl hw hS h1 h2 h3 h4 hE)
theorem g_icmp_ge {x y : Int32} {off : Int} (tgt : Nat) (hd : decode mi.2.1 pc = .ok (.if_icmp .ge off, 3)) (ht : (pc : Int) + off = (tgt : Int)) (kt : y ≤ x → G κ d mi tgt lv st n w cr sr Q) (kf : ¬ y ≤ x → G κ d mi (pc + 3) lv st n w cr sr Q) : G κ d mi pc lv (.int y :: .int x :: st) n w cr sr Q := by
  intro p l e R s m args below meth c H locs cells slots mc ms Z ls hX hl hw hS h1 h2 h3 h4 hE
  exact lv_icmp_ge hX.1 hX.2.1 hd ht (fun z => kt z p l e R s m args below meth c H locs cells slots mc ms Z ls hX hl hw hS h1 h2 h3 h4 hE) (fun z => kf z p l e R s m args below meth c H locs cells slots mc ms Z ls hX hl hw hS h1 h2 h3 h4 hE)
theorem g_if_gt {x : Int32} {off : Int} (tgt : Nat) (hd : decode mi.2.1 pc = .ok (.ifCond .gt off, 3)) (ht : (pc : Int) + off = (tgt : Int)) (kt : 0 < x → G κ d mi tgt lv st n w cr sr Q) (kf : ¬ 0 < x → G κ d mi (pc + 3) lv st n w cr sr Q) : G κ d mi pc lv (.int x :: st) n w cr sr Q := by
  intro p l e R s m args below meth c H locs cells slots mc ms Z ls hX hl hw hS h1 h2 h3 h4 hE
  exact lv_if_gt hX.1 hX.2.1 hd ht (fun z => kt z p l e R s m args below meth c H locs cells slots mc ms Z ls hX hl hw hS h1 h2 h3 h4 hE) (fun z => kf z p l e R s m args below meth c H locs cells slots mc ms Z ls hX hl hw hS h1 h2 h3 h4 hE)
theorem g_icmp_gt {x y : Int32} {off : Int} (tgt : Nat) (hd : decode mi.2.1 pc = .ok (.if_icmp .gt off, 3)) (ht : (pc : Int) + off = (tgt : Int)) (kt : y < x → G κ d mi tgt lv st n w cr sr Q) (kf : ¬ y < x → G κ d mi (pc + 3) lv st n w cr sr Q) : G κ d mi pc lv (.int y :: .int x :: st) n w cr sr Q := by
  intro p l e R s m args below meth c H locs cells slots mc ms Z ls hX hl hw hS h1 h2 h3 h4 hE
  exact lv_icmp_gt hX.1 hX.2.1 hd ht (fun z => kt z p l e R s m args below meth c H locs cells slots mc ms Z ls hX hl hw hS h1 h2 h3 h4 hE) (fun z => kf z p l e R s m args below meth c H locs cells slots mc ms Z ls hX hl hw hS h1 h2 h3 h4 hE)
theorem g_if_le {x : Int32} {off : Int} (tgt : Nat) (hd : decode mi.2.1 pc = .ok (.ifCond .le off, 3)) (ht : (pc : Int) + off = (tgt : Int)) (kt : x ≤ 0 → G κ d mi tgt lv st n w cr sr Q) (kf : ¬ x ≤ 0 → G κ d mi (pc + 3) lv st n w cr sr Q) : G κ d mi pc lv (.int x :: st) n w cr sr Q := by
  intro p l e R s m args below meth c H locs cells slots mc ms Z ls hX hl hw hS h1 h2 h3 h4 hE
  exact lv_if_le hX.1 hX.2.1 hd ht (fun z => kt z p l e R s m args below meth c H locs cells slots mc ms Z ls hX hl hw hS h1 h2 h3 h4 hE) (fun z => kf z p l e R s m args below meth c H locs cells slots mc ms Z ls hX hl hw hS h1 h2 h3 h4 hE)
theorem g_icmp_le {x y : Int32} {off : Int} (tgt : Nat) (hd : decode mi.2.1 pc = .ok (.if_icmp .le off, 3)) (ht : (pc : Int) + off = (tgt : Int)) (kt : x ≤ y → G κ d mi tgt lv st n w cr sr Q) (kf : ¬ x ≤ y → G κ d mi (pc + 3) lv st n w cr sr Q) : G κ d mi pc lv (.int y :: .int x :: st) n w cr sr Q := by
  intro p l e R s m args below meth c H locs cells slots mc ms Z ls hX hl hw hS h1 h2 h3 h4 hE
  exact lv_icmp_le hX.1 hX.2.1 hd ht (fun z => kt z p l e R s m args below meth c H locs cells slots mc ms Z ls hX hl hw hS h1 h2 h3 h4 hE) (fun z => kf z p l e R s m args below meth c H locs cells slots mc ms Z ls hX hl hw hS h1 h2 h3 h4 hE)
theorem g_if_ne {x : Int32} {off : Int} (tgt : Nat) (hd : decode mi.2.1 pc = .ok (.ifCond .ne off, 3)) (ht : (pc : Int) + off = (tgt : Int)) (kt : ¬ x = 0 → G κ d mi tgt lv st n w cr sr Q) (kf : x = 0 → G κ d mi (pc + 3) lv st n w cr sr Q) : G κ d mi pc lv (.int x :: st) n w cr sr Q := by
  intro p l e R s m args below meth c H locs cells slots mc ms Z ls hX hl hw hS h1 h2 h3 h4 hE
  exact lv_if_ne hX.1 hX.2.1 hd ht (fun z => kt z p l e R s m args below meth c H locs cells slots mc ms Z ls hX hl hw hS h1 h2 h3 h4 hE) (fun z => kf z p l e R s m args below meth c H locs cells slots mc ms Z ls hX hl hw hS h1 h2 h3 h4 hE)
theorem g_icmp_ne {x y : Int32} {off : Int} (tgt : Nat) (hd : decode mi.2.1 pc = .ok (.if_icmp .ne off, 3)) (ht : (pc : Int) + off = (tgt : Int)) (kt : ¬ x = y → G κ d mi tgt lv st n w cr sr Q) (kf : x = y → G κ d mi (pc + 3) lv st n w cr sr Q) : G κ d mi pc lv (.int y :: .int x :: st) n w cr sr Q := by
  intro p l e R s m args below meth c H locs cells slots mc ms Z ls hX hl hw hS h1 h2 h3 h4 hE
  exact lv_icmp_ne hX.1 hX.2.1 hd ht (fun z => kt z p l e R s m args below meth c H locs cells slots mc ms Z ls hX hl hw hS h1 h2 h3 h4 hE) (fun z => kf z p l e R s m args below meth c H locs cells slots mc ms Z ls hX hl hw hS h1 h2 h3 h4 hE)
theorem g_goto {off : Int} (tgt : Nat) (hd : decode mi.2.1 pc = .ok (.goto off, 3)) (ht : (pc : Int) + off = (tgt : Int)) (k : G κ d mi tgt lv st n w cr sr Q) : G κ d mi pc lv st n w cr sr Q := by
  intro p l e R s m args below meth c H locs cells slots mc ms Z ls hX hl hw hS h1 h2 h3 h4 hE
  exact lv_goto hX.1 hX.2.1 hd ht (k p l e R s m args below meth c H locs cells slots mc ms Z ls hX hl hw hS h1 h2 h3 h4 hE)
theorem g_ifnull {x : Nat} {off : Int} (hd : decode mi.2.1 pc = .ok (.ifnull off, 3)) (k : G κ d mi (pc + 3) lv st n w cr sr Q) : G κ d mi pc lv (.ref x :: st) n w cr sr Q := by
  intro p l e R s m args below meth c H locs cells slots mc ms Z ls hX hl hw hS h1 h2 h3 h4 hE
  exact lv_ifnull hX.1 hX.2.1 hd (k p l e R s m args below meth c H locs cells slots mc ms Z ls hX hl hw hS h1 h2 h3 h4 hE)
theorem g_ifnullN {off : Int} (tgt : Nat) (hd : decode mi.2.1 pc = .ok (.ifnull off, 3)) (ht : (pc : Int) + off = (tgt : Int)) (k : G κ d mi tgt lv st n w cr sr Q) : G κ d mi pc lv (.null :: st) n w cr sr Q := by
  intro p l e R s m args below meth c H locs cells slots mc ms Z ls hX hl hw hS h1 h2 h3 h4 hE
  exact lv_ifnullN hX.1 hX.2.1 hd ht (k p l e R s m args below meth c H locs cells slots mc ms Z ls hX hl hw hS h1 h2 h3 h4 hE)
theorem g_tableOut {dflt lo hi : Int} {offs : Array Int} {len : Nat} {x : Int32} (tgt : Nat) (hd : decode mi.2.1 pc = .ok (.tableswitch dflt lo hi offs, len)) (h : x.toInt < lo ∨ hi < x.toInt) (ht : (pc : Int) + dflt = (tgt : Int)) (k : G κ d mi tgt lv st n w cr sr Q) : G κ d mi pc lv (.int x :: st) n w cr sr Q := by
  intro p l e R s m args below meth c H locs cells slots mc ms Z ls hX hl hw hS h1 h2 h3 h4 hE
  exact lv_tableOut hX.1 hX.2.1 hd h ht (k p l e R s m args below meth c H locs cells slots mc ms Z ls hX hl hw hS h1 h2 h3 h4 hE)
theorem g_tableIn {dflt lo hi : Int} {offs : Array Int} {len : Nat} {x : Int32} {off : Int} (tgt : Nat) (hd : decode mi.2.1 pc = .ok (.tableswitch dflt lo hi offs, len)) (h5 : ¬ x.toInt < lo) (h6 : ¬ hi < x.toInt) (ho : offs[(x.toInt - lo).toNat]? = some off) (ht : (pc : Int) + off = (tgt : Int)) (k : G κ d mi tgt lv st n w cr sr Q) : G κ d mi pc lv (.int x :: st) n w cr sr Q := by
  intro p l e R s m args below meth c H locs cells slots mc ms Z ls hX hl hw hS h1 h2 h3 h4 hE
  exact lv_tableIn hX.1 hX.2.1 hd h5 h6 ho ht (k p l e R s m args below meth c H locs cells slots mc ms Z ls hX hl hw hS h1 h2 h3 h4 hE)
theorem g_lookup {dflt : Int} {ps : Array (Int × Int)} {len : Nat} {x : Int32} {off : Int} (tgt : Nat) (hd : decode mi.2.1 pc = .ok (.lookupswitch dflt ps, len)) (hp : (ps.toList.zip (ps.toList.drop 1)).all (fun (a, next) => a.1 < next.1) = true) (ho : Op.lookupswitch.offset ps.toList dflt x.toInt = off) (ht : (pc : Int) + off = (tgt : Int)) (k : G κ d mi tgt lv st n w cr sr Q) : G κ d mi pc lv (.int x :: st) n w cr sr Q := by
  intro p l e R s m args below meth c H locs cells slots mc ms Z ls hX hl hw hS h1 h2 h3 h4 hE
  exact lv_lookup hX.1 hX.2.1 hd hp ho ht (k p l e R s m args below meth c H locs cells slots mc ms Z ls hX hl hw hS h1 h2 h3 h4 hE)
theorem g_ldc2 {idx : Nat} {v : Int64} (hw0 : Cond.constantLong mi.1 idx v ∈ lw_g) (hd : decode mi.2.1 pc = .ok (.ldc2_w idx, 3)) (k : G κ d mi (pc + 3) lv (.long v :: st) n w cr sr Q) : G κ d mi pc lv st n w cr sr Q := by
  intro p l e R s m args below meth c H locs cells slots mc ms Z ls hX hl hw hS h1 h2 h3 h4 hE
  exact lv_ldc2 hX.1 hX.2.1 hX.2.2.2.1 (hX.2.2.2.2.1 _ hw0) hd (k p l e R s m args below meth c H locs cells slots mc ms Z ls hX hl hw hS h1 h2 h3 h4 hE)
theorem g_ldcw {idx : Nat} {v : Int32} (hw0 : Cond.constant mi.1 idx v ∈ lw_g) (hd : decode mi.2.1 pc = .ok (.ldc_w idx, 3)) (k : G κ d mi (pc + 3) lv (.int v :: st) n w cr sr Q) : G κ d mi pc lv st n w cr sr Q := by
  intro p l e R s m args below meth c H locs cells slots mc ms Z ls hX hl hw hS h1 h2 h3 h4 hE
  exact lv_ldcw hX.1 hX.2.1 hX.2.2.2.1 (hX.2.2.2.2.1 _ hw0) hd (k p l e R s m args below meth c H locs cells slots mc ms Z ls hX hl hw hS h1 h2 h3 h4 hE)
theorem g_vret (hd : decode mi.2.1 pc = .ok (.return_, 1)) (hr : mi.2.2.2.2 = none) (k : Q none n w) : G κ d mi pc lv [] n w cr sr Q := by
  intro p l e R s m args below meth c H locs cells slots mc ms Z ls hX hl hw hS h1 h2 h3 h4 hE
  exact hE H locs cells slots pc ls none n w hw hS (by omega) (by omega) k ⟨hd, hr⟩
theorem g_iret {x : Int32} (hd : decode mi.2.1 pc = .ok (.ireturn, 1)) (hr : mi.2.2.2.2 = some .int) (k : Q (some (.int x)) n w) : G κ d mi pc lv [.int x] n w cr sr Q := by
  intro p l e R s m args below meth c H locs cells slots mc ms Z ls hX hl hw hS h1 h2 h3 h4 hE
  exact hE H locs cells slots pc ls (some (.int x)) n w hw hS (by omega) (by omega) k ⟨hd, _, hr, rfl⟩
theorem g_zret {x : Int32} (hd : decode mi.2.1 pc = .ok (.ireturn, 1)) (hr : mi.2.2.2.2 = some .boolean) (hx : narrow .boolean (.int x) = .int x) (k : Q (some (.int x)) n w) : G κ d mi pc lv [.int x] n w cr sr Q := by
  intro p l e R s m args below meth c H locs cells slots mc ms Z ls hX hl hw hS h1 h2 h3 h4 hE
  exact hE H locs cells slots pc ls (some (.int x)) n w hw hS (by omega) (by omega) k ⟨hd, _, hr, hx⟩
theorem g_xret {x : Int32} {ty : FieldType} (hd : decode mi.2.1 pc = .ok (.ireturn, 1)) (hr : mi.2.2.2.2 = some ty) (hx : narrow ty (.int x) = .int x) (k : Q (some (.int x)) n w) : G κ d mi pc lv [.int x] n w cr sr Q := by
  intro p l e R s m args below meth c H locs cells slots mc ms Z ls hX hl hw hS h1 h2 h3 h4 hE
  exact hE H locs cells slots pc ls (some (.int x)) n w hw hS (by omega) (by omega) k ⟨hd, _, hr, hx⟩
theorem g_lret {x : Int64} (hd : decode mi.2.1 pc = .ok (.lreturn, 1)) (hr : mi.2.2.2.2 = some .long) (k : Q (some (.long x)) n w) : G κ d mi pc lv [.long x] n w cr sr Q := by
  intro p l e R s m args below meth c H locs cells slots mc ms Z ls hX hl hw hS h1 h2 h3 h4 hE
  exact hE H locs cells slots pc ls (some (.long x)) n w hw hS (by omega) (by omega) k ⟨hd, hr⟩
theorem g_aret {x : Nat} {rt : FieldType} (hd : decode mi.2.1 pc = .ok (.areturn, 1)) (hr : mi.2.2.2.2 = some rt) (ho : (∃ n, rt = .object n) ∨ ∃ t, rt = .array t) (k : Q (some (.ref x)) n w) : G κ d mi pc lv [.ref x] n w cr sr Q := by
  intro p l e R s m args below meth c H locs cells slots mc ms Z ls hX hl hw hS h1 h2 h3 h4 hE
  exact hE H locs cells slots pc ls (some (.ref x)) n w hw hS (by omega) (by omega) k ⟨hd, _, hr, ho⟩
theorem g_aretN {rt : FieldType} (hd : decode mi.2.1 pc = .ok (.areturn, 1)) (hr : mi.2.2.2.2 = some rt) (ho : (∃ n, rt = .object n) ∨ ∃ t, rt = .array t) (k : Q (some .null) n w) : G κ d mi pc lv [.null] n w cr sr Q := by
  intro p l e R s m args below meth c H locs cells slots mc ms Z ls hX hl hw hS h1 h2 h3 h4 hE
  exact hE H locs cells slots pc ls (some .null) n w hw hS (by omega) (by omega) k ⟨hd, _, hr, ho⟩
end GR

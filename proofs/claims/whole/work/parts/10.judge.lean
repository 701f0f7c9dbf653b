/-! The judgement G: from a frame of a method of ours, with a world of n cells in a row from the address κ 0 on, the machine comes to the method's end with Q. R (part 12) is G over the world that stands once both objects are made. κ: all addresses and class numbers that are known at the law's start, by place. -/
abbrev gMem : Type := Nat → Nat → Int32
abbrev gMI : Type := String × ByteArray × Nat × String × Option FieldType
abbrev gWd : Type := Nat → va_E
abbrev gQ : Type := Option Value → Nat → gWd → Prop
def lw_g : List Cond := lw_tbl.filter goodWord
theorem lw_g_of {w : Cond} (i : Nat) (h : lw_tbl[i]? = some w) (hg : goodWord w = true) : w ∈ lw_g := List.mem_filter.mpr ⟨List.mem_of_getElem? h, hg⟩
theorem lw_g_in : ∀ w ∈ lw_g, w ∈ lw_tbl := fun _ h => (List.mem_filter.mp h).1
theorem lw_g_good {w : Cond} (h : w ∈ lw_g) : (w.onTables && w.keeps) = true ∨ ∃ ty, w = .arrayClass ty := good_of_word (List.mem_filter.mp h).2
def gDeed : List Int32 := [0, 1, 1, 1, 2, 2, 2, 2, 3, 4, 5, 6]
def gKind : List Int32 := [0, 0, 1, 2, 0, 1, 2, 3, 0, 0, 0, 0]
def gLen : List Nat := [4, 5, 6, 4, 4, 5, 7, 4, 3, 4, 5, 4]
def gByt : List (List Int32) := [[119, 101, 108, 108], [112, 108, 97, 105, 110], [114, 117, 110, 110, 101, 114], [108, 97, 122, 121], [111, 112, 101, 110], [108, 105, 110, 101, 100], [100, 111, 117, 98, 108, 101, 100], [116, 111, 114, 110], [116, 117, 98], [104, 111, 108, 101], [102, 114, 111, 115, 116], [116, 104, 97, 119]]
def gAbS : List Int32 := [-1, 0, 1, 1]
def gAbV : List Int32 := [-1, 0, 1, 2, 0]
def gD (κ : Nat → Nat) : va_G := (fun k => κ (10 + k), fun k j => κ (1000 + 32 * k + j))
def gTy (κ : Nat → Nat) : List (ClassId × FieldType) := [(κ 30, .int), (κ 31, .boolean), (κ 32, .object "SieveTub$Scene"), (κ 33, .object "SieveTub$Sister"), (κ 34, .object "SieveTub$Walker"), (κ 35, .array .int), (κ 36, .object "SieveTub$Word")]
def gA (κ : Nat → Nat) : Nat → Prop := fun q => κ 0 ≤ q
def gFm (κ : Nat → Nat) : Value := if κ 63 = 0 then .null else .ref (κ 64)
/-- what stands below κ 0 and is never written -/
def gT (κ : Nat → Nat) (U : State) (H : Heap) : Prop :=
  (va_Z "SieveTub" "ABOVE_SISTER" "[I" (.ref (κ 60)) (gA κ) U H ∧ va_T .int (κ 60) 4 (fun j => .int (gAbS.getD j 0)) (gA κ) U H) ∧
  (va_Z "SieveTub" "ABOVE_SIEVE" "[I" (.ref (κ 61)) (gA κ) U H ∧ va_T .int (κ 61) 5 (fun j => .int (gAbV.getD j 0)) (gA κ) U H) ∧
  (va_Z "SieveTub$Word" "$VALUES" "[LSieveTub$Word;" (.ref (κ 62)) (gA κ) U H ∧ (∃ cell : Cell, H[κ 62]? = some cell ∧ cell.vm ≠ .unknown ∧ (∀ k, cell.vm ≠ .statics k) ∧ cell.cls = κ 36 ∧ cell.slots = (vp_cell (κ 36) (12, .inr (.inr (.inr (.inr (fun j => if j < 12 then some (κ (40 + j)) else none)))))).slots) ∧ ¬ gA κ (κ 62)) ∧
  (∀ i : Nat, i < 12 → va_O "SieveTub$Word" (κ (40 + i)) (gA κ) U H ∧ va_OF "SieveTub$Word" "letters" "Ljava/lang/String;" (.ref (κ (70 + i))) (κ (40 + i)) (gA κ) U H ∧ va_OF "SieveTub$Word" "deed" "I" (.int (gDeed.getD i 0)) (κ (40 + i)) (gA κ) U H ∧ va_OF "SieveTub$Word" "kind" "I" (.int (gKind.getD i 0)) (κ (40 + i)) (gA κ) U H) ∧
  vk_S 12 gLen gByt (fun i => κ (70 + i)) (fun i => κ (90 + i)) (gA κ) U H ∧
  va_Z "java/lang/String" "COMPACT_STRINGS" "Z" (.int 1) (gA κ) U H ∧
  va_Z "jdk/internal/util/Preconditions" "SIOOBE_FORMATTER" "Ljava/util/function/BiFunction;" (gFm κ) (gA κ) U H ∧
  va_T .int (κ 65) (κ 66) (fun j => .int (Int32.ofNat (κ (5000 + j)))) (gA κ) U H
/-- words of the tables that aren't among the steady ones -/
def gN (U : State) : Prop :=
  (va_Nw (.methodLinkNest "SieveTub$Told" 17 ⟨"SieveTub$Sister", "<init>", "()V"⟩ "SieveTub") U ∧ va_Nw (.methodLinkNest "SieveTub$Scene" 17 ⟨"SieveTub$Walker", "<init>", "()V"⟩ "SieveTub") U ∧ va_Nw (.methodLinkNest "SieveTub$Forecast" 22 ⟨"SieveTub$Walker", "<init>", "()V"⟩ "SieveTub") U ∧ va_Nw (.methodLinkNest "SieveTub$Delays" 29 ⟨"SieveTub$Walker", "<init>", "()V"⟩ "SieveTub") U) ∧
  (va_Nw (.methodLinkNest "SieveTub$Clauses" 86 ⟨"SieveTub", "isOutside", "(III)Z"⟩ "SieveTub") U ∧ va_Nw (.methodLinkNest "SieveTub$Scene" 67 ⟨"SieveTub", "lostByHole", "(II)I"⟩ "SieveTub") U ∧ va_Nw (.methodLinkNest "SieveTub$Forecast" 101 ⟨"SieveTub", "lostByHole", "(II)I"⟩ "SieveTub") U ∧ va_Nw (.methodLinkNest "SieveTub$Delays" 117 ⟨"SieveTub", "lostByHole", "(II)I"⟩ "SieveTub") U) ∧
  va_AO "SieveTub$Sister" U ∧ va_AO "SieveTub$Walker" U ∧ va_AO "SieveTub$Scene" U ∧ va_Nw (.castable "[LSieveTub$Word;" "java/lang/Cloneable") U ∧ (Cond.arrayOver (.array .int)).before #[] U = true
theorem gT.moved {κ : Nat → Nat} {u U : State} {H : Heap} (hvm : u.vm.Alike U.vm) (h : gT κ u H) : gT κ U H := by
  obtain ⟨⟨a1, a2⟩, ⟨b1, b2⟩, ⟨c1, c2, c3⟩, d, f, g, g2, g3⟩ := h
  exact ⟨⟨va_Z.moved hvm a1, va_T.moved hvm a2⟩, ⟨va_Z.moved hvm b1, va_T.moved hvm b2⟩, ⟨va_Z.moved hvm c1, c2, c3⟩, fun i hi => ⟨va_O.moved hvm (d i hi).1, va_OF.moved hvm (d i hi).2.1, va_OF.moved hvm (d i hi).2.2.1, va_OF.moved hvm (d i hi).2.2.2⟩, vk_S.moved hvm f, va_Z.moved hvm g, va_Z.moved hvm g2, va_T.moved hvm g3⟩
theorem gT.kept {κ : Nat → Nat} {U : State} {H H1 : Heap} (h : gT κ U H) (hq : ∀ a : Nat, a < H.size → ¬ gA κ a → H1[a]? = H[a]?) : gT κ U H1 := by
  obtain ⟨⟨a1, a2⟩, ⟨b1, b2⟩, ⟨c1, ⟨cell, c21, c22⟩, c3⟩, d, f, g, g2, g3⟩ := h
  exact ⟨⟨a1.kept hq, a2.kept hq⟩, ⟨b1.kept hq, b2.kept hq⟩, ⟨c1.kept hq, ⟨cell, (hq _ (Array.getElem?_eq_some_iff.mp c21).1 c3).trans c21, c22⟩, c3⟩, fun i hi => ⟨(d i hi).1.kept hq, (d i hi).2.1.kept hq, (d i hi).2.2.1.kept hq, (d i hi).2.2.2.kept hq⟩, f.kept hq, g.kept hq, g2.kept hq, g3.kept hq⟩
theorem gAI_moved {u U : State} (hvm : u.vm.Alike U.vm) (h : (Cond.arrayOver (.array .int)).before #[] u = true) : (Cond.arrayOver (.array .int)).before #[] U = true := by
  obtain ⟨comp, c, k, h1, h2, h3, h4, h5⟩ := arrayOverA_spec h
  obtain ⟨k', hk', he⟩ := hvm.2.2 _ _ h3
  have hi : (U.vm.classes.findIdx? fun (x : Class) => match x.kind with | .array component _ => component == comp | _ => false) = some c := by
    have e1 := va_idx_bare U.vm comp
    have e2 := va_idx_bare u.vm comp
    have e3 : U.vm.bare = u.vm.bare := by first | exact hvm.bare_eq | exact hvm.bare_eq.symm
    rw [e3] at e1
    exact (e1.symm.trans e2).trans h2
  have hkind : k'.kind = .array comp (.array .int) := by rw [he]; exact h4
  have f1 : U.vm.findClass (FieldType.array .int).toString = some comp := by rw [hvm.findClass]; exact h1
  have f2 : U.vm.findClass ("[" ++ (FieldType.array .int).toString) = some c := by rw [hvm.findClass]; exact h5
  unfold Cond.before Cond.holds
  simp only [Cond.value]
  rw [f1, Option.bind_some]
  refine (congrArg (fun o : Option Nat => (o.bind (fun c => (U.vm.classes[c]?).map fun (k : Class) => match k.kind with | .array _ ty => decide (ty = FieldType.array .int) && decide (U.vm.findClass ("[" ++ (FieldType.array .int).toString) = some c) | _ => false) == some true)) hi).trans ?_
  simp [hk', hkind, f2]
theorem gAI_same {u U : State} (hv : u.vm = U.vm) (h : (Cond.arrayOver (.array .int)).before #[] u = true) : (Cond.arrayOver (.array .int)).before #[] U = true := gAI_moved (by rw [hv]; exact Vm.Alike.refl _) h
theorem gN.warm {s U : State} (hW : s.WarmedH U.vm) (h : gN s) : gN U := by
  obtain ⟨⟨a1, a2, a3, a4⟩, ⟨b1, b2, b3, b4⟩, c1, c2, c3, c4, c5⟩ := h
  exact ⟨⟨a1.warmM hW, a2.warmM hW, a3.warmM hW, a4.warmM hW⟩, ⟨b1.warmM hW, b2.warmM hW, b3.warmM hW, b4.warmM hW⟩, c1.moved hW.alike, c2.moved hW.alike, c3.moved hW.alike, c4.warmC hW, gAI_moved hW.alike c5⟩
theorem gN.same {u U : State} (hv : u.vm = U.vm) (h : gN u) : gN U := by
  have hA : u.vm.Alike U.vm := by rw [hv]; exact Vm.Alike.refl _
  obtain ⟨⟨a1, a2, a3, a4⟩, ⟨b1, b2, b3, b4⟩, c1, c2, c3, c4, c5⟩ := h
  exact ⟨⟨a1.same rfl hv, a2.same rfl hv, a3.same rfl hv, a4.same rfl hv⟩, ⟨b1.same rfl hv, b2.same rfl hv, b3.same rfl hv, b4.same rfl hv⟩, c1.moved hA, c2.moved hA, c3.moved hA, c4.same rfl hv, gAI_same hv c5⟩
/-- the world: n cells from κ 0 on -/
def gL (κ : Nat → Nat) (n : Nat) (w : gWd) : va_W := (List.range n).map (fun a => (κ 0 + a, w a))
def gW (κ : Nat → Nat) (n : Nat) (w : gWd) (H : Heap) : Prop := va_P (gD κ) vwCl (gL κ n w) H ∧ H.size = κ 0 + n
theorem gL_at {κ : Nat → Nat} {n a : Nat} {w : gWd} (h : a < n) : (gL κ n w)[a]? = some (κ 0 + a, w a) := by
  unfold gL
  rw [List.getElem?_map, List.getElem?_range h]
  rfl
theorem gL_D {κ : Nat → Nat} {n : Nat} {w : gWd} : va_D (gA κ) (gL κ n w) := by
  have key : ∀ (i : Nat) (p : Nat × va_E), (gL κ n w)[i]? = some p → p.1 = κ 0 + i := by
    intro i p h
    unfold gL at h
    rw [List.getElem?_map] at h
    by_cases hi : i < n
    · rw [List.getElem?_range hi] at h
      cases h
      rfl
    · rw [List.getElem?_eq_none (by rw [List.length_range]; omega)] at h
      cases h
  refine ⟨fun i j p q hi hj e => ?_, fun k q h => ?_⟩
  · have := key i p hi
    have := key j q hj
    omega
  · have := key k q h
    show κ 0 ≤ q.1
    omega
theorem gL_set {κ : Nat → Nat} {n a : Nat} {w : gWd} {e : va_E} (h : a < n) : (gL κ n w).set a (κ 0 + a, e) = gL κ n (va_up w a e) := by
  apply List.ext_getElem?
  intro i
  have hlen : (gL κ n w).length = n := by simp [gL]
  by_cases hi : i = a
  · subst hi
    rw [List.getElem?_set_self (by rw [hlen]; exact h), gL_at h]
    simp [va_up]
  · rw [List.getElem?_set_ne (Ne.symm hi)]
    by_cases hn : i < n
    · rw [gL_at hn, gL_at hn]
      simp [va_up, hi]
    · rw [List.getElem?_eq_none (by rw [hlen]; omega), List.getElem?_eq_none (by simp [gL]; omega)]
theorem gL_push {κ : Nat → Nat} {n : Nat} {w : gWd} {e : va_E} : gL κ n w ++ [(κ 0 + n, e)] = gL κ (n + 1) (va_up w n e) := by
  unfold gL
  rw [List.range_succ, List.map_append]
  congr 1
  · apply List.map_congr_left
    intro a ha
    have := List.mem_range.mp ha
    simp [va_up, show a ≠ n by omega]
  · simp [va_up]
/-- what holds of a frame of ours, all the time -/
def gX (κ : Nat → Nat) (d : Nat) (mi : gMI) (p : Program) (R : Room) (s : State) (m : MethodId) (args : Array Value) (meth : Method) (c : Code) : Prop :=
  p.tables.exec = Jvm.exec ∧ c.code = mi.2.1 ∧ c.maxLocals = mi.2.2.1 ∧ s.vm.findClass mi.1 = some m.cls ∧ (∀ w ∈ lw_g, w.before args s = true) ∧ va_K (gD κ) vwCl (gTy κ) s ∧ gT κ s s.heap ∧ gN s ∧ κ 0 ≤ s.heap.size ∧ (d ≤ R.frames ∧ 100 * d ≤ R.locals) ∧ meth.name = mi.2.2.2.1
def gRet (mi : gMI) (pc : Nat) (v : Option Value) : Prop := match v with
  | none => decode mi.2.1 pc = .ok (.return_, 1) ∧ mi.2.2.2.2 = none
  | some (.int x) => decode mi.2.1 pc = .ok (.ireturn, 1) ∧ ∃ ty, mi.2.2.2.2 = some ty ∧ narrow ty (.int x) = .int x
  | some (.long _) => decode mi.2.1 pc = .ok (.lreturn, 1) ∧ mi.2.2.2.2 = some .long
  | some .null => decode mi.2.1 pc = .ok (.areturn, 1) ∧ ∃ rt, mi.2.2.2.2 = some rt ∧ ((∃ n, rt = .object n) ∨ ∃ t, rt = .array t)
  | some (.ref _) => decode mi.2.1 pc = .ok (.areturn, 1) ∧ ∃ rt, mi.2.2.2.2 = some rt ∧ ((∃ n, rt = .object n) ∨ ∃ t, rt = .array t)
  | _ => False
/-- the method's end, as the caller of G has it -/
def gE (κ : Nat → Nat) (mi : gMI) (Q : gQ) (p : Program) (l : Launch) (e : Env) (R : Room) (s : State) (m : MethodId) (args : Array Value) (below : List Frame) (meth : Method) (c : Code) (mc ms : Nat) (Z : State → Prop) : Prop :=
  ∀ (H' : Heap) (locs' : List Loc) (cells' slots' pc' : Nat) (ls' : Array Slot) (v : Option Value) (n' : Nat) (w' : gWd), gW κ n' w' H' → va_S (gA κ) s.heap H' locs' → cells' ≤ mc → slots' ≤ ms → Q v n' w' → gRet mi pc' v → W p l e R s m args below meth c H' locs' cells' slots' Z (F0 m pc' ls' v.toList)
def G (κ : Nat → Nat) (d : Nat) (mi : gMI) (pc : Nat) (lv : List (Nat × Value)) (st : List Value) (n : Nat) (w : gWd) (cr sr : Nat) (Q : gQ) : Prop :=
  ∀ (p : Program) (l : Launch) (e : Env) (R : Room) (s : State) (m : MethodId) (args : Array Value) (below : List Frame) (meth : Method) (c : Code) (H : Heap) (locs : List Loc) (cells slots mc ms : Nat) (Z : State → Prop) (ls : Array Slot),
    gX κ d mi p R s m args meth c → lv_has ls mi.2.2.1 lv → gW κ n w H → va_S (gA κ) s.heap H locs → cells + cr ≤ mc → slots + sr ≤ ms → mc ≤ R.cells → ms ≤ R.slots → gE κ mi Q p l e R s m args below meth c mc ms Z →
    W p l e R s m args below meth c H locs cells slots Z (F0 m pc ls st)
/-- a method's contract -/
def gWs (y : MethodName) (mi : gMI) : List Cond := Cond.code y mi.2.1 mi.2.2.1 mi.2.2.2.2 :: lw_g
def gRm (d mc ms : Nat) : Room := { frames := d, cells := mc, slots := ms, locals := 100 * d }
def gPc (κ : Nat → Nat) (av : List Value) (n : Nat) (w : gWd) : Array Value → State → Prop := va_Pc av (fun U => gW κ n w U.heap ∧ va_K (gD κ) vwCl (gTy κ) U ∧ gT κ U U.heap ∧ gN U)
def gQc (κ : Nat → Nat) (Q : gQ) : Array Value → State → Outcome → State → Prop := fun _ st oc t => (∃ (v : Option Value) (n' : Nat) (w' : gWd), oc = .returned v ∧ Q v n' w' ∧ gW κ n' w' t.heap) ∧ va_F (gA κ) st t
def CT (κ : Nat → Nat) (d : Nat) (y : MethodName) (mi : gMI) (av : List Value) (n : Nat) (w : gWd) (mc ms : Nat) (Q : gQ) : Prop :=
  ∀ l : Launch, Met l y (gWs y mi) (gRm d mc ms) (gPc κ av n w) (gQc κ Q) mc ms (gA κ)
set_option maxHeartbeats 1000000 in
theorem CT.of {κ : Nat → Nat} {d : Nat} {y : MethodName} {mi : gMI} {av : List Value} {n : Nat} {w : gWd} {mc ms : Nat} {Q : gQ} (hy : plainName y.cls = true) (hc : y.cls = mi.1) (hnm : y.name = mi.2.2.2.1) (hl : (lg_sl av).length ≤ mi.2.2.1)
    (h : G κ d mi 0 (lv_args 0 av) [] n w mc ms Q) : CT κ d y mi av n w mc ms Q := by
  intro l
  refine Met.ofW (cc := mi.2.1) (maxL := mi.2.2.1) (ret := mi.2.2.2.2) hy rfl ?_
  intro p e s m args below meth c s₁ B hml hv
  obtain ⟨rfl, hw, hK, hT, hN⟩ := hv
  have hts := atoms_spec (ws := gWs y mi) B.pre
  have hown : s.vm.findClass mi.1 = some m.cls := by rw [← hc]; exact findClass_of_methodNamed B.named
  have hlocks := B.notSynchronized
  have hr := B.returns
  have hnm2 : meth.name = mi.2.2.2.1 := by rw [← hnm]; exact (name_of_methodNamed B.named B.method).1
  have hl1 := lv_entry av (n := mi.2.2.1) hl
  rw [lg_entry_eq]
  refine h p l e (gRm d mc ms) s m _ below meth c s.heap [] 0 0 mc ms _ _ ⟨B.exec, B.bytes, hml, hown, fun w hw => hts w (List.mem_cons_of_mem _ hw), hK, hT, hN, by rw [hw.2]; omega, ⟨Nat.le_refl _, Nat.le_refl _⟩, hnm2⟩ hl1 hw va_S.rf (by omega) (by omega) (Nat.le_refl _) (Nat.le_refl _) ?_
  intro H' locs' cells' slots' pc' ls' v n' w' hw' hS' hc' hs' hq hret
  refine W.widen (k := mc) (n := ms) hc' hs' ?_
  have hqc : ∀ t : State, t.heap = H' → s.WarmedH t.vm → gQc κ Q av.toArray s (.returned v) t := fun t ht _ => ⟨⟨v, n', w', rfl, hq, by rw [ht]; exact hw'⟩, hS'.F ht⟩
  match v, hret with
  | none, hret => exact W.vret B.exec B.bytes (by rw [hr]; exact hret.2) hqc hS'.2.2 hret.1
  | some (.int x), hret =>
    obtain ⟨h1, ty, h2, h3⟩ := hret
    exact W.zret B.exec B.bytes (by rw [hr]; exact h2) h3 hqc hS'.2.2 h1
  | some (.long x), hret => exact W.lret B.exec B.bytes (by rw [hr]; exact hret.2) hqc hS'.2.2 hret.1
  | some .null, hret =>
    obtain ⟨h1, rt, h2, h3⟩ := hret
    exact W.aret B.exec B.bytes (by rw [hr]; exact h2) h3 (Or.inl rfl) hqc hS'.2.2 h1
  | some (.ref a), hret =>
    obtain ⟨h1, rt, h2, h3⟩ := hret
    exact W.aret B.exec B.bytes (by rw [hr]; exact h2) h3 (Or.inr ⟨a, rfl⟩) hqc hS'.2.2 h1

/-! RR: G over the world of the layout, with the memory μ. N cells stand (140: SieveTub alone; 151: both). -/
abbrev rQ : Type := Option Value → gMem → Prop
def RQ (κ : Nat → Nat) (N : Nat) (Q : rQ) : gQ := fun v n w => ∃ μ' : gMem, n = N ∧ w = wOf κ μ' ∧ Q v μ'
abbrev RR (κ : Nat → Nat) (N d : Nat) (mi : gMI) (pc : Nat) (lv : List (Nat × Value)) (sk : List Value) (μ : gMem) (Q : rQ) : Prop := G κ d mi pc lv sk N (wOf κ μ) 0 0 (RQ κ N Q)
abbrev CT2 (κ : Nat → Nat) (N d : Nat) (y : MethodName) (mi : gMI) (av : List Value) (μ : gMem) (Q : rQ) : Prop := CT κ d y mi av N (wOf κ μ) 0 0 (RQ κ N Q)
/-- ends: an int, a boolean, a long, nothing; the memory behind it -/
def qI (r : Int32) (μ' : gMem) : rQ := fun v m => v = some (.int r) ∧ m = μ'
def qZ (r : Int32) (μ' : gMem) : rQ := fun v m => v = some (.int r) ∧ m = μ' ∧ narrow .boolean (.int r) = .int r
def qL (r : Int64) (μ' : gMem) : rQ := fun v m => v = some (.long r) ∧ m = μ'
def qV (μ' : gMem) : rQ := fun v m => v = none ∧ m = μ'
def inb (i : Int32) (n : Nat) : Bool := !(decide (i < 0) || decide (n ≤ i.toNatClampNeg))
theorem inb_in {i : Int32} {n : Nat} (h : inb i n = true) : vp_in i n := by
  unfold inb at h
  unfold vp_in
  simpa using h
def lt {α β : Type} (x : α) (f : α → β) : β := f x
theorem lt_of {α β : Type} {x y : α} {f : α → β} (e : y = x) : lt x f = f y := by rw [e]; rfl
theorem gd_some {α : Type} {c : Prop} [Decidable c] {t : Option α} {z : α} (h : (if c then t else none) = some z) : c ∧ t = some z := by
  by_cases hc : c
  · rw [if_pos hc] at h
    exact ⟨hc, h⟩
  · rw [if_neg hc] at h
    cases h
theorem gd_some' {α : Type} {c : Prop} [Decidable c] {t : Option α} {z : α} (h : (if c then none else t) = some z) : ¬ c ∧ t = some z := by
  by_cases hc : c
  · rw [if_pos hc] at h
    cases h
  · rw [if_neg hc] at h
    exact ⟨hc, h⟩
section RRR
variable {κ : Nat → Nat} {N d : Nat} {mi : gMI} {pc : Nat} {lv : List (Nat × Value)} {sk : List Value} {μ : gMem} {Q : rQ} {a idx : Nat}
theorem r_getI {c nf : Nat} {C : String} {T : u_T} {ty : Nat → FieldType} (j : Nat) (hc : gCl c C T nf ty) (hs : c < 11 ∧ j < nf ∧ j < nfL.getD c 0) (hr : ∀ a, rfO a c j = none) (hlk : Cond.fieldLink mi.1 idx (T j).1 (T j).2.1 (T j).2.2.1 ∈ lw_g) (hd : decode mi.2.1 pc = .ok (.getfield idx, 3)) (ha : a < N) (hk : kd a = c)
    (k : RR κ N d mi (pc + 3) lv (.int (μ a j) :: sk) μ Q) : RR κ N d mi pc lv (.ref (κ 0 + a) :: sk) μ Q :=
  g_get j hd hc hlk ha (wOf_obj hk hs.1) hs.2.1 (by rw [gFs_at hs.2.2]; unfold gFld; rw [hr a]) k
theorem r_getR {c nf : Nat} {C : String} {T : u_T} {ty : Nat → FieldType} (j r : Nat) (hc : gCl c C T nf ty) (hs : c < 11 ∧ j < nf ∧ j < nfL.getD c 0) (hr : rfO a c j = some r) (hlk : Cond.fieldLink mi.1 idx (T j).1 (T j).2.1 (T j).2.2.1 ∈ lw_g) (hd : decode mi.2.1 pc = .ok (.getfield idx, 3)) (ha : a < N) (hk : kd a = c)
    (k : RR κ N d mi (pc + 3) lv (.ref (κ 0 + r) :: sk) μ Q) : RR κ N d mi pc lv (.ref (κ 0 + a) :: sk) μ Q :=
  g_get j hd hc hlk ha (wOf_obj hk hs.1) hs.2.1 (by rw [gFs_at hs.2.2]; unfold gFld; rw [hr]) k
theorem r_putI {c nf : Nat} {C : String} {T : u_T} {ty : Nat → FieldType} {v : Int32} (j : Nat) (hc : gCl c C T nf ty) (hs : c < 11 ∧ j < nf ∧ j < nfL.getD c 0) (hr : ∀ a, rfO a c j = none) (ht : ty j = .int ∧ (T j).2.2.2 = false) (hlk : Cond.fieldLink mi.1 idx (T j).1 (T j).2.1 (T j).2.2.1 ∈ lw_g) (hd : decode mi.2.1 pc = .ok (.putfield idx, 3)) (ha : a < N) (hk : kd a = c)
    (k : ∀ m : gMem, m = st μ a j v → RR κ N d mi (pc + 3) lv sk m Q) : RR κ N d mi pc lv (.int v :: .ref (κ 0 + a) :: sk) μ Q := by
  refine g_put j hd hc hlk ha (wOf_obj hk hs.1) hs.2.1 ht.2 (by rw [ht.1]; rfl) (by rw [ht.1]; rfl) (by simp [gFs]; simpa using hs.2.2) ?_
  rw [wOf_stO hk hs.1 (hr a)]
  exact k _ rfl
theorem r_iald {i : Int32} (n : Nat) (hd : decode mi.2.1 pc = .ok (.iaload, 1)) (ha : a < N) (hk : kd a = 20) (hn : ln a = n) (hin : inb i n = true) (k : RR κ N d mi (pc + 1) lv (.int (μ a i.toNatClampNeg) :: sk) μ Q) : RR κ N d mi pc lv (.int i :: .ref (κ 0 + a) :: sk) μ Q := by
  subst hn
  exact g_iald hd ha (wOf_int hk) (inb_in hin) k
theorem r_zald {i : Int32} (n : Nat) (hd : decode mi.2.1 pc = .ok (.baload, 1)) (ha : a < N) (hk : kd a = 21) (hn : ln a = n) (hin : inb i n = true) (k : RR κ N d mi (pc + 1) lv (.int (μ a i.toNatClampNeg) :: sk) μ Q) : RR κ N d mi pc lv (.int i :: .ref (κ 0 + a) :: sk) μ Q := by
  subst hn
  exact g_zald hd ha (wOf_bool hk) (inb_in hin) k
theorem r_iast {i x : Int32} (n : Nat) (hd : decode mi.2.1 pc = .ok (.iastore, 1)) (ha : a < N) (hk : kd a = 20) (hn : ln a = n) (hin : inb i n = true) (k : ∀ m : gMem, m = st μ a i.toNatClampNeg x → RR κ N d mi (pc + 1) lv sk m Q) : RR κ N d mi pc lv (.int x :: .int i :: .ref (κ 0 + a) :: sk) μ Q := by
  subst hn
  refine g_iast hd ha (wOf_int hk) (inb_in hin) ?_
  rw [wOf_stI hk]
  exact k _ rfl
theorem r_zast {i x : Int32} (n : Nat) (hd : decode mi.2.1 pc = .ok (.bastore, 1)) (ha : a < N) (hk : kd a = 21) (hn : ln a = n) (hin : inb i n = true) (hx : vp_nar .boolean x = x) (k : ∀ m : gMem, m = st μ a i.toNatClampNeg x → RR κ N d mi (pc + 1) lv sk m Q) : RR κ N d mi pc lv (.int x :: .int i :: .ref (κ 0 + a) :: sk) μ Q := by
  subst hn
  refine g_zast hd ha (wOf_bool hk) (inb_in hin) hx ?_
  rw [wOf_stZ hk]
  exact k _ rfl
theorem r_aald {i : Int32} (c n r : Nat) (hd : decode mi.2.1 pc = .ok (.aaload, 1)) (ha : a < N) (hk : kd a = c) (h1 : 22 ≤ c ∧ c ≤ 25) (hn : ln a = n) (hin : inb i n = true) (hr : (if c = 22 then a + 1 + 7 * i.toNatClampNeg else a + 1 + i.toNatClampNeg) = r) (k : RR κ N d mi (pc + 1) lv (.ref (κ 0 + r) :: sk) μ Q) : RR κ N d mi pc lv (.int i :: .ref (κ 0 + a) :: sk) μ Q := by
  subst hn
  have hv := inb_in hin
  have hlt : i.toNatClampNeg < ln a := Nat.not_le.mp fun q => hv (Or.inr q)
  have hc4 : c = 22 ∨ c = 23 ∨ c = 24 ∨ c = 25 := by omega
  have hval : va_rf (if i.toNatClampNeg < ln a then some (κ 0 + rfA a i.toNatClampNeg) else none) = .ref (κ 0 + r) := by
    rw [if_pos hlt]
    unfold rfA
    rw [hk, hr]
    rfl
  rcases hc4 with rfl | rfl | rfl | rfl
  · exact g_aald (t0 := 2) hd ha (wOf_refs hk h1.1 h1.2) rfl rfl hv hval k
  · exact g_aald (t0 := 3) hd ha (wOf_refs hk h1.1 h1.2) rfl rfl hv hval k
  · exact g_aald (t0 := 4) hd ha (wOf_refs hk h1.1 h1.2) rfl rfl hv hval k
  · exact g_aald (t0 := 5) hd ha (wOf_refs hk h1.1 h1.2) rfl rfl hv hval k
theorem r_aaldW {i : Int32} (hd : decode mi.2.1 pc = .ok (.aaload, 1)) (ha : a < N) (hk : kd a = 26) (hin : inb i 12 = true) (k : RR κ N d mi (pc + 1) lv (.ref (κ (40 + i.toNatClampNeg)) :: sk) μ Q) : RR κ N d mi pc lv (.int i :: .ref (κ 0 + a) :: sk) μ Q := by
  have hv := inb_in hin
  have hlt : i.toNatClampNeg < 12 := Nat.not_le.mp fun q => hv (Or.inr q)
  exact g_aald (t0 := 6) hd ha (wOf_word hk) rfl rfl hv (by rw [if_pos hlt]; rfl) k
theorem r_alenI (n : Nat) (hd : decode mi.2.1 pc = .ok (.arraylength, 1)) (ha : a < N) (hk : kd a = 20) (hn : ln a = n) (k : RR κ N d mi (pc + 1) lv (.int (Int32.ofNat n) :: sk) μ Q) : RR κ N d mi pc lv (.ref (κ 0 + a) :: sk) μ Q := by
  subst hn
  exact g_alen (t0 := 0) hd ha (wOf_int hk) rfl rfl k
theorem r_alenW (hd : decode mi.2.1 pc = .ok (.arraylength, 1)) (ha : a < N) (hk : kd a = 26) (k : RR κ N d mi (pc + 1) lv (.int (Int32.ofNat 12) :: sk) μ Q) : RR κ N d mi pc lv (.ref (κ 0 + a) :: sk) μ Q :=
  g_alen (t0 := 6) hd ha (wOf_word hk) rfl rfl k
theorem r_copyi {a0 : Nat} {sp dp x : Int32} (n0 n1 : Nat) (hd : decode mi.2.1 pc = .ok (.invokestatic idx, 3)) (hlk : Cond.methodLink mi.1 idx arraycopyName ∈ lw_g) (hs : Cond.native arraycopyName ∈ lw_g ∧ Cond.static arraycopyName ∈ lw_g ∧ Cond.initialized "java/lang/System" ∈ lw_g) (ha0 : a0 < N) (ha : a < N) (hne : a0 ≠ a) (hk0 : kd a0 = 20) (hk : kd a = 20) (hn0 : ln a0 = n0) (hn1 : ln a = n1)
    (g1 : ¬ sp < 0) (g2 : ¬ dp < 0) (g3 : ¬ x < 0) (g4 : sp.toNatClampNeg + x.toNatClampNeg ≤ n0) (g5 : dp.toNatClampNeg + x.toNatClampNeg ≤ n1) (hdd : 1 ≤ d) (hst : (sk.map fun v => v.category).sum ≤ 8)
    (k : ∀ m : gMem, m = (fun q => if q = a then va_cpy (μ a0) (μ a) sp.toNatClampNeg dp.toNatClampNeg x.toNatClampNeg else μ q) → RR κ N d mi (pc + 3) lv sk m Q) : RR κ N d mi pc lv (.int x :: .int dp :: .ref (κ 0 + a) :: .int sp :: .ref (κ 0 + a0) :: sk) μ Q := by
  subst hn0
  subst hn1
  refine g_copyi hd hlk hs ha0 ha hne (wOf_int hk0) (wOf_int hk) g1 g2 g3 g4 g5 hdd hst ?_
  have h := k _ rfl
  have e : va_up (wOf κ μ) a (.inl (κ 30, ln a, .inl (va_cpy (μ a0) (μ a) sp.toNatClampNeg dp.toNatClampNeg x.toNatClampNeg))) = wOf κ (fun q => if q = a then va_cpy (μ a0) (μ a) sp.toNatClampNeg dp.toNatClampNeg x.toNatClampNeg else μ q) := by
    funext b
    by_cases hb : b = a
    · subst hb
      rw [wOf_int hk]
      simp [va_up]
    · have hf : ∀ c, gFs κ (fun q => if q = a then va_cpy (μ a0) (μ a) sp.toNatClampNeg dp.toNatClampNeg x.toNatClampNeg else μ q) b c = gFs κ μ b c := fun c => by
        unfold gFs
        apply List.map_congr_left
        intro j _
        unfold gFld
        simp only [hb, if_false]
      simp only [va_up, hb, if_false]
      unfold wOf
      simp only [hf, hb, if_false]
  rw [e]
  exact h
theorem r_iret {x r : Int32} {μ' : gMem} (hd : decode mi.2.1 pc = .ok (.ireturn, 1)) (hr : mi.2.2.2.2 = some .int) (h1 : x = r) (h2 : μ = μ') : RR κ N d mi pc lv [.int x] μ (qI r μ') := g_iret hd hr ⟨μ, rfl, rfl, by rw [h1], h2⟩
theorem r_zret {x r : Int32} {μ' : gMem} (hd : decode mi.2.1 pc = .ok (.ireturn, 1)) (hr : mi.2.2.2.2 = some .boolean) (hx : narrow .boolean (.int x) = .int x) (h1 : x = r) (h2 : μ = μ') : RR κ N d mi pc lv [.int x] μ (qZ r μ') := g_zret hd hr hx ⟨μ, rfl, rfl, by rw [h1], h2, by rw [← h1]; exact hx⟩
theorem r_lret {x r : Int64} {μ' : gMem} (hd : decode mi.2.1 pc = .ok (.lreturn, 1)) (hr : mi.2.2.2.2 = some .long) (h1 : x = r) (h2 : μ = μ') : RR κ N d mi pc lv [.long x] μ (qL r μ') := g_lret hd hr ⟨μ, rfl, rfl, by rw [h1], h2⟩
theorem r_vret {μ' : gMem} (hd : decode mi.2.1 pc = .ok (.return_, 1)) (hr : mi.2.2.2.2 = none) (h2 : μ = μ') : RR κ N d mi pc lv [] μ (qV μ') := g_vret hd hr ⟨μ, rfl, rfl, rfl, h2⟩
end RRR
/-! calls of ours: on an object of the world, static, static of a nest mate, on a constant object; the answer an int, a boolean, a long, nothing -/
section RC
variable {κ : Nat → Nat} {N d : Nat} {mi : gMI} {pc : Nat} {lv : List (Nat × Value)} {sk sk0 : List Value} {μ μ' : gMem} {Q Q' : rQ} {b idx d' : Nat} {y : MethodName} {mi' : gMI} {As : List Value}
def rK (κ : Nat → Nat) (N d : Nat) (mi : gMI) (pc : Nat) (lv : List (Nat × Value)) (sk : List Value) (Q : rQ) (Q' : rQ) : Prop := ∀ v m, Q' v m → RR κ N d mi pc lv (v.toList ++ sk) m Q
theorem rK_i {r : Int32} (k : RR κ N d mi pc lv (.int r :: sk) μ' Q) : rK κ N d mi pc lv sk Q (qI r μ') := by
  intro v m h
  obtain ⟨rfl, rfl⟩ := h
  exact k
theorem rK_z {r : Int32} (k : narrow .boolean (.int r) = .int r → RR κ N d mi pc lv (.int r :: sk) μ' Q) : rK κ N d mi pc lv sk Q (qZ r μ') := by
  intro v m h
  obtain ⟨rfl, rfl, h3⟩ := h
  exact k h3
theorem rK_l {r : Int64} (k : RR κ N d mi pc lv (.long r :: sk) μ' Q) : rK κ N d mi pc lv sk Q (qL r μ') := by
  intro v m h
  obtain ⟨rfl, rfl⟩ := h
  exact k
theorem rK_v (k : RR κ N d mi pc lv sk μ' Q) : rK κ N d mi pc lv sk Q (qV μ') := by
  intro v m h
  obtain ⟨rfl, rfl⟩ := h
  exact k
theorem r_callV {ci : Nat} {T : u_T} {nf : Nat} (hM : CT2 κ N d' y mi' (.ref (κ 0 + b) :: As) μ Q') (hY : gYV y mi') (hc : vwCl[ci]? = some (y.cls, T, nf) ∧ ci < 11) (hlen : (parseMethodDescriptor y.desc).map (fun d => d.parameters.length) = some As.length) (hlk : Cond.methodLink mi.1 idx y ∈ lw_g) (hd : decode mi.2.1 pc = .ok (.invokevirtual idx, 3)) (hdd : d' + 1 ≤ d) (hst : (sk.map fun v => v.category).sum ≤ 8) (hb : b < N) (hkb : kd b = ci) (hsk : As.reverse ++ .ref (κ 0 + b) :: sk = sk0) (k : rK κ N d mi (pc + 3) lv sk Q Q') : RR κ N d mi pc lv sk0 μ Q := by
  subst hsk
  exact g_callV hM hd hY hlk hb (wOf_obj hkb hc.2) hc.1 hdd hlen hst (Nat.le_refl 0) (Nat.le_refl 0) (fun v n' w' h => by
    obtain ⟨m, rfl, rfl, h⟩ := h
    exact k v m h)
theorem r_callS (hM : CT2 κ N d' y mi' As μ Q') (hY : gYS y mi') (hlen : (parseMethodDescriptor y.desc).map (fun d => d.parameters.length) = some As.length) (hlk : Cond.methodLink mi.1 idx y ∈ lw_g) (hd : decode mi.2.1 pc = .ok (.invokestatic idx, 3)) (hdd : d' + 1 ≤ d) (hst : (sk.map fun v => v.category).sum ≤ 8) (hsk : As.reverse ++ sk = sk0) (k : rK κ N d mi (pc + 3) lv sk Q Q') : RR κ N d mi pc lv sk0 μ Q := by
  subst hsk
  exact g_callS hM hd hY hlk hdd hlen hst (Nat.le_refl 0) (Nat.le_refl 0) (fun v n' w' h => by
    obtain ⟨m, rfl, rfl, h⟩ := h
    exact k v m h)
theorem r_callSN (hM : CT2 κ N d' y mi' As μ Q') (hY : gYS y mi') (hlen : (parseMethodDescriptor y.desc).map (fun d => d.parameters.length) = some As.length) (hlk : ∀ U, gN U → va_Nw (.methodLinkNest mi.1 idx y "SieveTub") U) (hd : decode mi.2.1 pc = .ok (.invokestatic idx, 3)) (hdd : d' + 1 ≤ d) (hst : (sk.map fun v => v.category).sum ≤ 8) (hsk : As.reverse ++ sk = sk0) (k : rK κ N d mi (pc + 3) lv sk Q Q') : RR κ N d mi pc lv sk0 μ Q := by
  subst hsk
  exact g_callSN hM hd hY hlk hdd hlen hst (Nat.le_refl 0) (Nat.le_refl 0) (fun v n' w' h => by
    obtain ⟨m, rfl, rfl, h⟩ := h
    exact k v m h)
theorem r_callVT (hM : CT2 κ N d' y mi' (.ref b :: As) μ Q') (hY : gYV y mi') (hrc : ∀ U H, gT κ U H → ∃ cell : Cell, H[b]? = some cell ∧ cell.vm.isStatics = false ∧ U.vm.findClass y.cls = some cell.cls) (hlen : (parseMethodDescriptor y.desc).map (fun d => d.parameters.length) = some As.length) (hlk : Cond.methodLink mi.1 idx y ∈ lw_g) (hd : decode mi.2.1 pc = .ok (.invokevirtual idx, 3)) (hdd : d' + 1 ≤ d) (hst : (sk.map fun v => v.category).sum ≤ 8) (hsk : As.reverse ++ .ref b :: sk = sk0) (k : rK κ N d mi (pc + 3) lv sk Q Q') : RR κ N d mi pc lv sk0 μ Q := by
  subst hsk
  exact g_callVT hM hd hY hlk hrc hdd hlen hst (Nat.le_refl 0) (Nat.le_refl 0) (fun v n' w' h => by
    obtain ⟨m, rfl, rfl, h⟩ := h
    exact k v m h)
theorem CT2.of (hy : plainName y.cls = true) (hc : y.cls = mi'.1) (hnm : y.name = mi'.2.2.2.1) (hl : (lg_sl As).length ≤ mi'.2.2.1) (h : RR κ N d mi' 0 (lv_args 0 As) [] μ Q) : CT2 κ N d y mi' As μ Q := CT.of hy hc hnm hl h
end RC

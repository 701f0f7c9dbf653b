/-- a class of ours: its place in vwCl, name, fields, how many, their types -/
def gCl (ci : Nat) (C : String) (T : u_T) (N : Nat) (ty : Nat → FieldType) : Prop := vwCl[ci]? = some (C, T, N) ∧ (∀ w ∈ u_ws C T N, w ∈ lw_g) ∧ (∀ k, k < N → parseFieldDescriptor (T k).2.2.1 = some (ty k)) ∧ (∀ a, a < N → ∀ b, b < N → a ≠ b → (T a).2.1 ≠ (T b).2.1)
theorem gW_set {κ : Nat → Nat} {n : Nat} {w : gWd} {H H1 : Heap} {a : Nat} {e : va_E} (ha : a < n) (hw : gW κ n w H) (hz : H1.size = H.size) (h : va_P (gD κ) vwCl ((gL κ n w).set a (κ 0 + a, e)) H1) : gW κ n (va_up w a e) H1 := ⟨by rw [← gL_set ha]; exact h, by rw [hz]; exact hw.2⟩
theorem gW_push {κ : Nat → Nat} {n : Nat} {w : gWd} {H H1 : Heap} {e : va_E} (hw : gW κ n w H) (hz : H1.size = H.size + 1) (ho : ∀ q, q < H.size → H1[q]? = H[q]?) (he : va_at (gD κ) vwCl (κ 0 + n, e) H1) : gW κ (n + 1) (va_up w n e) H1 := by
  refine ⟨?_, by rw [hz, hw.2]; omega⟩
  rw [← gL_push]
  refine (hw.1.kept (fun k q hk => ho q.1 ((hw.1 k q hk).lt))).app (fun k x hx => ?_)
  have hz : k < 1 := (List.getElem?_eq_some_iff.mp hx).1
  rw [show k = 0 by omega] at hx
  cases hx
  exact he
theorem va_S.push {κ : Nat → Nat} {H0 H H1 : Heap} {locs : List Loc} (hS : va_S (gA κ) H0 H locs) (hz : H.size ≤ H1.size) (ho : ∀ q, q < H.size → H1[q]? = H[q]?) : va_S (gA κ) H0 H1 locs := ⟨Nat.le_trans hS.1 hz, fun q h1 h2 => (ho q (Nat.lt_of_lt_of_le h1 hS.1)).trans (hS.2.1 q h1 h2), hS.2.2⟩
section GH
variable {κ : Nat → Nat} {d : Nat} {mi : gMI} {pc : Nat} {lv : List (Nat × Value)} {st : List Value} {n : Nat} {w : gWd} {cr sr : Nat} {Q : gQ} {a idx : Nat}
theorem g_get {ci N : Nat} {C : String} {T : u_T} {ty : Nat → FieldType} {fs : List Value} {v : Value} (j : Nat) (hd : decode mi.2.1 pc = .ok (.getfield idx, 3)) (hc : gCl ci C T N ty) (hlk : Cond.fieldLink mi.1 idx (T j).1 (T j).2.1 (T j).2.2.1 ∈ lw_g) (ha : a < n) (hwa : w a = .inr (ci, fs)) (hj : j < N) (hv : fs[j]? = some v)
    (k : G κ d mi (pc + 3) lv (v :: st) n w cr sr Q) : G κ d mi pc lv (.ref (κ 0 + a) :: st) n w cr sr Q := by
  intro p l e R s m args below meth c H locs cells slots mc ms Z ls hX hl hw hS h1 h2 h3 h4 hE
  obtain ⟨hx, hbc, hml, hown, hts, hK, hT, hN, h0, hf, -⟩ := id hX
  exact va_get (C := C) (T := T) (N := N) hx hbc hts hc.2.1 hown hK hw.1 a (by rw [gL_at ha, hwa]) hc.1 j hj (hts _ hlk) (fun _ h => h) hv hd (k p l e R s m args below meth c H locs cells slots mc ms Z ls hX hl hw hS h1 h2 h3 h4 hE)
theorem gW_size {κ : Nat → Nat} {n : Nat} {w : gWd} {H : Heap} (hw : gW κ n w H) : H.size = κ 0 + n := hw.2
set_option maxHeartbeats 1000000 in
theorem g_put {ci N : Nat} {C : String} {T : u_T} {ty : Nat → FieldType} {fs : List Value} {v : Value} (j : Nat) (hd : decode mi.2.1 pc = .ok (.putfield idx, 3)) (hc : gCl ci C T N ty) (hlk : Cond.fieldLink mi.1 idx (T j).1 (T j).2.1 (T j).2.2.1 ∈ lw_g) (ha : a < n) (hwa : w a = .inr (ci, fs)) (hj : j < N) (hfin : (T j).2.2.2 = false) (hn : narrow (ty j) v = v) (hfit : fits (ty j) v = true) (hlen : j < fs.length)
    (k : G κ d mi (pc + 3) lv st n (va_up w a (.inr (ci, fs.set j v))) cr sr Q) : G κ d mi pc lv (v :: .ref (κ 0 + a) :: st) n w cr sr Q := by
  intro p l e R s m args below meth c H locs cells slots mc ms Z ls hX hl hw hS h1 h2 h3 h4 hE
  obtain ⟨hx, hbc, hml, hown, hts, hK, hT, hN, h0, hf, -⟩ := id hX
  have hap := va_apart (own := mi.1) hts hc.2.1 ty hc.2.2.1 hc.2.2.2 hK hc.1
  obtain ⟨r, g1, cell, q1, q2, q3, q4⟩ := hw.1 a _ (by rw [gL_at ha, hwa])
  have hr : r = (C, T, N) := Option.some.inj (g1.symm.trans hc.1)
  subst hr
  obtain ⟨hSl, hfc, kC, hkC, hkind⟩ := hK.1 ci _ hc.1
  obtain ⟨cf, kf, fi, f, hi, hsl⟩ := hSl j hj
  have hlay := hts _ (hc.2.1 _ (u_in_lay hj))
  unfold u_lay at hlay
  rw [if_neg (by rw [hfin]; decide)] at hlay
  have hst := (u_facts hfc hkC (u_lays hts hc.2.1 hj) hi).1
  have h6 := u_store hfc hkC hkind hlay hi (hc.2.2.1 j hj) hn hfit
  refine W.putK hx hbc (f := f) ⟨hown, hts _ hlk, ⟨_, _, _, hi⟩, hst⟩ (by rw [q2]; exact h6) q1 q3 (by rw [hsl]; exact k2_hasslot (q4 j hj)) rfl rfl hd fun H' e1 e2 e3 => ?_
  rw [hsl] at e1 ⊢
  have hD : va_D (gA κ) (gL κ n w) := gL_D
  have he : (gL κ n w)[a]? = some (κ 0 + a, .inr (ci, fs)) := by rw [gL_at ha, hwa]
  exact k p l e R s m args below meth c H' _ cells slots mc ms Z ls hX hl (gW_set ha hw e2 (hw.1.set hD he ⟨_, hc.1, t_OB.to (V := updV (vp_V fs) j v) ⟨_, e1, q2, q3, t_set q4 hap hj v⟩ (fun i _ => vp_updV_set hlen v i)⟩ e3)) (hS.put e2 e3 (hD.2 a _ he)) h1 h2 h3 h4 hE
set_option maxHeartbeats 1000000 in
theorem g_putF {ci N : Nat} {C : String} {T : u_T} {ty : Nat → FieldType} {fs : List Value} {v : Value} (j : Nat) (hd : decode mi.2.1 pc = .ok (.putfield idx, 3)) (hc : gCl ci C T N ty) (hlk : Cond.fieldLink mi.1 idx (T j).1 (T j).2.1 (T j).2.2.1 ∈ lw_g) (ha : a < n) (hwa : w a = .inr (ci, fs)) (hj : j < N) (hfin : (T j).2.2.2 = true) (hnm : mi.2.2.2.1 = "<init>") (hdecl : (T j).1 = mi.1) (hn : narrow (ty j) v = v) (hfit : fits (ty j) v = true) (hlen : j < fs.length)
    (k : G κ d mi (pc + 3) lv st n (va_up w a (.inr (ci, fs.set j v))) cr sr Q) : G κ d mi pc lv (v :: .ref (κ 0 + a) :: st) n w cr sr Q := by
  intro p l e R s m args below meth c H locs cells slots mc ms Z ls hX hl hw hS h1 h2 h3 h4 hE
  obtain ⟨hx, hbc, hml, hown, hts, hK, hT, hN, h0, hf, hmn⟩ := id hX
  have hap := va_apart (own := mi.1) hts hc.2.1 ty hc.2.2.1 hc.2.2.2 hK hc.1
  obtain ⟨r, g1, cell, q1, q2, q3, q4⟩ := hw.1 a _ (by rw [gL_at ha, hwa])
  have hr : r = (C, T, N) := Option.some.inj (g1.symm.trans hc.1)
  subst hr
  obtain ⟨hSl, hfc, kC, hkC, hkind⟩ := hK.1 ci _ hc.1
  obtain ⟨cf, kf, fi, f, hi, hsl⟩ := hSl j hj
  have hlay := hts _ (hc.2.1 _ (u_in_lay hj))
  unfold u_lay at hlay
  rw [if_pos hfin] at hlay
  have hst := (u_facts hfc hkC (u_lays hts hc.2.1 hj) hi).1
  have hcf : m.cls = cf := by
    obtain ⟨_, _, c', _, _, _, -, -, hf', -, -, -, hown2, -⟩ := Cond.laysFinal_spec hlay
    have e1 : c' = cf := by have := hi.symm.trans hf'; simp at this; exact this.1.symm
    rw [hdecl] at hown2
    rw [← e1]; exact Option.some.inj (hown.symm.trans hown2)
  have h6 := u_fits hfc hkC hkind (Or.inr hlay) hi (hc.2.2.1 j hj) hn hfit
  refine W.putFinK hx hbc hown (hts _ hlk) hi hst hcf (hmn.trans hnm) (by rw [q2]; exact h6) q1 q3 (by rw [hsl]; exact k2_hasslot (q4 j hj)) rfl rfl hd fun H' e1 e2 e3 => ?_
  rw [hsl] at e1 ⊢
  have hD : va_D (gA κ) (gL κ n w) := gL_D
  have he : (gL κ n w)[a]? = some (κ 0 + a, .inr (ci, fs)) := by rw [gL_at ha, hwa]
  exact k p l e R s m args below meth c H' _ cells slots mc ms Z ls hX hl (gW_set ha hw e2 (hw.1.set hD he ⟨_, hc.1, t_OB.to (V := updV (vp_V fs) j v) ⟨_, e1, q2, q3, t_set q4 hap hj v⟩ (fun i _ => vp_updV_set hlen v i)⟩ e3)) (hS.put e2 e3 (hD.2 a _ he)) h1 h2 h3 h4 hE
theorem g_iald {N : Nat} {f : Nat → Int32} {i : Int32} (hd : decode mi.2.1 pc = .ok (.iaload, 1)) (ha : a < n) (hwa : w a = .inl (κ 30, N, .inl f)) (hin : vp_in i N) (k : G κ d mi (pc + 1) lv (.int (f i.toNatClampNeg) :: st) n w cr sr Q) : G κ d mi pc lv (.int i :: .ref (κ 0 + a) :: st) n w cr sr Q := by
  intro p l e R s m args below meth c H locs cells slots mc ms Z ls hX hl hw hS h1 h2 h3 h4 hE
  exact va_iald hX.1 hX.2.1 hX.2.2.2.2.2.1 hw.1 a 0 (by rw [gL_at ha, hwa]) rfl hin hd (k p l e R s m args below meth c H locs cells slots mc ms Z ls hX hl hw hS h1 h2 h3 h4 hE)
theorem g_zald {N : Nat} {f : Nat → Int32} {i : Int32} (hd : decode mi.2.1 pc = .ok (.baload, 1)) (ha : a < n) (hwa : w a = .inl (κ 31, N, .inl f)) (hin : vp_in i N) (k : G κ d mi (pc + 1) lv (.int (f i.toNatClampNeg) :: st) n w cr sr Q) : G κ d mi pc lv (.int i :: .ref (κ 0 + a) :: st) n w cr sr Q := by
  intro p l e R s m args below meth c H locs cells slots mc ms Z ls hX hl hw hS h1 h2 h3 h4 hE
  exact va_zald hX.1 hX.2.1 hX.2.2.2.2.2.1 hw.1 a 1 (by rw [gL_at ha, hwa]) rfl hin hd (k p l e R s m args below meth c H locs cells slots mc ms Z ls hX hl hw hS h1 h2 h3 h4 hE)
theorem g_aald {N t0 : Nat} {cA : ClassId} {ty : FieldType} {f : Nat → Option Nat} {i : Int32} {v : Value} (hd : decode mi.2.1 pc = .ok (.aaload, 1)) (ha : a < n) (hwa : w a = .inl (cA, N, .inr (.inr (.inr (.inr f))))) (ht : (gTy κ)[t0]? = some (cA, ty)) (hty : ty.isReference = true) (hin : vp_in i N) (hv : va_rf (f i.toNatClampNeg) = v) (k : G κ d mi (pc + 1) lv (v :: st) n w cr sr Q) : G κ d mi pc lv (.int i :: .ref (κ 0 + a) :: st) n w cr sr Q := by
  intro p l e R s m args below meth c H locs cells slots mc ms Z ls hX hl hw hS h1 h2 h3 h4 hE
  have hlt : i.toNatClampNeg < N := Nat.not_le.mp fun q => hin (Or.inr q)
  have hwa' : (gL κ n w)[a]? = some (κ 0 + a, .inl (cA, N, .inr (.inr (.inr (.inr f))))) := by rw [gL_at ha, hwa]
  have hcell : H[κ 0 + a]? = some (vp_cell cA (N, .inr (.inr (.inr (.inr f))))) := hw.1 a _ hwa'
  exact W.aald (v := v) (ty := ty) hX.1 hX.2.1 hcell ((hX.2.2.2.2.2.1.2 t0 _ ht).1 N (fun j => va_rf (f j))) hty (fun q => by cases q) (by show ¬ (i < 0 ∨ (arrV _ _ _).slots.size ≤ _); rw [arrV_size]; exact hin) (by show (arrV _ _ _).slots[_]? = _; rw [arrV_read _ _ hlt, hv]) rfl rfl hd (k p l e R s m args below meth c H locs cells slots mc ms Z ls hX hl hw hS h1 h2 h3 h4 hE)
theorem g_iast {N : Nat} {f : Nat → Int32} {i x : Int32} (hd : decode mi.2.1 pc = .ok (.iastore, 1)) (ha : a < n) (hwa : w a = .inl (κ 30, N, .inl f)) (hin : vp_in i N) (k : G κ d mi (pc + 1) lv st n (va_up w a (.inl (κ 30, N, .inl (upd f i.toNatClampNeg x)))) cr sr Q) : G κ d mi pc lv (.int x :: .int i :: .ref (κ 0 + a) :: st) n w cr sr Q := by
  intro p l e R s m args below meth c H locs cells slots mc ms Z ls hX hl hw hS h1 h2 h3 h4 hE
  have hwa' : (gL κ n w)[a]? = some (κ 0 + a, .inl (κ 30, N, .inl f)) := by rw [gL_at ha, hwa]
  refine W.iast hX.1 hX.2.1 (hw.1 a _ hwa') ((hX.2.2.2.2.2.1.2 0 _ rfl).1 N (fun j => .int (f j))) (fun q => by cases q) (by show ¬ (i < 0 ∨ (arrV _ _ _).slots.size ≤ _); rw [arrV_size]; exact hin) rfl rfl hd fun H1 ee z oq => ?_
  refine k p l e R s m args below meth c H1 _ cells slots mc ms Z ls hX hl (gW_set ha hw z (hw.1.set gL_D hwa' ?_ oq)) (hS.put z oq (gL_D.2 a _ hwa')) h1 h2 h3 h4 hE
  show H1[κ 0 + a]? = some (vp_cell _ _)
  rw [ee]
  rw [vp_cell_i, vp_cell_i, arrV_store]
  congr 2
  funext q
  by_cases hq : q = i.toNatClampNeg
  · subst hq
    simp [updV, upd]
  · simp [updV, upd, hq]
theorem g_zast {N : Nat} {f : Nat → Int32} {i x : Int32} (hd : decode mi.2.1 pc = .ok (.bastore, 1)) (ha : a < n) (hwa : w a = .inl (κ 31, N, .inl f)) (hin : vp_in i N) (hx : vp_nar .boolean x = x) (k : G κ d mi (pc + 1) lv st n (va_up w a (.inl (κ 31, N, .inl (upd f i.toNatClampNeg x)))) cr sr Q) : G κ d mi pc lv (.int x :: .int i :: .ref (κ 0 + a) :: st) n w cr sr Q := by
  intro p l e R s m args below meth c H locs cells slots mc ms Z ls hX hl hw hS h1 h2 h3 h4 hE
  have hwa' : (gL κ n w)[a]? = some (κ 0 + a, .inl (κ 31, N, .inl f)) := by rw [gL_at ha, hwa]
  refine W.zast hX.1 hX.2.1 (hw.1 a _ hwa') ((hX.2.2.2.2.2.1.2 1 _ rfl).1 N (fun j => .int (f j))) (fun q => by cases q) (by show ¬ (i < 0 ∨ (arrV _ _ _).slots.size ≤ _); rw [arrV_size]; exact hin) rfl rfl hd fun H1 ee z oq => ?_
  refine k p l e R s m args below meth c H1 _ cells slots mc ms Z ls hX hl (gW_set ha hw z (hw.1.set gL_D hwa' ?_ oq)) (hS.put z oq (gL_D.2 a _ hwa')) h1 h2 h3 h4 hE
  show H1[κ 0 + a]? = some (vp_cell _ _)
  rw [ee]
  rw [vp_cell_i, vp_cell_i, arrV_store]
  congr 2
  funext q
  by_cases hq : q = i.toNatClampNeg
  · subst hq
    conv => rhs; rw [← hx]
    simp [updV, upd, vp_nar]
    try rfl
  · simp [updV, upd, hq]
theorem g_alen {t0 : Nat} {cA : ClassId} {x : vp_A} {ty : FieldType} {v : Int32} (hd : decode mi.2.1 pc = .ok (.arraylength, 1)) (ha : a < n) (hwa : w a = .inl (cA, x)) (ht : (gTy κ)[t0]? = some (cA, ty)) (hv : Int32.ofNat x.1 = v) (k : G κ d mi (pc + 1) lv (.int v :: st) n w cr sr Q) : G κ d mi pc lv (.ref (κ 0 + a) :: st) n w cr sr Q := by
  intro p l e R s m args below meth c H locs cells slots mc ms Z ls hX hl hw hS h1 h2 h3 h4 hE
  exact va_alen hX.1 hX.2.1 hX.2.2.2.2.2.1 hw.1 a t0 (by rw [gL_at ha, hwa]) ht hv hd (k p l e R s m args below meth c H locs cells slots mc ms Z ls hX hl hw hS h1 h2 h3 h4 hE)
/-- a static of the tables -/
theorem g_gets {C f0 d0 : String} {v : Value} (hd : decode mi.2.1 pc = .ok (.getstatic idx, 3)) (hZ : ∀ U H, gT κ U H → va_Z C f0 d0 v (gA κ) U H) (hlk : Cond.fieldLink mi.1 idx C f0 d0 ∈ lw_g) (k : G κ d mi (pc + 3) lv (v :: st) n w cr sr Q) : G κ d mi pc lv st n w cr sr Q := by
  intro p l e R s m args below meth c H locs cells slots mc ms Z ls hX hl hw hS h1 h2 h3 h4 hE
  exact va_gets hX.1 hX.2.1 (hZ _ _ hX.2.2.2.2.2.2.1) hS hX.2.2.2.1 (hX.2.2.2.2.1 _ hlk) (fun _ h => h) hd (k p l e R s m args below meth c H locs cells slots mc ms Z ls hX hl hw hS h1 h2 h3 h4 hE)
theorem g_tald {t N : Nat} {f : Nat → Value} {i : Int32} {v : Value} (hd : decode mi.2.1 pc = .ok (.iaload, 1)) (hT : ∀ U H, gT κ U H → va_T .int t N f (gA κ) U H) (hin : vp_in i N) (hv : f i.toNatClampNeg = v) (k : G κ d mi (pc + 1) lv (v :: st) n w cr sr Q) : G κ d mi pc lv (.int i :: .ref t :: st) n w cr sr Q := by
  intro p l e R s m args below meth c H locs cells slots mc ms Z ls hX hl hw hS h1 h2 h3 h4 hE
  exact va_ti hX.1 hX.2.1 (hT _ _ hX.2.2.2.2.2.2.1) hS hin hv hd (k p l e R s m args below meth c H locs cells slots mc ms Z ls hX hl hw hS h1 h2 h3 h4 hE)
theorem g_bald {t N : Nat} {f : Nat → Value} {i : Int32} {v : Value} (hd : decode mi.2.1 pc = .ok (.baload, 1)) (hT : ∀ U H, gT κ U H → va_T .byte t N f (gA κ) U H) (hin : vp_in i N) (hv : f i.toNatClampNeg = v) (k : G κ d mi (pc + 1) lv (v :: st) n w cr sr Q) : G κ d mi pc lv (.int i :: .ref t :: st) n w cr sr Q := by
  intro p l e R s m args below meth c H locs cells slots mc ms Z ls hX hl hw hS h1 h2 h3 h4 hE
  exact va_tb hX.1 hX.2.1 (hT _ _ hX.2.2.2.2.2.2.1) hS hin hv hd (k p l e R s m args below meth c H locs cells slots mc ms Z ls hX hl hw hS h1 h2 h3 h4 hE)
theorem g_tlen {t N : Nat} {ty : FieldType} {f : Nat → Value} (hd : decode mi.2.1 pc = .ok (.arraylength, 1)) (hT : ∀ U H, gT κ U H → va_T ty t N f (gA κ) U H) (k : G κ d mi (pc + 1) lv (.int (Int32.ofNat N) :: st) n w cr sr Q) : G κ d mi pc lv (.ref t :: st) n w cr sr Q := by
  intro p l e R s m args below meth c H locs cells slots mc ms Z ls hX hl hw hS h1 h2 h3 h4 hE
  obtain ⟨cell, g1, g2, g3, g4, g5, g6, g7⟩ := hT _ _ hX.2.2.2.2.2.2.1
  exact W.alen (n := Int32.ofNat N) hX.1 hX.2.1 (by rw [hS.2.1 t (Array.getElem?_eq_some_iff.mp g1).1 g7]; exact g1) g2 g5 rfl rfl hd (k p l e R s m args below meth c H locs cells slots mc ms Z ls hX hl hw hS h1 h2 h3 h4 hE)
/-- a field of a constant object -/
theorem g_getO {o f0 d0 : String} {t : Nat} {v : Value} (hd : decode mi.2.1 pc = .ok (.getfield idx, 3)) (hT : ∀ U H, gT κ U H → va_OF o f0 d0 v t (gA κ) U H) (hlk : Cond.fieldLink mi.1 idx o f0 d0 ∈ lw_g) (k : G κ d mi (pc + 3) lv (v :: st) n w cr sr Q) : G κ d mi pc lv (.ref t :: st) n w cr sr Q := by
  intro p l e R s m args below meth c H locs cells slots mc ms Z ls hX hl hw hS h1 h2 h3 h4 hE
  exact vk_getf hX.1 hX.2.1 (hT _ _ hX.2.2.2.2.2.2.1) hS hX.2.2.2.1 (hX.2.2.2.2.1 _ hlk) (fun _ h => h) hd (k p l e R s m args below meth c H locs cells slots mc ms Z ls hX hl hw hS h1 h2 h3 h4 hE)
theorem g_mmax {x y : Int32} (hd : decode mi.2.1 pc = .ok (.invokestatic idx, 3)) (hlk : Cond.methodLink mi.1 idx Lib.Math.max.name ∈ lw_g) (hm : Cond.static Lib.Math.max.name ∈ lw_g ∧ Cond.initialized "java/lang/Math" ∈ lw_g ∧ Cond.code Lib.Math.max.name Lib.Math.max.code 2 (some .int) ∈ lw_g) (hst : (st.map fun v => v.category).sum ≤ 8) (hdd : 1 ≤ d) (k : G κ d mi (pc + 3) lv (.int (if x < y then y else x) :: st) n w cr sr Q) : G κ d mi pc lv (.int y :: .int x :: st) n w cr sr Q := by
  intro p l e R s m args below meth c H locs cells slots mc ms Z ls hX hl hw hS h1 h2 h3 h4 hE
  obtain ⟨hx, hbc, hml, hown, hts, hK, hT, hN, h0, ⟨hf, hlo⟩, -⟩ := id hX
  exact va_mmax hx hbc (hml.trans hl.1.symm) hown (hts _ hlk) (hts _ hm.1) (hts _ hm.2.1) (hts _ hm.2.2) (by omega) (by omega) (by omega) (by omega) hd (k p l e R s m args below meth c H locs cells slots mc ms Z ls hX hl hw hS h1 h2 h3 h4 hE)
theorem g_mmin {x y : Int32} (hd : decode mi.2.1 pc = .ok (.invokestatic idx, 3)) (hlk : Cond.methodLink mi.1 idx Lib.Math.min.name ∈ lw_g) (hm : Cond.static Lib.Math.min.name ∈ lw_g ∧ Cond.initialized "java/lang/Math" ∈ lw_g ∧ Cond.code Lib.Math.min.name Lib.Math.min.code 2 (some .int) ∈ lw_g) (hst : (st.map fun v => v.category).sum ≤ 8) (hdd : 1 ≤ d) (k : G κ d mi (pc + 3) lv (.int (if y < x then y else x) :: st) n w cr sr Q) : G κ d mi pc lv (.int y :: .int x :: st) n w cr sr Q := by
  intro p l e R s m args below meth c H locs cells slots mc ms Z ls hX hl hw hS h1 h2 h3 h4 hE
  obtain ⟨hx, hbc, hml, hown, hts, hK, hT, hN, h0, ⟨hf, hlo⟩, -⟩ := id hX
  exact va_mmin hx hbc (hml.trans hl.1.symm) hown (hts _ hlk) (hts _ hm.1) (hts _ hm.2.1) (hts _ hm.2.2) (by omega) (by omega) (by omega) (by omega) hd (k p l e R s m args below meth c H locs cells slots mc ms Z ls hX hl hw hS h1 h2 h3 h4 hE)
end GH

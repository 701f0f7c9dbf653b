theorem gTy_at {κ : Nat → Nat} {s : State} (hK : va_K (gD κ) vwCl (gTy κ) s) {t0 : Nat} {cA : ClassId} {ty : FieldType} (ht : (gTy κ)[t0]? = some (cA, ty)) {cB : ClassId} (hn : s.vm.findClass ("[" ++ ty.toString) = some cB) : cB = cA := by
  have h := (hK.2 t0 _ ht).2
  cases ty with
  | object C =>
    obtain ⟨kA, comp, -, -, -, h4⟩ := h
    exact Option.some.inj (hn.symm.trans h4)
  | _ => exact Option.some.inj (hn.symm.trans h)
section GA
variable {κ : Nat → Nat} {d : Nat} {mi : gMI} {pc : Nat} {lv : List (Nat × Value)} {st : List Value} {n : Nat} {w : gWd} {cr sr : Nat} {Q : gQ} {a idx : Nat}
set_option maxHeartbeats 1000000 in
theorem g_new {ci N : Nat} {C : String} {T : u_T} {ty : Nat → FieldType} {fs : List Value} (hd : decode mi.2.1 pc = .ok (.new idx, 3)) (hc : gCl ci C T N ty) (hlk : Cond.classLink mi.1 idx C ∈ lw_g) (hi : Cond.instantiable C N ∈ lw_g ∧ Cond.initialized C ∈ lw_g) (hfs : ∀ j, j < N → defaultValue (ty j) = vp_V fs j)
    (k : G κ d mi (pc + 3) lv (.ref (κ 0 + n) :: st) (n + 1) (va_up w n (.inr (ci, fs))) cr sr Q) : G κ d mi pc lv st n w (cr + 1) (sr + N) Q := by
  intro p l e R s m args below meth c H locs cells slots mc ms Z ls hX hl hw hS h1 h2 h3 h4 hE
  obtain ⟨hx, hbc, hml, hown, hts, hK, hT, hN, h0, hf, hmn⟩ := id hX
  have hKn := hK.1 ci _ hc.1
  refine W.newcK hx hbc hown (hts _ hlk) (hts _ hi.1) (hts _ hi.2) rfl hd (by omega) (by omega) hKn.2.1 hw.2 fun H1 kC hkC e1 z1 o1 => ?_
  refine k p l e R s m args below meth c H1 locs (cells + 1) (slots + N) mc ms Z ls hX hl (gW_push hw (by rw [z1, hw.2]) (fun q hq => o1 q (by rw [← hw.2]; exact hq)) ?_) (hS.push (by rw [z1, hw.2]; omega) (fun q hq => o1 q (by rw [← hw.2]; exact hq))) (by omega) (by omega) h3 h4 hE
  exact ⟨_, hc.1, (u_born ty hts hc.2.1 hKn hkC e1 hc.2.2.1).to hfs⟩
set_option maxHeartbeats 1000000 in
/-- new int[N], new boolean[N] -/
theorem g_newa {t0 : Nat} {cA : ClassId} {x : Int32} (N : Nat) (atype : ArrayType) (ty : FieldType) (hd : decode mi.2.1 pc = .ok (.newarray atype, 2)) (hty : newarray.typeOf atype = ty) (ht : (gTy κ)[t0]? = some (cA, ty)) (hlk : Cond.arrayClass ty ∈ lw_g) (hdf : defaultValue ty = .int 0) (hx0 : ¬ x < 0) (hN : x.toNatClampNeg = N) (hb : N * componentBytes ty ≤ 536870912)
    (k : G κ d mi (pc + 2) lv (.ref (κ 0 + n) :: st) (n + 1) (va_up w n (.inl (cA, N, .inl (fun _ => 0)))) cr sr Q) : G κ d mi pc lv (.int x :: st) n w (cr + 1) (sr + N) Q := by
  intro p l e R s m args below meth c H locs cells slots mc ms Z ls hX hl hw hS h1 h2 h3 h4 hE
  obtain ⟨hx, hbc, hml, hown, hts, hK, hT, hNn, h0, hf, hmn⟩ := id hX
  subst hty
  refine va_newaK hx hbc (hts _ hlk) rfl hd rfl hx0 hN hb (by omega) (by omega) hw.2 fun H1 cB e1 z1 o1 hAr hNm => ?_
  have hcB : cB = cA := gTy_at hK ht hNm
  subst hcB
  refine k p l e R s m args below meth c H1 locs (cells + 1) (slots + N) mc ms Z ls hX hl (gW_push hw (by rw [z1, hw.2]) (fun q hq => o1 q (by rw [← hw.2]; exact hq)) ?_) (hS.push (by rw [z1, hw.2]; omega) (fun q hq => o1 q (by rw [← hw.2]; exact hq))) (by omega) (by omega) h3 h4 hE
  show H1[κ 0 + n]? = some (vp_cell _ _)
  rw [vp_cell_i, e1, hdf]
set_option maxHeartbeats 1000000 in
theorem g_anew {t0 : Nat} {cA : ClassId} {x : Int32} (N : Nat) (C : String) (hd : decode mi.2.1 pc = .ok (.anewarray idx, 3)) (ht : (gTy κ)[t0]? = some (cA, .object C)) (hlk : Cond.classLink mi.1 idx C ∈ lw_g) (hao : ∀ U, gN U → va_AO C U) (hx0 : ¬ x < 0) (hN : x.toNatClampNeg = N) (hb : N * 4 ≤ 536870912)
    (k : G κ d mi (pc + 3) lv (.ref (κ 0 + n) :: st) (n + 1) (va_up w n (.inl (cA, N, .inr (.inr (.inr (.inr (fun _ => none))))))) cr sr Q) : G κ d mi pc lv (.int x :: st) n w (cr + 1) (sr + N) Q := by
  intro p l e R s m args below meth c H locs cells slots mc ms Z ls hX hl hw hS h1 h2 h3 h4 hE
  obtain ⟨hx, hbc, hml, hown, hts, hK, hT, hNn, h0, hf, hmn⟩ := id hX
  subst hN
  refine W.anew hx hbc hown (hts _ hlk) (va_AO.use (hao s hNn)) rfl hd rfl hx0 hb (by omega) (by omega) fun cB kA comp f1 f2 f3 f4 => ?_
  have hcB : cB = cA := gTy_at hK ht f1
  subst hcB
  generalize hH1 : H.push ({ cls := cB, slots := Array.replicate x.toNatClampNeg .null, vm := .none } : Cell) = H1
  have z1 : H1.size = H.size + 1 := by rw [← hH1, Array.size_push]
  have e1 : H1[H.size]? = some (arrV cB x.toNatClampNeg (fun _ => .null)) := by rw [← hH1, Array.getElem?_push_size, ← arrV_new]
  have o1 : ∀ q : Nat, q < H.size → H1[q]? = H[q]? := fun q hq => by rw [← hH1, Array.getElem?_push, if_neg (Nat.ne_of_lt hq)]
  have hk := k p l e R s m args below meth c H1 locs (cells + 1) (slots + x.toNatClampNeg) mc ms Z ls hX hl (gW_push hw z1 o1 (by
    show H1[κ 0 + n]? = some (vp_cell _ _)
    rw [vp_cell_q, ← hw.2]
    exact e1)) (hS.push (by omega) o1) (by omega) (by omega) h3 h4 hE
  rw [← hw.2] at hk
  exact hk
set_option maxHeartbeats 1000000 in
/-- a reference into an array of objects -/
theorem g_aast {t0 ci N b : Nat} {cA : ClassId} {r : vw_C} {f : Nat → Option Nat} {i : Int32} {vs : List Value} (hd : decode mi.2.1 pc = .ok (.aastore, 1)) (ha : a < n) (hwa : w a = .inl (cA, N, .inr (.inr (.inr (.inr f))))) (ht : (gTy κ)[t0]? = some (cA, .object r.1)) (hb : b < n) (hwb : w b = .inr (ci, vs)) (hc : vwCl[ci]? = some r) (hin : vp_in i N)
    (k : G κ d mi (pc + 1) lv st n (va_up w a (.inl (cA, N, .inr (.inr (.inr (.inr (va_up f i.toNatClampNeg (some (κ 0 + b)))))))))  cr sr Q) : G κ d mi pc lv (.ref (κ 0 + b) :: .int i :: .ref (κ 0 + a) :: st) n w cr sr Q := by
  intro p l e R s m args below meth c H locs cells slots mc ms Z ls hX hl hw hS h1 h2 h3 h4 hE
  obtain ⟨hx, hbc, hml, hown, hts, hK, hT, hNn, h0, hf, hmn⟩ := id hX
  have hlt : i.toNatClampNeg < N := Nat.not_le.mp fun q => hin (Or.inr q)
  have hi0 : ¬ i < 0 := fun q => hin (Or.inl q)
  have hwa' : (gL κ n w)[a]? = some (κ 0 + a, .inl (cA, N, .inr (.inr (.inr (.inr f))))) := by rw [gL_at ha, hwa]
  have hcell : H[κ 0 + a]? = some (vp_cell cA (N, .inr (.inr (.inr (.inr f))))) := hw.1 a _ hwa'
  obtain ⟨r', hr', cellV, g1, g2, g3, -⟩ := hw.1 b (κ 0 + b, .inr (ci, vs)) (by rw [gL_at hb, hwb])
  have hcls := (hK.1 ci r hc).2
  obtain ⟨kA, comp, k1, k2, k3, -⟩ := (hK.2 t0 _ ht).2
  have hcomp : comp = (gD κ).1 ci := Option.some.inj (k3.symm.trans hcls.1)
  subst hcomp
  obtain ⟨kC, hkC, -⟩ := hcls.2
  refine W.aast hx hbc hcell (fun q h => by cases h) (fun h => by cases h) k1 k2 rfl hkC ⟨hi0, by show _ < (arrV _ _ _).slots.size; rw [arrV_size]; exact hlt⟩ g1 (fun q h => by rw [g3] at h; cases h) (by rw [g2]; exact hkC) (by rw [g2]; exact va_assign hcls) rfl rfl hd fun H1 ee z oq => ?_
  refine k p l e R s m args below meth c H1 _ cells slots mc ms Z ls hX hl (gW_set ha hw z (hw.1.set gL_D hwa' ?_ oq)) (hS.put z oq (gL_D.2 a _ hwa')) h1 h2 h3 h4 hE
  show H1[κ 0 + a]? = some (vp_cell _ _)
  rw [ee]
  rw [vp_cell_q, vp_cell_q, arrV_store]
  congr 2
  funext q
  by_cases hq : q = i.toNatClampNeg
  · subst hq
    simp [updV, va_up, va_rf]
  · simp [updV, va_up, hq]
theorem g_objInit {b : Nat} (hd : decode mi.2.1 pc = .ok (.invokespecial idx, 3)) (hlk : Cond.methodLink mi.1 idx Lib.objectInit ∈ lw_g) (ho : Cond.instanceMethod Lib.objectInit ∈ lw_g ∧ Cond.code Lib.objectInit ⟨#[0xb1]⟩ 1 none ∈ lw_g) (hdd : 1 ≤ d) (hst : (st.map fun v => v.category).sum ≤ 8) (k : G κ d mi (pc + 3) lv st n w cr sr Q) : G κ d mi pc lv (.ref b :: st) n w cr sr Q := by
  intro p l e R s m args below meth c H locs cells slots mc ms Z ls hX hl hw hS h1 h2 h3 h4 hE
  obtain ⟨hx, hbc, hml, hown, hts, hK, hT, hNn, h0, ⟨hf, hlo⟩, hmn⟩ := id hX
  have hroom := lv_room (m := m) (pc := pc) (ls := ls) (rest := .ref b :: st) hst
  exact W.objInit hx hbc hown (hts _ hlk) (hts _ ho.1) (hts _ ho.2) rfl (hl.1.trans hml.symm) rfl hd (by omega) (by omega) (k p l e R s m args below meth c H locs cells slots mc ms Z ls hX hl hw hS h1 h2 h3 h4 hE)
end GA

theorem nz_if {c : Prop} [Decidable c] {y : Int32} (e : y = if c then 1 else 0) : narrow .boolean (.int y) = .int y := by
  rw [e]
  by_cases hc : c
  · rw [if_pos hc]; rfl
  · rw [if_neg hc]; rfl
theorem nz_if' {c : Prop} [Decidable c] {y : Int32} (e : y = if c then 0 else 1) : narrow .boolean (.int y) = .int y := by
  rw [e]
  by_cases hc : c
  · rw [if_pos hc]; rfl
  · rw [if_neg hc]; rfl
/-- a word, or null -/
def wv (κ : Nat → Nat) (o : Option Nat) : Value := match o with
  | none => .null
  | some j => .ref (κ (40 + j))
def qW (κ : Nat → Nat) (o : Option Nat) (μ' : gMem) : rQ := fun v m => v = some (wv κ o) ∧ m = μ' ∧ ∀ j, o = some j → j < 12
def qC (r : Int32) (μ' : gMem) : rQ := fun v m => v = some (.int r) ∧ m = μ'
section EX
variable {κ : Nat → Nat} {N d : Nat} {mi : gMI} {pc : Nat} {lv : List (Nat × Value)} {sk : List Value} {n : Nat} {w : gWd} {cr sr : Nat} {Q : gQ} {μ μ' : gMem}
theorem g_aload_nN {j : Fin 4} {i : Nat} (hd : decode mi.2.1 pc = .ok (.aload_n j, 1)) (hj : (j : Nat) = i) (hg : gGet lv i = some .null) (k : G κ d mi (pc + 1) lv (.null :: sk) n w cr sr Q) : G κ d mi pc lv sk n w cr sr Q := by
  intro p l e R s m args below meth c H locs cells slots mc ms Z ls hX hl hw hS h1 h2 h3 h4 hE
  exact lv_aload_nN hX.1 hX.2.1 hd hj (hl.2.2 _ (gGet_mem hg)) (k p l e R s m args below meth c H locs cells slots mc ms Z ls hX hl hw hS h1 h2 h3 h4 hE)
theorem g_astore_nN {j : Fin 4} {i : Nat} (lv' : List (Nat × Value)) (hd : decode mi.2.1 pc = .ok (.astore_n j, 1)) (hj : (j : Nat) = i) (hn : i < mi.2.2.1) (hl' : gPut lv i .null = lv') (k : G κ d mi (pc + 1) lv' sk n w cr sr Q) : G κ d mi pc lv (.null :: sk) n w cr sr Q := by
  intro p l e R s m args below meth c H locs cells slots mc ms Z ls hX hl hw hS h1 h2 h3 h4 hE
  refine lv_astore_nN hX.1 hX.2.1 hd hj hl hn rfl (fun ls2 hl2 => k p l e R s m args below meth c H locs cells slots mc ms Z ls2 hX (hl2.le ?_) hw hS h1 h2 h3 h4 hE)
  rw [← hl']
  exact gPut_le
theorem r_wret {j : Nat} {o : Option Nat} {rt : FieldType} (hd : decode mi.2.1 pc = .ok (.areturn, 1)) (hr : mi.2.2.2.2 = some rt) (ho : ∃ n, rt = .object n) (hj : j < 12) (h1 : some j = o) (h2 : μ = μ') : RR κ N d mi pc lv [.ref (κ (40 + j))] μ (qW κ o μ') := g_aret hd hr (Or.inl ho) ⟨μ, rfl, rfl, by rw [← h1]; rfl, h2, fun i hi => by rw [← h1] at hi; cases hi; exact hj⟩
theorem r_nret {o : Option Nat} {rt : FieldType} (hd : decode mi.2.1 pc = .ok (.areturn, 1)) (hr : mi.2.2.2.2 = some rt) (ho : ∃ n, rt = .object n) (h1 : none = o) (h2 : μ = μ') : RR κ N d mi pc lv [.null] μ (qW κ o μ') := g_aretN hd hr (Or.inl ho) ⟨μ, rfl, rfl, by rw [← h1]; rfl, h2, fun i hi => by rw [← h1] at hi; cases hi⟩
end EX
theorem gRcW {κ : Nat → Nat} {U : State} {H : Heap} {j : Nat} (h : gT κ U H) (hj : j < 12) : ∃ cell : Cell, H[κ (40 + j)]? = some cell ∧ cell.vm.isStatics = false ∧ U.vm.findClass "SieveTub$Word" = some cell.cls := by
  obtain ⟨cell, h1, h2, h3, -⟩ := (h.2.2.2.1 j hj).1
  exact ⟨cell, h1, h2, h3⟩
theorem gRcS {κ : Nat → Nat} {U : State} {H : Heap} {j : Nat} (h : gT κ U H) (hj : j < 12) : ∃ cell : Cell, H[κ (70 + j)]? = some cell ∧ cell.vm.isStatics = false ∧ U.vm.findClass "java/lang/String" = some cell.cls := by
  obtain ⟨cell, h1, h2, h3, -⟩ := (h.2.2.2.2.1.1 j hj).1
  exact ⟨cell, h1, h2, h3⟩
theorem gStr_c {κ : Nat → Nat} {j : Nat} (hj : j < 12) : ∀ U H, gT κ U H → va_OF "java/lang/String" "coder" "B" (.int 0) (κ (70 + j)) (gA κ) U H := fun _ _ h => (h.2.2.2.2.1.1 j hj).2.1
theorem gStr_v {κ : Nat → Nat} {j : Nat} (hj : j < 12) : ∀ U H, gT κ U H → va_OF "java/lang/String" "value" "[B" (.ref (κ (90 + j))) (κ (70 + j)) (gA κ) U H := fun _ _ h => (h.2.2.2.2.1.1 j hj).2.2.1
theorem gStr_b {κ : Nat → Nat} {j : Nat} (hj : j < 12) : ∀ U H, gT κ U H → va_T .byte (κ (90 + j)) (gLen.getD j 0) (fun q => .int ((gByt.getD j []).getD q 0)) (gA κ) U H := fun _ _ h => (h.2.2.2.2.1.1 j hj).2.2.2
theorem gStr_z {κ : Nat → Nat} : ∀ U H, gT κ U H → va_Z "java/lang/String" "COMPACT_STRINGS" "Z" (.int 1) (gA κ) U H := fun _ _ h => h.2.2.2.2.2.1
theorem gStr_f {κ : Nat → Nat} : ∀ U H, gT κ U H → va_Z "jdk/internal/util/Preconditions" "SIOOBE_FORMATTER" "Ljava/util/function/BiFunction;" (gFm κ) (gA κ) U H := fun _ _ h => h.2.2.2.2.2.2.1
theorem pJ0_coder_7d493 : (parseMethodDescriptor yJ0_coder_7d493.desc).map (fun d => d.parameters.length) = some 0 := by decide +kernel
theorem pJ0_isLatin1_aae02 : (parseMethodDescriptor yJ0_isLatin1_aae02.desc).map (fun d => d.parameters.length) = some 0 := by decide +kernel
theorem pJ0_checkIndex_df160 : (parseMethodDescriptor yJ0_checkIndex_df160.desc).map (fun d => d.parameters.length) = some 2 := by decide +kernel
theorem pJ1_charAt_3b067 : (parseMethodDescriptor yJ1_charAt_3b067.desc).map (fun d => d.parameters.length) = some 2 := by decide +kernel
theorem pJ3_checkIndex_8e157 : (parseMethodDescriptor yJ3_checkIndex_8e157.desc).map (fun d => d.parameters.length) = some 3 := by decide +kernel
theorem c_J0_coder {κ : Nat → Nat} {N : Nat} {j : Nat} (hj : j < 12) (μ : gMem) : CT2 κ N 1 yJ0_coder_7d493 iJ0_coder_7d493 [.ref (κ (70 + j))] μ (qI 0 μ) := by
  refine CT2.of (by decide) rfl rfl (Nat.le_of_ble_eq_true rfl) ?_
  show RR κ N 1 iJ0_coder_7d493 0 [(0, .ref (κ (70 + j)))] [] μ _
  refine g_gets (pc := 0) dJ0_coder_7d493_0 gStr_z wF_J0_38 ?_
  refine g_if_eq (pc := 3) 13 dJ0_coder_7d493_3 (by decide) (fun z => absurd z (by decide)) (fun _ => ?_)
  refine g_aload_n (pc := 6) dJ0_coder_7d493_6 rfl rfl ?_
  refine g_getO (pc := 7) dJ0_coder_7d493_7 (gStr_c hj) wF_J0_15 ?_
  refine g_goto (pc := 10) 14 dJ0_coder_7d493_10 (by decide) ?_
  exact g_xret dJ0_coder_7d493_14 rfl rfl ⟨μ, rfl, rfl, rfl, rfl⟩
theorem c_J0_isLatin1 {κ : Nat → Nat} {N : Nat} {j : Nat} (hj : j < 12) (μ : gMem) : CT2 κ N 1 yJ0_isLatin1_aae02 iJ0_isLatin1_aae02 [.ref (κ (70 + j))] μ (qI 1 μ) := by
  refine CT2.of (by decide) rfl rfl (Nat.le_of_ble_eq_true rfl) ?_
  show RR κ N 1 iJ0_isLatin1_aae02 0 [(0, .ref (κ (70 + j)))] [] μ _
  refine g_gets (pc := 0) dJ0_isLatin1_aae02_0 gStr_z wF_J0_38 ?_
  refine g_if_eq (pc := 3) 17 dJ0_isLatin1_aae02_3 (by decide) (fun z => absurd z (by decide)) (fun _ => ?_)
  refine g_aload_n (pc := 6) dJ0_isLatin1_aae02_6 rfl rfl ?_
  refine g_getO (pc := 7) dJ0_isLatin1_aae02_7 (gStr_c hj) wF_J0_15 ?_
  refine g_if_ne (pc := 10) 17 dJ0_isLatin1_aae02_10 (by decide) (fun z => absurd rfl z) (fun _ => ?_)
  refine g_iconst (pc := 13) (v := (1 : Int32)) dJ0_isLatin1_aae02_13 rfl ?_
  refine g_goto (pc := 14) 18 dJ0_isLatin1_aae02_14 (by decide) ?_
  exact g_xret dJ0_isLatin1_aae02_18 rfl rfl ⟨μ, rfl, rfl, rfl, rfl⟩
theorem c_J3_check {κ : Nat → Nat} {N : Nat} {i x : Int32} {u : Value} (hu : u = .null ∨ ∃ a, u = .ref a) (h0 : ¬ i < 0) (h1 : i < x) (μ : gMem) : CT2 κ N 1 yJ3_checkIndex_8e157 iJ3_checkIndex_8e157 [.int i, .int x, u] μ (qI i μ) := by
  have e : (lg_sl [.int i, .int x, u]).length ≤ 3 ∧ lv_args 0 [.int i, .int x, u] = [(0, .int i), (1, .int x), (2, u)] := by
    rcases hu with rfl | ⟨a, rfl⟩
    · exact ⟨Nat.le_of_ble_eq_true rfl, rfl⟩
    · exact ⟨Nat.le_of_ble_eq_true rfl, rfl⟩
  refine CT2.of (by decide) rfl rfl e.1 ?_
  rw [e.2]
  refine g_iload_n (pc := 0) dJ3_checkIndex_8e157_0 rfl rfl ?_
  refine g_if_lt (pc := 1) 9 dJ3_checkIndex_8e157_1 (by decide) (fun z => absurd z h0) (fun _ => ?_)
  refine g_iload_n (pc := 4) dJ3_checkIndex_8e157_4 rfl rfl ?_
  refine g_iload_n (pc := 5) dJ3_checkIndex_8e157_5 rfl rfl ?_
  refine g_icmp_lt (pc := 6) 16 dJ3_checkIndex_8e157_6 (by decide) (fun _ => ?_) (fun z => absurd h1 z)
  refine g_iload_n (pc := 16) dJ3_checkIndex_8e157_16 rfl rfl ?_
  exact g_iret dJ3_checkIndex_8e157_17 rfl ⟨μ, rfl, rfl, rfl, rfl⟩
theorem c_J0_check {κ : Nat → Nat} {N : Nat} {i x : Int32} (h0 : ¬ i < 0) (h1 : i < x) (μ : gMem) : CT2 κ N 2 yJ0_checkIndex_df160 iJ0_checkIndex_df160 [.int i, .int x] μ (qV μ) := by
  have hu : gFm κ = .null ∨ ∃ a, gFm κ = .ref a := by
    unfold gFm
    split
    · exact Or.inl rfl
    · exact Or.inr ⟨_, rfl⟩
  refine CT2.of (by decide) rfl rfl (Nat.le_of_ble_eq_true rfl) ?_
  show RR κ N 2 iJ0_checkIndex_df160 0 [(0, .int i), (1, .int x)] [] μ _
  refine g_iload_n (pc := 0) dJ0_checkIndex_df160_0 rfl rfl ?_
  refine g_iload_n (pc := 1) dJ0_checkIndex_df160_1 rfl rfl ?_
  refine g_gets (pc := 2) dJ0_checkIndex_df160_2 gStr_f wF_J0_1053 ?_
  refine r_callS (pc := 5) (c_J3_check hu h0 h1 μ) yS_J3_checkIndex_8e157 pJ3_checkIndex_8e157 mL_J0_1059 dJ0_checkIndex_df160_5 (by decide) (Nat.le_of_ble_eq_true rfl) rfl (rK_i ?_)
  refine g_pop (pc := 8) dJ0_checkIndex_df160_8 rfl ?_
  exact r_vret dJ0_checkIndex_df160_9 rfl rfl
/-- the char of word j at k -/
def gCh (j : Nat) (k : Nat) : Int32 := (gByt.getD j []).getD k 0
theorem gCh_ok : ∀ j, j < 12 → ∀ k, k < gLen.getD j 0 → ((gCh j k &&& 255).toUInt32 % 65536).toInt32 = gCh j k ∧ narrow .char (.int (gCh j k)) = .int (gCh j k) := by decide +kernel
theorem gLen_lt : ∀ j, j < 12 → gLen.getD j 0 < 8 := by decide +kernel
theorem c_J1_charAt {κ : Nat → Nat} {N : Nat} {j : Nat} (hj : j < 12) {i : Int32} (hin : inb i (gLen.getD j 0) = true) (μ : gMem) : CT2 κ N 3 yJ1_charAt_3b067 iJ1_charAt_3b067 [.ref (κ (90 + j)), .int i] μ (qI (gCh j i.toNatClampNeg) μ) := by
  have hv := inb_in hin
  have hlt := inb_lt hin
  have h8 := gLen_lt j hj
  have h0 : ¬ i < 0 := fun z => hv (Or.inl z)
  have h1 : i < Int32.ofNat (gLen.getD j 0) := by
    obtain ⟨q, hq, rfl⟩ := vp_in_of hv (by omega)
    exact nI_lt hq (by omega)
  have hc := gCh_ok j hj _ hlt
  refine CT2.of (by decide) rfl rfl (Nat.le_of_ble_eq_true rfl) ?_
  show RR κ N 3 iJ1_charAt_3b067 0 [(0, .ref (κ (90 + j))), (1, .int i)] [] μ _
  refine g_iload_n (pc := 0) dJ1_charAt_3b067_0 rfl rfl ?_
  refine g_aload_n (pc := 1) dJ1_charAt_3b067_1 rfl rfl ?_
  refine g_tlen (pc := 2) dJ1_charAt_3b067_2 (gStr_b hj) ?_
  refine r_callS (pc := 3) (c_J0_check h0 h1 μ) yS_J0_checkIndex_df160 pJ0_checkIndex_df160 mL_J1_9 dJ1_charAt_3b067_3 (by decide) (Nat.le_of_ble_eq_true rfl) rfl (rK_v ?_)
  refine g_aload_n (pc := 6) dJ1_charAt_3b067_6 rfl rfl ?_
  refine g_iload_n (pc := 7) dJ1_charAt_3b067_7 rfl rfl ?_
  refine g_bald (pc := 8) (v := .int (gCh j i.toNatClampNeg)) dJ1_charAt_3b067_8 (gStr_b hj) hv rfl ?_
  refine g_sipush (pc := 9) (v := (255 : Int32)) dJ1_charAt_3b067_9 rfl ?_
  refine g_iand (pc := 12) dJ1_charAt_3b067_12 ?_
  refine g_i2c (pc := 13) dJ1_charAt_3b067_13 ?_
  rw [hc.1]
  exact g_xret dJ1_charAt_3b067_14 rfl hc.2 ⟨μ, rfl, rfl, rfl, rfl⟩
def f_J0_length_8abf5 (j : Nat) (μ : gMem) : Option (Int32 × gMem) := some (Int32.ofNat (gLen.getD j 0), μ)
def f_J0_charAt_5068e (j : Nat) (i : Int32) (μ : gMem) : Option (Int32 × gMem) := if inb i (gLen.getD j 0) = true then some (gCh j i.toNatClampNeg, μ) else none
theorem pJ0_length_8abf5 : (parseMethodDescriptor yJ0_length_8abf5.desc).map (fun d => d.parameters.length) = some 0 := by decide +kernel
theorem pJ0_charAt_5068e : (parseMethodDescriptor yJ0_charAt_5068e.desc).map (fun d => d.parameters.length) = some 1 := by decide +kernel
theorem c_J0_length_8abf5 {κ : Nat → Nat} {N : Nat} (hN : 140 ≤ N) (j : Nat) (hj : j < 12) (μ : gMem) {r : Int32} {μ' : gMem} (h : f_J0_length_8abf5 j μ = some (r, μ')) : CT2 κ N 2 yJ0_length_8abf5 iJ0_length_8abf5 [.ref (κ (70 + j))] μ (qI r μ') := by
  cases h
  refine CT2.of (by decide) rfl rfl (Nat.le_of_ble_eq_true rfl) ?_
  show RR κ N 2 iJ0_length_8abf5 0 [(0, .ref (κ (70 + j)))] [] μ _
  refine g_aload_n (pc := 0) dJ0_length_8abf5_0 rfl rfl ?_
  refine g_getO (pc := 1) dJ0_length_8abf5_1 (gStr_v hj) wF_J0_9 ?_
  refine g_tlen (pc := 4) dJ0_length_8abf5_4 (gStr_b hj) ?_
  refine g_aload_n (pc := 5) dJ0_length_8abf5_5 rfl rfl ?_
  refine r_callVT (pc := 6) (c_J0_coder hj μ) yV_J0_coder_7d493 (fun _ _ z => gRcS z hj) pJ0_coder_7d493 mL_J0_335 dJ0_length_8abf5_6 (by decide) (Nat.le_of_ble_eq_true rfl) rfl (rK_i ?_)
  refine g_ishr (pc := 9) dJ0_length_8abf5_9 ?_
  have e : Int32.ofNat (gLen.getD j 0) >>> ((0 : Int32) &&& 31) = Int32.ofNat (gLen.getD j 0) := sb_shr0 _
  rw [e]
  exact r_iret dJ0_length_8abf5_10 rfl rfl rfl
theorem c_J0_charAt_5068e {κ : Nat → Nat} {N : Nat} (hN : 140 ≤ N) (j : Nat) (i : Int32) (hj : j < 12) (μ : gMem) {r : Int32} {μ' : gMem} (h : f_J0_charAt_5068e j i μ = some (r, μ')) : CT2 κ N 4 yJ0_charAt_5068e iJ0_charAt_5068e [.ref (κ (70 + j)), .int i] μ (qI r μ') := by
  unfold f_J0_charAt_5068e at h
  obtain ⟨hin, h⟩ := gd_some h
  cases h
  have hc := gCh_ok j hj _ (inb_lt hin)
  refine CT2.of (by decide) rfl rfl (Nat.le_of_ble_eq_true rfl) ?_
  show RR κ N 4 iJ0_charAt_5068e 0 [(0, .ref (κ (70 + j))), (1, .int i)] [] μ _
  refine g_aload_n (pc := 0) dJ0_charAt_5068e_0 rfl rfl ?_
  refine r_callVT (pc := 1) (c_J0_isLatin1 hj μ) yV_J0_isLatin1_aae02 (fun _ _ z => gRcS z hj) pJ0_isLatin1_aae02 mL_J0_492 dJ0_charAt_5068e_1 (by decide) (Nat.le_of_ble_eq_true rfl) rfl (rK_i ?_)
  refine g_if_eq (pc := 4) 16 dJ0_charAt_5068e_4 (by decide) (fun z => absurd z (by decide)) (fun _ => ?_)
  refine g_aload_n (pc := 7) dJ0_charAt_5068e_7 rfl rfl ?_
  refine g_getO (pc := 8) dJ0_charAt_5068e_8 (gStr_v hj) wF_J0_9 ?_
  refine g_iload_n (pc := 11) dJ0_charAt_5068e_11 rfl rfl ?_
  refine r_callS (pc := 12) (c_J1_charAt hj hin μ) yS_J1_charAt_3b067 pJ1_charAt_3b067 mL_J0_495 dJ0_charAt_5068e_12 (by decide) (Nat.le_of_ble_eq_true rfl) rfl (rK_i ?_)
  exact g_xret dJ0_charAt_5068e_15 rfl hc.2 ⟨_, rfl, rfl, rfl, rfl⟩

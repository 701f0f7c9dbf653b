/-! THE LAW: a call of the script -/
abbrev iL (nm : String) : gMI := (RL, code, 4, nm, some .boolean)
def gXs (κ : Nat → Nat) (j : Nat) : Int32 := Int32.ofNat (κ (5000 + j))
abbrev lvL (κ : Nat → Nat) (i : Nat) : List (Nat × Value) := [(0, .ref (κ 65)), (1, .ref (κ 0 + 0)), (2, .ref (κ 0 + 140)), (3, .int (nI i))]
def qLaw : rQ := fun v _ => v = some (.int 1)
theorem r_scr {κ : Nat → Nat} {N d : Nat} {mi : gMI} {pc : Nat} {lv : List (Nat × Value)} {sk : List Value} {M : gMem} {Q : rQ} (j : Nat) {x : Int32} (hx : x = nI j) (h : j < κ 66) (hL : κ 66 ≤ 2560) (hd : decode mi.2.1 pc = .ok (.iaload, 1)) (k : RR κ N d mi (pc + 1) lv (.int (gXs κ j) :: sk) M Q) : RR κ N d mi pc lv (.int x :: .ref (κ 65) :: sk) M Q :=
  g_tald (t := κ 65) (N := κ 66) hd (fun _ _ z => z.2.2.2.2.2.2.2) (by rw [hx]; exact vp_in_nI h (by omega)) (by rw [hx, nI_clamp (by omega)]; rfl) k
set_option maxRecDepth 100000 in
set_option maxHeartbeats 1000000 in
theorem law_write {κ : Nat → Nat} {nm : String} {i : Nat} (hL : κ 66 ≤ 2560) (hi : i + 5 ≤ κ 66) {M : gMem} (hS : Sim M M) (K : ∀ M2 : gMem, Sim M2 M2 → RR κ 151 100 (iL nm) 834 (lvL κ i) [] M2 qLaw) : RR κ 151 100 (iL nm) 160 (lvL κ i) [] M qLaw := by
  obtain ⟨r, M1, M2, e1, e2, h2⟩ := res_seq (fun {μ ν} h => s_write (gXs κ (i + 1)) h) hS
  refine g_aload_n (pc := 160) dL_law_160 rfl rfl ?_
  refine g_aload_n (pc := 161) dL_law_161 rfl rfl ?_
  refine g_iload_n (pc := 162) dL_law_162 rfl rfl ?_
  refine g_iconst (pc := 163) (v := (1 : Int32)) dL_law_163 rfl ?_
  refine g_iadd (pc := 164) dL_law_164 ?_
  refine r_scr (pc := 165) (i + 1) (nI_add i 1) (by omega) hL dL_law_165 ?_
  refine r_callV (ci := 9) (b := 0) (pc := 166) (As := [.int (gXs κ (i + 1))]) (c_X10_write (by decide) (gXs κ (i + 1)) M e1) yV_X10_write ⟨rfl, by decide⟩ pX10_write mL_L_13 dL_law_166 (Nat.le_of_ble_eq_true rfl) (Nat.le_of_ble_eq_true rfl) (by decide) kd_0 rfl (rK_i ?_)
  refine g_aload_n (pc := 169) dL_law_169 rfl rfl ?_
  refine g_aload_n (pc := 170) dL_law_170 rfl rfl ?_
  refine g_iload_n (pc := 171) dL_law_171 rfl rfl ?_
  refine g_iconst (pc := 172) (v := (1 : Int32)) dL_law_172 rfl ?_
  refine g_iadd (pc := 173) dL_law_173 ?_
  refine r_scr (pc := 174) (i + 1) (nI_add i 1) (by omega) hL dL_law_174 ?_
  refine r_callV (ci := 10) (b := 140) (pc := 175) (As := [.int (gXs κ (i + 1))]) (c_X11_write (by decide) (gXs κ (i + 1)) M1 e2) yV_X11_write ⟨rfl, by decide⟩ pX11_write mL_L_17 dL_law_175 (Nat.le_of_ble_eq_true rfl) (Nat.le_of_ble_eq_true rfl) (by decide) kd_140 rfl (rK_i ?_)
  exact g_icmp_eq (pc := 178) 834 dL_law_178 (by decide) (fun _ => K M2 h2) (fun hc => absurd rfl hc)
set_option maxRecDepth 100000 in
set_option maxHeartbeats 1000000 in
theorem law_erase {κ : Nat → Nat} {nm : String} {i : Nat} (hL : κ 66 ≤ 2560) (hi : i + 5 ≤ κ 66) {M : gMem} (hS : Sim M M) (K : ∀ M2 : gMem, Sim M2 M2 → RR κ 151 100 (iL nm) 834 (lvL κ i) [] M2 qLaw) : RR κ 151 100 (iL nm) 183 (lvL κ i) [] M qLaw := by
  obtain ⟨r, M1, M2, e1, e2, h2⟩ := res_seq (fun {μ ν} h => s_erase  h) hS
  refine g_aload_n (pc := 183) dL_law_183 rfl rfl ?_
  refine r_callV (ci := 9) (b := 0) (pc := 184) (As := []) (c_X10_erase (by decide)  M e1) yV_X10_erase ⟨rfl, by decide⟩ pX10_erase mL_L_18 dL_law_184 (Nat.le_of_ble_eq_true rfl) (Nat.le_of_ble_eq_true rfl) (by decide) kd_0 rfl (rK_i ?_)
  refine g_aload_n (pc := 187) dL_law_187 rfl rfl ?_
  refine r_callV (ci := 10) (b := 140) (pc := 188) (As := []) (c_X11_erase (by decide)  M1 e2) yV_X11_erase ⟨rfl, by decide⟩ pX11_erase mL_L_22 dL_law_188 (Nat.le_of_ble_eq_true rfl) (Nat.le_of_ble_eq_true rfl) (by decide) kd_140 rfl (rK_i ?_)
  exact g_icmp_eq (pc := 191) 834 dL_law_191 (by decide) (fun _ => K M2 h2) (fun hc => absurd rfl hc)
set_option maxRecDepth 100000 in
set_option maxHeartbeats 1000000 in
theorem law_fault {κ : Nat → Nat} {nm : String} {i : Nat} (hL : κ 66 ≤ 2560) (hi : i + 5 ≤ κ 66) {M : gMem} (hS : Sim M M) (K : ∀ M2 : gMem, Sim M2 M2 → RR κ 151 100 (iL nm) 834 (lvL κ i) [] M2 qLaw) : RR κ 151 100 (iL nm) 196 (lvL κ i) [] M qLaw := by
  obtain ⟨r, M1, M2, e1, e2, h2⟩ := res_seq (fun {μ ν} h => s_fault  h) hS
  refine g_aload_n (pc := 196) dL_law_196 rfl rfl ?_
  refine r_callV (ci := 9) (b := 0) (pc := 197) (As := []) (c_X10_fault (by decide)  M e1) yV_X10_fault ⟨rfl, by decide⟩ pX10_fault mL_L_23 dL_law_197 (Nat.le_of_ble_eq_true rfl) (Nat.le_of_ble_eq_true rfl) (by decide) kd_0 rfl (rK_i ?_)
  refine g_aload_n (pc := 200) dL_law_200 rfl rfl ?_
  refine r_callV (ci := 10) (b := 140) (pc := 201) (As := []) (c_X11_fault (by decide)  M1 e2) yV_X11_fault ⟨rfl, by decide⟩ pX11_fault mL_L_26 dL_law_201 (Nat.le_of_ble_eq_true rfl) (Nat.le_of_ble_eq_true rfl) (by decide) kd_140 rfl (rK_i ?_)
  exact g_icmp_eq (pc := 204) 834 dL_law_204 (by decide) (fun _ => K M2 h2) (fun hc => absurd rfl hc)
set_option maxRecDepth 100000 in
set_option maxHeartbeats 1000000 in
theorem law_well {κ : Nat → Nat} {nm : String} {i : Nat} (hL : κ 66 ≤ 2560) (hi : i + 5 ≤ κ 66) {M : gMem} (hS : Sim M M) (K : ∀ M2 : gMem, Sim M2 M2 → RR κ 151 100 (iL nm) 834 (lvL κ i) [] M2 qLaw) : RR κ 151 100 (iL nm) 209 (lvL κ i) [] M qLaw := by
  obtain ⟨r, M1, M2, e1, e2, h2⟩ := res_seq (fun {μ ν} h => s_well  h) hS
  refine g_aload_n (pc := 209) dL_law_209 rfl rfl ?_
  refine r_callV (ci := 9) (b := 0) (pc := 210) (As := []) (c_X10_well (by decide)  M e1) yV_X10_well ⟨rfl, by decide⟩ pX10_well mL_L_27 dL_law_210 (Nat.le_of_ble_eq_true rfl) (Nat.le_of_ble_eq_true rfl) (by decide) kd_0 rfl (rK_i ?_)
  refine g_aload_n (pc := 213) dL_law_213 rfl rfl ?_
  refine r_callV (ci := 10) (b := 140) (pc := 214) (As := []) (c_X11_well (by decide)  M1 e2) yV_X11_well ⟨rfl, by decide⟩ pX11_well mL_L_30 dL_law_214 (Nat.le_of_ble_eq_true rfl) (Nat.le_of_ble_eq_true rfl) (by decide) kd_140 rfl (rK_i ?_)
  exact g_icmp_eq (pc := 217) 834 dL_law_217 (by decide) (fun _ => K M2 h2) (fun hc => absurd rfl hc)
set_option maxRecDepth 100000 in
set_option maxHeartbeats 1000000 in
theorem law_sister {κ : Nat → Nat} {nm : String} {i : Nat} (hL : κ 66 ≤ 2560) (hi : i + 5 ≤ κ 66) {M : gMem} (hS : Sim M M) (K : ∀ M2 : gMem, Sim M2 M2 → RR κ 151 100 (iL nm) 834 (lvL κ i) [] M2 qLaw) : RR κ 151 100 (iL nm) 222 (lvL κ i) [] M qLaw := by
  obtain ⟨r, M1, M2, e1, e2, h2⟩ := res_seq (fun {μ ν} h => s_sister (gXs κ (i + 1)) (gXs κ (i + 2)) h) hS
  refine g_aload_n (pc := 222) dL_law_222 rfl rfl ?_
  refine g_aload_n (pc := 223) dL_law_223 rfl rfl ?_
  refine g_iload_n (pc := 224) dL_law_224 rfl rfl ?_
  refine g_iconst (pc := 225) (v := (1 : Int32)) dL_law_225 rfl ?_
  refine g_iadd (pc := 226) dL_law_226 ?_
  refine r_scr (pc := 227) (i + 1) (nI_add i 1) (by omega) hL dL_law_227 ?_
  refine g_aload_n (pc := 228) dL_law_228 rfl rfl ?_
  refine g_iload_n (pc := 229) dL_law_229 rfl rfl ?_
  refine g_iconst (pc := 230) (v := (2 : Int32)) dL_law_230 rfl ?_
  refine g_iadd (pc := 231) dL_law_231 ?_
  refine r_scr (pc := 232) (i + 2) (nI_add i 2) (by omega) hL dL_law_232 ?_
  refine r_callV (ci := 9) (b := 0) (pc := 233) (As := [.int (gXs κ (i + 1)), .int (gXs κ (i + 2))]) (c_X10_sister (by decide) (gXs κ (i + 1)) (gXs κ (i + 2)) M e1) yV_X10_sister ⟨rfl, by decide⟩ pX10_sister mL_L_31 dL_law_233 (Nat.le_of_ble_eq_true rfl) (Nat.le_of_ble_eq_true rfl) (by decide) kd_0 rfl (rK_i ?_)
  refine g_aload_n (pc := 236) dL_law_236 rfl rfl ?_
  refine g_aload_n (pc := 237) dL_law_237 rfl rfl ?_
  refine g_iload_n (pc := 238) dL_law_238 rfl rfl ?_
  refine g_iconst (pc := 239) (v := (1 : Int32)) dL_law_239 rfl ?_
  refine g_iadd (pc := 240) dL_law_240 ?_
  refine r_scr (pc := 241) (i + 1) (nI_add i 1) (by omega) hL dL_law_241 ?_
  refine g_aload_n (pc := 242) dL_law_242 rfl rfl ?_
  refine g_iload_n (pc := 243) dL_law_243 rfl rfl ?_
  refine g_iconst (pc := 244) (v := (2 : Int32)) dL_law_244 rfl ?_
  refine g_iadd (pc := 245) dL_law_245 ?_
  refine r_scr (pc := 246) (i + 2) (nI_add i 2) (by omega) hL dL_law_246 ?_
  refine r_callV (ci := 10) (b := 140) (pc := 247) (As := [.int (gXs κ (i + 1)), .int (gXs κ (i + 2))]) (c_X11_sister (by decide) (gXs κ (i + 1)) (gXs κ (i + 2)) M1 e2) yV_X11_sister ⟨rfl, by decide⟩ pX11_sister mL_L_35 dL_law_247 (Nat.le_of_ble_eq_true rfl) (Nat.le_of_ble_eq_true rfl) (by decide) kd_140 rfl (rK_i ?_)
  exact g_icmp_eq (pc := 250) 834 dL_law_250 (by decide) (fun _ => K M2 h2) (fun hc => absurd rfl hc)
set_option maxRecDepth 100000 in
set_option maxHeartbeats 1000000 in
theorem law_as {κ : Nat → Nat} {nm : String} {i : Nat} (hL : κ 66 ≤ 2560) (hi : i + 5 ≤ κ 66) {M : gMem} (hS : Sim M M) (K : ∀ M2 : gMem, Sim M2 M2 → RR κ 151 100 (iL nm) 834 (lvL κ i) [] M2 qLaw) : RR κ 151 100 (iL nm) 255 (lvL κ i) [] M qLaw := by
  obtain ⟨r, M1, M2, e1, e2, h2⟩ := res_seq (fun {μ ν} h => s_as (gXs κ (i + 1)) (gXs κ (i + 2)) h) hS
  refine g_aload_n (pc := 255) dL_law_255 rfl rfl ?_
  refine g_aload_n (pc := 256) dL_law_256 rfl rfl ?_
  refine g_iload_n (pc := 257) dL_law_257 rfl rfl ?_
  refine g_iconst (pc := 258) (v := (1 : Int32)) dL_law_258 rfl ?_
  refine g_iadd (pc := 259) dL_law_259 ?_
  refine r_scr (pc := 260) (i + 1) (nI_add i 1) (by omega) hL dL_law_260 ?_
  refine g_aload_n (pc := 261) dL_law_261 rfl rfl ?_
  refine g_iload_n (pc := 262) dL_law_262 rfl rfl ?_
  refine g_iconst (pc := 263) (v := (2 : Int32)) dL_law_263 rfl ?_
  refine g_iadd (pc := 264) dL_law_264 ?_
  refine r_scr (pc := 265) (i + 2) (nI_add i 2) (by omega) hL dL_law_265 ?_
  refine r_callV (ci := 9) (b := 0) (pc := 266) (As := [.int (gXs κ (i + 1)), .int (gXs κ (i + 2))]) (c_X10_as (by decide) (gXs κ (i + 1)) (gXs κ (i + 2)) M e1) yV_X10_as ⟨rfl, by decide⟩ pX10_as mL_L_36 dL_law_266 (Nat.le_of_ble_eq_true rfl) (Nat.le_of_ble_eq_true rfl) (by decide) kd_0 rfl (rK_i ?_)
  refine g_aload_n (pc := 269) dL_law_269 rfl rfl ?_
  refine g_aload_n (pc := 270) dL_law_270 rfl rfl ?_
  refine g_iload_n (pc := 271) dL_law_271 rfl rfl ?_
  refine g_iconst (pc := 272) (v := (1 : Int32)) dL_law_272 rfl ?_
  refine g_iadd (pc := 273) dL_law_273 ?_
  refine r_scr (pc := 274) (i + 1) (nI_add i 1) (by omega) hL dL_law_274 ?_
  refine g_aload_n (pc := 275) dL_law_275 rfl rfl ?_
  refine g_iload_n (pc := 276) dL_law_276 rfl rfl ?_
  refine g_iconst (pc := 277) (v := (2 : Int32)) dL_law_277 rfl ?_
  refine g_iadd (pc := 278) dL_law_278 ?_
  refine r_scr (pc := 279) (i + 2) (nI_add i 2) (by omega) hL dL_law_279 ?_
  refine r_callV (ci := 10) (b := 140) (pc := 280) (As := [.int (gXs κ (i + 1)), .int (gXs κ (i + 2))]) (c_X11_as (by decide) (gXs κ (i + 1)) (gXs κ (i + 2)) M1 e2) yV_X11_as ⟨rfl, by decide⟩ pX11_as mL_L_39 dL_law_280 (Nat.le_of_ble_eq_true rfl) (Nat.le_of_ble_eq_true rfl) (by decide) kd_140 rfl (rK_i ?_)
  exact g_icmp_eq (pc := 283) 834 dL_law_283 (by decide) (fun _ => K M2 h2) (fun hc => absurd rfl hc)
set_option maxRecDepth 100000 in
set_option maxHeartbeats 1000000 in
theorem law_sieveAs {κ : Nat → Nat} {nm : String} {i : Nat} (hL : κ 66 ≤ 2560) (hi : i + 5 ≤ κ 66) {M : gMem} (hS : Sim M M) (K : ∀ M2 : gMem, Sim M2 M2 → RR κ 151 100 (iL nm) 834 (lvL κ i) [] M2 qLaw) : RR κ 151 100 (iL nm) 288 (lvL κ i) [] M qLaw := by
  obtain ⟨r, M1, M2, e1, e2, h2⟩ := res_seq (fun {μ ν} h => s_sieveAs (gXs κ (i + 1)) (gXs κ (i + 2)) h) hS
  refine g_aload_n (pc := 288) dL_law_288 rfl rfl ?_
  refine g_aload_n (pc := 289) dL_law_289 rfl rfl ?_
  refine g_iload_n (pc := 290) dL_law_290 rfl rfl ?_
  refine g_iconst (pc := 291) (v := (1 : Int32)) dL_law_291 rfl ?_
  refine g_iadd (pc := 292) dL_law_292 ?_
  refine r_scr (pc := 293) (i + 1) (nI_add i 1) (by omega) hL dL_law_293 ?_
  refine g_aload_n (pc := 294) dL_law_294 rfl rfl ?_
  refine g_iload_n (pc := 295) dL_law_295 rfl rfl ?_
  refine g_iconst (pc := 296) (v := (2 : Int32)) dL_law_296 rfl ?_
  refine g_iadd (pc := 297) dL_law_297 ?_
  refine r_scr (pc := 298) (i + 2) (nI_add i 2) (by omega) hL dL_law_298 ?_
  refine r_callV (ci := 9) (b := 0) (pc := 299) (As := [.int (gXs κ (i + 1)), .int (gXs κ (i + 2))]) (c_X10_sieveAs (by decide) (gXs κ (i + 1)) (gXs κ (i + 2)) M e1) yV_X10_sieveAs ⟨rfl, by decide⟩ pX10_sieveAs mL_L_40 dL_law_299 (Nat.le_of_ble_eq_true rfl) (Nat.le_of_ble_eq_true rfl) (by decide) kd_0 rfl (rK_i ?_)
  refine g_aload_n (pc := 302) dL_law_302 rfl rfl ?_
  refine g_aload_n (pc := 303) dL_law_303 rfl rfl ?_
  refine g_iload_n (pc := 304) dL_law_304 rfl rfl ?_
  refine g_iconst (pc := 305) (v := (1 : Int32)) dL_law_305 rfl ?_
  refine g_iadd (pc := 306) dL_law_306 ?_
  refine r_scr (pc := 307) (i + 1) (nI_add i 1) (by omega) hL dL_law_307 ?_
  refine g_aload_n (pc := 308) dL_law_308 rfl rfl ?_
  refine g_iload_n (pc := 309) dL_law_309 rfl rfl ?_
  refine g_iconst (pc := 310) (v := (2 : Int32)) dL_law_310 rfl ?_
  refine g_iadd (pc := 311) dL_law_311 ?_
  refine r_scr (pc := 312) (i + 2) (nI_add i 2) (by omega) hL dL_law_312 ?_
  refine r_callV (ci := 10) (b := 140) (pc := 313) (As := [.int (gXs κ (i + 1)), .int (gXs κ (i + 2))]) (c_X11_sieveAs (by decide) (gXs κ (i + 1)) (gXs κ (i + 2)) M1 e2) yV_X11_sieveAs ⟨rfl, by decide⟩ pX11_sieveAs mL_L_43 dL_law_313 (Nat.le_of_ble_eq_true rfl) (Nat.le_of_ble_eq_true rfl) (by decide) kd_140 rfl (rK_i ?_)
  exact g_icmp_eq (pc := 316) 834 dL_law_316 (by decide) (fun _ => K M2 h2) (fun hc => absurd rfl hc)
set_option maxRecDepth 100000 in
set_option maxHeartbeats 1000000 in
theorem law_begin {κ : Nat → Nat} {nm : String} {i : Nat} (hL : κ 66 ≤ 2560) (hi : i + 5 ≤ κ 66) {M : gMem} (hS : Sim M M) (K : ∀ M2 : gMem, Sim M2 M2 → RR κ 151 100 (iL nm) 834 (lvL κ i) [] M2 qLaw) : RR κ 151 100 (iL nm) 321 (lvL κ i) [] M qLaw := by
  obtain ⟨r, M1, M2, e1, e2, h2⟩ := res_seq (fun {μ ν} h => s_begin (gXs κ (i + 1)) h) hS
  refine g_aload_n (pc := 321) dL_law_321 rfl rfl ?_
  refine g_aload_n (pc := 322) dL_law_322 rfl rfl ?_
  refine g_iload_n (pc := 323) dL_law_323 rfl rfl ?_
  refine g_iconst (pc := 324) (v := (1 : Int32)) dL_law_324 rfl ?_
  refine g_iadd (pc := 325) dL_law_325 ?_
  refine r_scr (pc := 326) (i + 1) (nI_add i 1) (by omega) hL dL_law_326 ?_
  refine r_callV (ci := 9) (b := 0) (pc := 327) (As := [.int (gXs κ (i + 1))]) (c_X10_begin (by decide) (gXs κ (i + 1)) M e1) yV_X10_begin ⟨rfl, by decide⟩ pX10_begin mL_L_44 dL_law_327 (Nat.le_of_ble_eq_true rfl) (Nat.le_of_ble_eq_true rfl) (by decide) kd_0 rfl (rK_i ?_)
  refine g_aload_n (pc := 330) dL_law_330 rfl rfl ?_
  refine g_aload_n (pc := 331) dL_law_331 rfl rfl ?_
  refine g_iload_n (pc := 332) dL_law_332 rfl rfl ?_
  refine g_iconst (pc := 333) (v := (1 : Int32)) dL_law_333 rfl ?_
  refine g_iadd (pc := 334) dL_law_334 ?_
  refine r_scr (pc := 335) (i + 1) (nI_add i 1) (by omega) hL dL_law_335 ?_
  refine r_callV (ci := 10) (b := 140) (pc := 336) (As := [.int (gXs κ (i + 1))]) (c_X11_begin (by decide) (gXs κ (i + 1)) M1 e2) yV_X11_begin ⟨rfl, by decide⟩ pX11_begin mL_L_47 dL_law_336 (Nat.le_of_ble_eq_true rfl) (Nat.le_of_ble_eq_true rfl) (by decide) kd_140 rfl (rK_i ?_)
  exact g_icmp_eq (pc := 339) 834 dL_law_339 (by decide) (fun _ => K M2 h2) (fun hc => absurd rfl hc)
set_option maxRecDepth 100000 in
set_option maxHeartbeats 1000000 in
theorem law_rest {κ : Nat → Nat} {nm : String} {i : Nat} (hL : κ 66 ≤ 2560) (hi : i + 5 ≤ κ 66) {M : gMem} (hS : Sim M M) (K : ∀ M2 : gMem, Sim M2 M2 → RR κ 151 100 (iL nm) 834 (lvL κ i) [] M2 qLaw) : RR κ 151 100 (iL nm) 344 (lvL κ i) [] M qLaw := by
  obtain ⟨r, M1, M2, e1, e2, h2⟩ := res_seq (fun {μ ν} h => s_rest (gXs κ (i + 1)) h) hS
  refine g_aload_n (pc := 344) dL_law_344 rfl rfl ?_
  refine g_aload_n (pc := 345) dL_law_345 rfl rfl ?_
  refine g_iload_n (pc := 346) dL_law_346 rfl rfl ?_
  refine g_iconst (pc := 347) (v := (1 : Int32)) dL_law_347 rfl ?_
  refine g_iadd (pc := 348) dL_law_348 ?_
  refine r_scr (pc := 349) (i + 1) (nI_add i 1) (by omega) hL dL_law_349 ?_
  refine r_callV (ci := 9) (b := 0) (pc := 350) (As := [.int (gXs κ (i + 1))]) (c_X10_rest (by decide) (gXs κ (i + 1)) M e1) yV_X10_rest ⟨rfl, by decide⟩ pX10_rest mL_L_48 dL_law_350 (Nat.le_of_ble_eq_true rfl) (Nat.le_of_ble_eq_true rfl) (by decide) kd_0 rfl (rK_i ?_)
  refine g_aload_n (pc := 353) dL_law_353 rfl rfl ?_
  refine g_aload_n (pc := 354) dL_law_354 rfl rfl ?_
  refine g_iload_n (pc := 355) dL_law_355 rfl rfl ?_
  refine g_iconst (pc := 356) (v := (1 : Int32)) dL_law_356 rfl ?_
  refine g_iadd (pc := 357) dL_law_357 ?_
  refine r_scr (pc := 358) (i + 1) (nI_add i 1) (by omega) hL dL_law_358 ?_
  refine r_callV (ci := 10) (b := 140) (pc := 359) (As := [.int (gXs κ (i + 1))]) (c_X11_rest (by decide) (gXs κ (i + 1)) M1 e2) yV_X11_rest ⟨rfl, by decide⟩ pX11_rest mL_L_51 dL_law_359 (Nat.le_of_ble_eq_true rfl) (Nat.le_of_ble_eq_true rfl) (by decide) kd_140 rfl (rK_i ?_)
  exact g_icmp_eq (pc := 362) 834 dL_law_362 (by decide) (fun _ => K M2 h2) (fun hc => absurd rfl hc)
set_option maxRecDepth 100000 in
set_option maxHeartbeats 1000000 in
theorem law_moss {κ : Nat → Nat} {nm : String} {i : Nat} (hL : κ 66 ≤ 2560) (hi : i + 5 ≤ κ 66) {M : gMem} (hS : Sim M M) (K : ∀ M2 : gMem, Sim M2 M2 → RR κ 151 100 (iL nm) 834 (lvL κ i) [] M2 qLaw) : RR κ 151 100 (iL nm) 367 (lvL κ i) [] M qLaw := by
  obtain ⟨r, M1, M2, e1, e2, h2⟩ := res_seq (fun {μ ν} h => s_moss (gXs κ (i + 1)) h) hS
  refine g_aload_n (pc := 367) dL_law_367 rfl rfl ?_
  refine g_aload_n (pc := 368) dL_law_368 rfl rfl ?_
  refine g_iload_n (pc := 369) dL_law_369 rfl rfl ?_
  refine g_iconst (pc := 370) (v := (1 : Int32)) dL_law_370 rfl ?_
  refine g_iadd (pc := 371) dL_law_371 ?_
  refine r_scr (pc := 372) (i + 1) (nI_add i 1) (by omega) hL dL_law_372 ?_
  refine r_callV (ci := 9) (b := 0) (pc := 373) (As := [.int (gXs κ (i + 1))]) (c_X10_moss (by decide) (gXs κ (i + 1)) M e1) yV_X10_moss ⟨rfl, by decide⟩ pX10_moss mL_L_52 dL_law_373 (Nat.le_of_ble_eq_true rfl) (Nat.le_of_ble_eq_true rfl) (by decide) kd_0 rfl (rK_i ?_)
  refine g_aload_n (pc := 376) dL_law_376 rfl rfl ?_
  refine g_aload_n (pc := 377) dL_law_377 rfl rfl ?_
  refine g_iload_n (pc := 378) dL_law_378 rfl rfl ?_
  refine g_iconst (pc := 379) (v := (1 : Int32)) dL_law_379 rfl ?_
  refine g_iadd (pc := 380) dL_law_380 ?_
  refine r_scr (pc := 381) (i + 1) (nI_add i 1) (by omega) hL dL_law_381 ?_
  refine r_callV (ci := 10) (b := 140) (pc := 382) (As := [.int (gXs κ (i + 1))]) (c_X11_moss (by decide) (gXs κ (i + 1)) M1 e2) yV_X11_moss ⟨rfl, by decide⟩ pX11_moss mL_L_55 dL_law_382 (Nat.le_of_ble_eq_true rfl) (Nat.le_of_ble_eq_true rfl) (by decide) kd_140 rfl (rK_i ?_)
  exact g_icmp_eq (pc := 385) 834 dL_law_385 (by decide) (fun _ => K M2 h2) (fun hc => absurd rfl hc)
set_option maxRecDepth 100000 in
set_option maxHeartbeats 1000000 in
theorem law_smear {κ : Nat → Nat} {nm : String} {i : Nat} (hL : κ 66 ≤ 2560) (hi : i + 5 ≤ κ 66) {M : gMem} (hS : Sim M M) (K : ∀ M2 : gMem, Sim M2 M2 → RR κ 151 100 (iL nm) 834 (lvL κ i) [] M2 qLaw) : RR κ 151 100 (iL nm) 390 (lvL κ i) [] M qLaw := by
  obtain ⟨r, M1, M2, e1, e2, h2⟩ := res_seq (fun {μ ν} h => s_smear (gXs κ (i + 1)) h) hS
  refine g_aload_n (pc := 390) dL_law_390 rfl rfl ?_
  refine g_aload_n (pc := 391) dL_law_391 rfl rfl ?_
  refine g_iload_n (pc := 392) dL_law_392 rfl rfl ?_
  refine g_iconst (pc := 393) (v := (1 : Int32)) dL_law_393 rfl ?_
  refine g_iadd (pc := 394) dL_law_394 ?_
  refine r_scr (pc := 395) (i + 1) (nI_add i 1) (by omega) hL dL_law_395 ?_
  refine r_callV (ci := 9) (b := 0) (pc := 396) (As := [.int (gXs κ (i + 1))]) (c_X10_smear (by decide) (gXs κ (i + 1)) M e1) yV_X10_smear ⟨rfl, by decide⟩ pX10_smear mL_L_56 dL_law_396 (Nat.le_of_ble_eq_true rfl) (Nat.le_of_ble_eq_true rfl) (by decide) kd_0 rfl (rK_i ?_)
  refine g_aload_n (pc := 399) dL_law_399 rfl rfl ?_
  refine g_aload_n (pc := 400) dL_law_400 rfl rfl ?_
  refine g_iload_n (pc := 401) dL_law_401 rfl rfl ?_
  refine g_iconst (pc := 402) (v := (1 : Int32)) dL_law_402 rfl ?_
  refine g_iadd (pc := 403) dL_law_403 ?_
  refine r_scr (pc := 404) (i + 1) (nI_add i 1) (by omega) hL dL_law_404 ?_
  refine r_callV (ci := 10) (b := 140) (pc := 405) (As := [.int (gXs κ (i + 1))]) (c_X11_smear (by decide) (gXs κ (i + 1)) M1 e2) yV_X11_smear ⟨rfl, by decide⟩ pX11_smear mL_L_59 dL_law_405 (Nat.le_of_ble_eq_true rfl) (Nat.le_of_ble_eq_true rfl) (by decide) kd_140 rfl (rK_i ?_)
  exact g_icmp_eq (pc := 408) 834 dL_law_408 (by decide) (fun _ => K M2 h2) (fun hc => absurd rfl hc)
set_option maxRecDepth 100000 in
set_option maxHeartbeats 1000000 in
theorem law_go {κ : Nat → Nat} {nm : String} {i : Nat} (hL : κ 66 ≤ 2560) (hi : i + 5 ≤ κ 66) {M : gMem} (hS : Sim M M) (K : ∀ M2 : gMem, Sim M2 M2 → RR κ 151 100 (iL nm) 834 (lvL κ i) [] M2 qLaw) : RR κ 151 100 (iL nm) 413 (lvL κ i) [] M qLaw := by
  obtain ⟨r, M1, M2, e1, e2, h2⟩ := res_seq (fun {μ ν} h => s_go (gXs κ (i + 1)) h) hS
  refine g_aload_n (pc := 413) dL_law_413 rfl rfl ?_
  refine g_aload_n (pc := 414) dL_law_414 rfl rfl ?_
  refine g_iload_n (pc := 415) dL_law_415 rfl rfl ?_
  refine g_iconst (pc := 416) (v := (1 : Int32)) dL_law_416 rfl ?_
  refine g_iadd (pc := 417) dL_law_417 ?_
  refine r_scr (pc := 418) (i + 1) (nI_add i 1) (by omega) hL dL_law_418 ?_
  refine r_callV (ci := 9) (b := 0) (pc := 419) (As := [.int (gXs κ (i + 1))]) (c_X10_go (by decide) (gXs κ (i + 1)) M e1) yV_X10_go ⟨rfl, by decide⟩ pX10_go mL_L_60 dL_law_419 (Nat.le_of_ble_eq_true rfl) (Nat.le_of_ble_eq_true rfl) (by decide) kd_0 rfl (rK_i ?_)
  refine g_aload_n (pc := 422) dL_law_422 rfl rfl ?_
  refine g_aload_n (pc := 423) dL_law_423 rfl rfl ?_
  refine g_iload_n (pc := 424) dL_law_424 rfl rfl ?_
  refine g_iconst (pc := 425) (v := (1 : Int32)) dL_law_425 rfl ?_
  refine g_iadd (pc := 426) dL_law_426 ?_
  refine r_scr (pc := 427) (i + 1) (nI_add i 1) (by omega) hL dL_law_427 ?_
  refine r_callV (ci := 10) (b := 140) (pc := 428) (As := [.int (gXs κ (i + 1))]) (c_X11_go (by decide) (gXs κ (i + 1)) M1 e2) yV_X11_go ⟨rfl, by decide⟩ pX11_go mL_L_63 dL_law_428 (Nat.le_of_ble_eq_true rfl) (Nat.le_of_ble_eq_true rfl) (by decide) kd_140 rfl (rK_i ?_)
  exact g_icmp_eq (pc := 431) 834 dL_law_431 (by decide) (fun _ => K M2 h2) (fun hc => absurd rfl hc)
set_option maxRecDepth 100000 in
set_option maxHeartbeats 1000000 in
theorem law_undo {κ : Nat → Nat} {nm : String} {i : Nat} (hL : κ 66 ≤ 2560) (hi : i + 5 ≤ κ 66) {M : gMem} (hS : Sim M M) (K : ∀ M2 : gMem, Sim M2 M2 → RR κ 151 100 (iL nm) 834 (lvL κ i) [] M2 qLaw) : RR κ 151 100 (iL nm) 436 (lvL κ i) [] M qLaw := by
  obtain ⟨r, M1, M2, e1, e2, h2⟩ := res_seq (fun {μ ν} h => s_undo  h) hS
  refine g_aload_n (pc := 436) dL_law_436 rfl rfl ?_
  refine r_callV (ci := 9) (b := 0) (pc := 437) (As := []) (c_X10_undo (by decide)  M e1) yV_X10_undo ⟨rfl, by decide⟩ pX10_undo mL_L_64 dL_law_437 (Nat.le_of_ble_eq_true rfl) (Nat.le_of_ble_eq_true rfl) (by decide) kd_0 rfl (rK_i ?_)
  refine g_aload_n (pc := 440) dL_law_440 rfl rfl ?_
  refine r_callV (ci := 10) (b := 140) (pc := 441) (As := []) (c_X11_undo (by decide)  M1 e2) yV_X11_undo ⟨rfl, by decide⟩ pX11_undo mL_L_67 dL_law_441 (Nat.le_of_ble_eq_true rfl) (Nat.le_of_ble_eq_true rfl) (by decide) kd_140 rfl (rK_i ?_)
  exact g_icmp_eq (pc := 444) 834 dL_law_444 (by decide) (fun _ => K M2 h2) (fun hc => absurd rfl hc)
set_option maxRecDepth 100000 in
set_option maxHeartbeats 1000000 in
theorem law_keep {κ : Nat → Nat} {nm : String} {i : Nat} (hL : κ 66 ≤ 2560) (hi : i + 5 ≤ κ 66) {M : gMem} (hS : Sim M M) (K : ∀ M2 : gMem, Sim M2 M2 → RR κ 151 100 (iL nm) 834 (lvL κ i) [] M2 qLaw) : RR κ 151 100 (iL nm) 449 (lvL κ i) [] M qLaw := by
  obtain ⟨r, M1, M2, e1, e2, h2⟩ := res_seq (fun {μ ν} h => s_keep (gXs κ (i + 1)) h) hS
  refine g_aload_n (pc := 449) dL_law_449 rfl rfl ?_
  refine g_aload_n (pc := 450) dL_law_450 rfl rfl ?_
  refine g_iload_n (pc := 451) dL_law_451 rfl rfl ?_
  refine g_iconst (pc := 452) (v := (1 : Int32)) dL_law_452 rfl ?_
  refine g_iadd (pc := 453) dL_law_453 ?_
  refine r_scr (pc := 454) (i + 1) (nI_add i 1) (by omega) hL dL_law_454 ?_
  refine r_callV (ci := 9) (b := 0) (pc := 455) (As := [.int (gXs κ (i + 1))]) (c_X10_keep (by decide) (gXs κ (i + 1)) M e1) yV_X10_keep ⟨rfl, by decide⟩ pX10_keep mL_L_68 dL_law_455 (Nat.le_of_ble_eq_true rfl) (Nat.le_of_ble_eq_true rfl) (by decide) kd_0 rfl (rK_i ?_)
  refine g_aload_n (pc := 458) dL_law_458 rfl rfl ?_
  refine g_aload_n (pc := 459) dL_law_459 rfl rfl ?_
  refine g_iload_n (pc := 460) dL_law_460 rfl rfl ?_
  refine g_iconst (pc := 461) (v := (1 : Int32)) dL_law_461 rfl ?_
  refine g_iadd (pc := 462) dL_law_462 ?_
  refine r_scr (pc := 463) (i + 1) (nI_add i 1) (by omega) hL dL_law_463 ?_
  refine r_callV (ci := 10) (b := 140) (pc := 464) (As := [.int (gXs κ (i + 1))]) (c_X11_keep (by decide) (gXs κ (i + 1)) M1 e2) yV_X11_keep ⟨rfl, by decide⟩ pX11_keep mL_L_71 dL_law_464 (Nat.le_of_ble_eq_true rfl) (Nat.le_of_ble_eq_true rfl) (by decide) kd_140 rfl (rK_i ?_)
  exact g_icmp_eq (pc := 467) 834 dL_law_467 (by decide) (fun _ => K M2 h2) (fun hc => absurd rfl hc)
set_option maxRecDepth 100000 in
set_option maxHeartbeats 1000000 in
theorem law_back {κ : Nat → Nat} {nm : String} {i : Nat} (hL : κ 66 ≤ 2560) (hi : i + 5 ≤ κ 66) {M : gMem} (hS : Sim M M) (K : ∀ M2 : gMem, Sim M2 M2 → RR κ 151 100 (iL nm) 834 (lvL κ i) [] M2 qLaw) : RR κ 151 100 (iL nm) 472 (lvL κ i) [] M qLaw := by
  obtain ⟨r, M1, M2, e1, e2, h2⟩ := res_seq (fun {μ ν} h => s_back (gXs κ (i + 1)) h) hS
  refine g_aload_n (pc := 472) dL_law_472 rfl rfl ?_
  refine g_aload_n (pc := 473) dL_law_473 rfl rfl ?_
  refine g_iload_n (pc := 474) dL_law_474 rfl rfl ?_
  refine g_iconst (pc := 475) (v := (1 : Int32)) dL_law_475 rfl ?_
  refine g_iadd (pc := 476) dL_law_476 ?_
  refine r_scr (pc := 477) (i + 1) (nI_add i 1) (by omega) hL dL_law_477 ?_
  refine r_callV (ci := 9) (b := 0) (pc := 478) (As := [.int (gXs κ (i + 1))]) (c_X10_back (by decide) (gXs κ (i + 1)) M e1) yV_X10_back ⟨rfl, by decide⟩ pX10_back mL_L_72 dL_law_478 (Nat.le_of_ble_eq_true rfl) (Nat.le_of_ble_eq_true rfl) (by decide) kd_0 rfl (rK_i ?_)
  refine g_aload_n (pc := 481) dL_law_481 rfl rfl ?_
  refine g_aload_n (pc := 482) dL_law_482 rfl rfl ?_
  refine g_iload_n (pc := 483) dL_law_483 rfl rfl ?_
  refine g_iconst (pc := 484) (v := (1 : Int32)) dL_law_484 rfl ?_
  refine g_iadd (pc := 485) dL_law_485 ?_
  refine r_scr (pc := 486) (i + 1) (nI_add i 1) (by omega) hL dL_law_486 ?_
  refine r_callV (ci := 10) (b := 140) (pc := 487) (As := [.int (gXs κ (i + 1))]) (c_X11_back (by decide) (gXs κ (i + 1)) M1 e2) yV_X11_back ⟨rfl, by decide⟩ pX11_back mL_L_75 dL_law_487 (Nat.le_of_ble_eq_true rfl) (Nat.le_of_ble_eq_true rfl) (by decide) kd_140 rfl (rK_i ?_)
  exact g_icmp_eq (pc := 490) 834 dL_law_490 (by decide) (fun _ => K M2 h2) (fun hc => absurd rfl hc)
set_option maxRecDepth 100000 in
set_option maxHeartbeats 1000000 in
theorem law_level {κ : Nat → Nat} {nm : String} {i : Nat} (hL : κ 66 ≤ 2560) (hi : i + 5 ≤ κ 66) {M : gMem} (hS : Sim M M) (K : ∀ M2 : gMem, Sim M2 M2 → RR κ 151 100 (iL nm) 834 (lvL κ i) [] M2 qLaw) : RR κ 151 100 (iL nm) 495 (lvL κ i) [] M qLaw := by
  obtain ⟨r, M1, M2, e1, e2, h2⟩ := res_seq (fun {μ ν} h => s_level (gXs κ (i + 1)) h) hS
  refine g_aload_n (pc := 495) dL_law_495 rfl rfl ?_
  refine g_aload_n (pc := 496) dL_law_496 rfl rfl ?_
  refine g_iload_n (pc := 497) dL_law_497 rfl rfl ?_
  refine g_iconst (pc := 498) (v := (1 : Int32)) dL_law_498 rfl ?_
  refine g_iadd (pc := 499) dL_law_499 ?_
  refine r_scr (pc := 500) (i + 1) (nI_add i 1) (by omega) hL dL_law_500 ?_
  refine r_callV (ci := 9) (b := 0) (pc := 501) (As := [.int (gXs κ (i + 1))]) (c_X10_level (by decide) (gXs κ (i + 1)) M e1) yV_X10_level ⟨rfl, by decide⟩ pX10_level mL_L_76 dL_law_501 (Nat.le_of_ble_eq_true rfl) (Nat.le_of_ble_eq_true rfl) (by decide) kd_0 rfl (rK_i ?_)
  refine g_aload_n (pc := 504) dL_law_504 rfl rfl ?_
  refine g_aload_n (pc := 505) dL_law_505 rfl rfl ?_
  refine g_iload_n (pc := 506) dL_law_506 rfl rfl ?_
  refine g_iconst (pc := 507) (v := (1 : Int32)) dL_law_507 rfl ?_
  refine g_iadd (pc := 508) dL_law_508 ?_
  refine r_scr (pc := 509) (i + 1) (nI_add i 1) (by omega) hL dL_law_509 ?_
  refine r_callV (ci := 10) (b := 140) (pc := 510) (As := [.int (gXs κ (i + 1))]) (c_X11_level (by decide) (gXs κ (i + 1)) M1 e2) yV_X11_level ⟨rfl, by decide⟩ pX11_level mL_L_79 dL_law_510 (Nat.le_of_ble_eq_true rfl) (Nat.le_of_ble_eq_true rfl) (by decide) kd_140 rfl (rK_i ?_)
  exact g_icmp_eq (pc := 513) 834 dL_law_513 (by decide) (fun _ => K M2 h2) (fun hc => absurd rfl hc)
set_option maxRecDepth 100000 in
set_option maxHeartbeats 1000000 in
theorem law_highest {κ : Nat → Nat} {nm : String} {i : Nat} (hL : κ 66 ≤ 2560) (hi : i + 5 ≤ κ 66) {M : gMem} (hS : Sim M M) (K : ∀ M2 : gMem, Sim M2 M2 → RR κ 151 100 (iL nm) 834 (lvL κ i) [] M2 qLaw) : RR κ 151 100 (iL nm) 518 (lvL κ i) [] M qLaw := by
  obtain ⟨r, M1, M2, e1, e2, h2⟩ := res_seq (fun {μ ν} h => s_highest (gXs κ (i + 1)) h) hS
  refine g_aload_n (pc := 518) dL_law_518 rfl rfl ?_
  refine g_aload_n (pc := 519) dL_law_519 rfl rfl ?_
  refine g_iload_n (pc := 520) dL_law_520 rfl rfl ?_
  refine g_iconst (pc := 521) (v := (1 : Int32)) dL_law_521 rfl ?_
  refine g_iadd (pc := 522) dL_law_522 ?_
  refine r_scr (pc := 523) (i + 1) (nI_add i 1) (by omega) hL dL_law_523 ?_
  refine r_callV (ci := 9) (b := 0) (pc := 524) (As := [.int (gXs κ (i + 1))]) (c_X10_highest (by decide) (gXs κ (i + 1)) M e1) yV_X10_highest ⟨rfl, by decide⟩ pX10_highest mL_L_80 dL_law_524 (Nat.le_of_ble_eq_true rfl) (Nat.le_of_ble_eq_true rfl) (by decide) kd_0 rfl (rK_i ?_)
  refine g_aload_n (pc := 527) dL_law_527 rfl rfl ?_
  refine g_aload_n (pc := 528) dL_law_528 rfl rfl ?_
  refine g_iload_n (pc := 529) dL_law_529 rfl rfl ?_
  refine g_iconst (pc := 530) (v := (1 : Int32)) dL_law_530 rfl ?_
  refine g_iadd (pc := 531) dL_law_531 ?_
  refine r_scr (pc := 532) (i + 1) (nI_add i 1) (by omega) hL dL_law_532 ?_
  refine r_callV (ci := 10) (b := 140) (pc := 533) (As := [.int (gXs κ (i + 1))]) (c_X11_highest (by decide) (gXs κ (i + 1)) M1 e2) yV_X11_highest ⟨rfl, by decide⟩ pX11_highest mL_L_83 dL_law_533 (Nat.le_of_ble_eq_true rfl) (Nat.le_of_ble_eq_true rfl) (by decide) kd_140 rfl (rK_i ?_)
  exact g_icmp_eq (pc := 536) 834 dL_law_536 (by decide) (fun _ => K M2 h2) (fun hc => absurd rfl hc)
set_option maxRecDepth 100000 in
set_option maxHeartbeats 1000000 in
theorem law_full {κ : Nat → Nat} {nm : String} {i : Nat} (hL : κ 66 ≤ 2560) (hi : i + 5 ≤ κ 66) {M : gMem} (hS : Sim M M) (K : ∀ M2 : gMem, Sim M2 M2 → RR κ 151 100 (iL nm) 834 (lvL κ i) [] M2 qLaw) : RR κ 151 100 (iL nm) 541 (lvL κ i) [] M qLaw := by
  obtain ⟨r, M1, M2, e1, e2, h2⟩ := res_seq (fun {μ ν} h => s_full  h) hS
  refine g_aload_n (pc := 541) dL_law_541 rfl rfl ?_
  refine r_callV (ci := 9) (b := 0) (pc := 542) (As := []) (c_X10_full (by decide)  M e1) yV_X10_full ⟨rfl, by decide⟩ pX10_full mL_L_84 dL_law_542 (Nat.le_of_ble_eq_true rfl) (Nat.le_of_ble_eq_true rfl) (by decide) kd_0 rfl (rK_i ?_)
  refine g_aload_n (pc := 545) dL_law_545 rfl rfl ?_
  refine r_callV (ci := 10) (b := 140) (pc := 546) (As := []) (c_X11_full (by decide)  M1 e2) yV_X11_full ⟨rfl, by decide⟩ pX11_full mL_L_87 dL_law_546 (Nat.le_of_ble_eq_true rfl) (Nat.le_of_ble_eq_true rfl) (by decide) kd_140 rfl (rK_i ?_)
  exact g_icmp_eq (pc := 549) 834 dL_law_549 (by decide) (fun _ => K M2 h2) (fun hc => absurd rfl hc)
set_option maxRecDepth 100000 in
set_option maxHeartbeats 1000000 in
theorem law_mossTo {κ : Nat → Nat} {nm : String} {i : Nat} (hL : κ 66 ≤ 2560) (hi : i + 5 ≤ κ 66) {M : gMem} (hS : Sim M M) (K : ∀ M2 : gMem, Sim M2 M2 → RR κ 151 100 (iL nm) 834 (lvL κ i) [] M2 qLaw) : RR κ 151 100 (iL nm) 554 (lvL κ i) [] M qLaw := by
  obtain ⟨r, M1, M2, e1, e2, h2⟩ := res_seq (fun {μ ν} h => s_mossTo (gXs κ (i + 1)) h) hS
  refine g_aload_n (pc := 554) dL_law_554 rfl rfl ?_
  refine g_aload_n (pc := 555) dL_law_555 rfl rfl ?_
  refine g_iload_n (pc := 556) dL_law_556 rfl rfl ?_
  refine g_iconst (pc := 557) (v := (1 : Int32)) dL_law_557 rfl ?_
  refine g_iadd (pc := 558) dL_law_558 ?_
  refine r_scr (pc := 559) (i + 1) (nI_add i 1) (by omega) hL dL_law_559 ?_
  refine r_callV (ci := 9) (b := 0) (pc := 560) (As := [.int (gXs κ (i + 1))]) (c_X10_mossTo (by decide) (gXs κ (i + 1)) M e1) yV_X10_mossTo ⟨rfl, by decide⟩ pX10_mossTo mL_L_88 dL_law_560 (Nat.le_of_ble_eq_true rfl) (Nat.le_of_ble_eq_true rfl) (by decide) kd_0 rfl (rK_i ?_)
  refine g_aload_n (pc := 563) dL_law_563 rfl rfl ?_
  refine g_aload_n (pc := 564) dL_law_564 rfl rfl ?_
  refine g_iload_n (pc := 565) dL_law_565 rfl rfl ?_
  refine g_iconst (pc := 566) (v := (1 : Int32)) dL_law_566 rfl ?_
  refine g_iadd (pc := 567) dL_law_567 ?_
  refine r_scr (pc := 568) (i + 1) (nI_add i 1) (by omega) hL dL_law_568 ?_
  refine r_callV (ci := 10) (b := 140) (pc := 569) (As := [.int (gXs κ (i + 1))]) (c_X11_mossTo (by decide) (gXs κ (i + 1)) M1 e2) yV_X11_mossTo ⟨rfl, by decide⟩ pX11_mossTo mL_L_91 dL_law_569 (Nat.le_of_ble_eq_true rfl) (Nat.le_of_ble_eq_true rfl) (by decide) kd_140 rfl (rK_i ?_)
  exact g_icmp_eq (pc := 572) 834 dL_law_572 (by decide) (fun _ => K M2 h2) (fun hc => absurd rfl hc)
set_option maxRecDepth 100000 in
set_option maxHeartbeats 1000000 in
theorem law_adds {κ : Nat → Nat} {nm : String} {i : Nat} (hL : κ 66 ≤ 2560) (hi : i + 5 ≤ κ 66) {M : gMem} (hS : Sim M M) (K : ∀ M2 : gMem, Sim M2 M2 → RR κ 151 100 (iL nm) 834 (lvL κ i) [] M2 qLaw) : RR κ 151 100 (iL nm) 577 (lvL κ i) [] M qLaw := by
  obtain ⟨r, M1, M2, e1, e2, h2⟩ := res_seq (fun {μ ν} h => s_adds (gXs κ (i + 1)) (gXs κ (i + 2)) h) hS
  refine g_aload_n (pc := 577) dL_law_577 rfl rfl ?_
  refine g_aload_n (pc := 578) dL_law_578 rfl rfl ?_
  refine g_iload_n (pc := 579) dL_law_579 rfl rfl ?_
  refine g_iconst (pc := 580) (v := (1 : Int32)) dL_law_580 rfl ?_
  refine g_iadd (pc := 581) dL_law_581 ?_
  refine r_scr (pc := 582) (i + 1) (nI_add i 1) (by omega) hL dL_law_582 ?_
  refine g_aload_n (pc := 583) dL_law_583 rfl rfl ?_
  refine g_iload_n (pc := 584) dL_law_584 rfl rfl ?_
  refine g_iconst (pc := 585) (v := (2 : Int32)) dL_law_585 rfl ?_
  refine g_iadd (pc := 586) dL_law_586 ?_
  refine r_scr (pc := 587) (i + 2) (nI_add i 2) (by omega) hL dL_law_587 ?_
  refine r_callV (ci := 9) (b := 0) (pc := 588) (As := [.int (gXs κ (i + 1)), .int (gXs κ (i + 2))]) (c_X10_adds (by decide) (gXs κ (i + 1)) (gXs κ (i + 2)) M e1) yV_X10_adds ⟨rfl, by decide⟩ pX10_adds mL_L_92 dL_law_588 (Nat.le_of_ble_eq_true rfl) (Nat.le_of_ble_eq_true rfl) (by decide) kd_0 rfl (rK_i ?_)
  refine g_aload_n (pc := 591) dL_law_591 rfl rfl ?_
  refine g_aload_n (pc := 592) dL_law_592 rfl rfl ?_
  refine g_iload_n (pc := 593) dL_law_593 rfl rfl ?_
  refine g_iconst (pc := 594) (v := (1 : Int32)) dL_law_594 rfl ?_
  refine g_iadd (pc := 595) dL_law_595 ?_
  refine r_scr (pc := 596) (i + 1) (nI_add i 1) (by omega) hL dL_law_596 ?_
  refine g_aload_n (pc := 597) dL_law_597 rfl rfl ?_
  refine g_iload_n (pc := 598) dL_law_598 rfl rfl ?_
  refine g_iconst (pc := 599) (v := (2 : Int32)) dL_law_599 rfl ?_
  refine g_iadd (pc := 600) dL_law_600 ?_
  refine r_scr (pc := 601) (i + 2) (nI_add i 2) (by omega) hL dL_law_601 ?_
  refine r_callV (ci := 10) (b := 140) (pc := 602) (As := [.int (gXs κ (i + 1)), .int (gXs κ (i + 2))]) (c_X11_adds (by decide) (gXs κ (i + 1)) (gXs κ (i + 2)) M1 e2) yV_X11_adds ⟨rfl, by decide⟩ pX11_adds mL_L_95 dL_law_602 (Nat.le_of_ble_eq_true rfl) (Nat.le_of_ble_eq_true rfl) (by decide) kd_140 rfl (rK_i ?_)
  exact g_icmp_eq (pc := 605) 834 dL_law_605 (by decide) (fun _ => K M2 h2) (fun hc => absurd rfl hc)
set_option maxRecDepth 100000 in
set_option maxHeartbeats 1000000 in
theorem law_fewest {κ : Nat → Nat} {nm : String} {i : Nat} (hL : κ 66 ≤ 2560) (hi : i + 5 ≤ κ 66) {M : gMem} (hS : Sim M M) (K : ∀ M2 : gMem, Sim M2 M2 → RR κ 151 100 (iL nm) 834 (lvL κ i) [] M2 qLaw) : RR κ 151 100 (iL nm) 610 (lvL κ i) [] M qLaw := by
  obtain ⟨r, M1, M2, e1, e2, h2⟩ := res_seq (fun {μ ν} h => s_fewest (gXs κ (i + 1)) h) hS
  refine g_aload_n (pc := 610) dL_law_610 rfl rfl ?_
  refine g_aload_n (pc := 611) dL_law_611 rfl rfl ?_
  refine g_iload_n (pc := 612) dL_law_612 rfl rfl ?_
  refine g_iconst (pc := 613) (v := (1 : Int32)) dL_law_613 rfl ?_
  refine g_iadd (pc := 614) dL_law_614 ?_
  refine r_scr (pc := 615) (i + 1) (nI_add i 1) (by omega) hL dL_law_615 ?_
  refine r_callV (ci := 9) (b := 0) (pc := 616) (As := [.int (gXs κ (i + 1))]) (c_X10_fewest (by decide) (gXs κ (i + 1)) M e1) yV_X10_fewest ⟨rfl, by decide⟩ pX10_fewest mL_L_96 dL_law_616 (Nat.le_of_ble_eq_true rfl) (Nat.le_of_ble_eq_true rfl) (by decide) kd_0 rfl (rK_i ?_)
  refine g_aload_n (pc := 619) dL_law_619 rfl rfl ?_
  refine g_aload_n (pc := 620) dL_law_620 rfl rfl ?_
  refine g_iload_n (pc := 621) dL_law_621 rfl rfl ?_
  refine g_iconst (pc := 622) (v := (1 : Int32)) dL_law_622 rfl ?_
  refine g_iadd (pc := 623) dL_law_623 ?_
  refine r_scr (pc := 624) (i + 1) (nI_add i 1) (by omega) hL dL_law_624 ?_
  refine r_callV (ci := 10) (b := 140) (pc := 625) (As := [.int (gXs κ (i + 1))]) (c_X11_fewest (by decide) (gXs κ (i + 1)) M1 e2) yV_X11_fewest ⟨rfl, by decide⟩ pX11_fewest mL_L_99 dL_law_625 (Nat.le_of_ble_eq_true rfl) (Nat.le_of_ble_eq_true rfl) (by decide) kd_140 rfl (rK_i ?_)
  exact g_icmp_eq (pc := 628) 834 dL_law_628 (by decide) (fun _ => K M2 h2) (fun hc => absurd rfl hc)
set_option maxRecDepth 100000 in
set_option maxHeartbeats 1000000 in
theorem law_together {κ : Nat → Nat} {nm : String} {i : Nat} (hL : κ 66 ≤ 2560) (hi : i + 5 ≤ κ 66) {M : gMem} (hS : Sim M M) (K : ∀ M2 : gMem, Sim M2 M2 → RR κ 151 100 (iL nm) 834 (lvL κ i) [] M2 qLaw) : RR κ 151 100 (iL nm) 633 (lvL κ i) [] M qLaw := by
  obtain ⟨r, M1, M2, e1, e2, h2⟩ := res_seq (fun {μ ν} h => s_together (gXs κ (i + 1)) (gXs κ (i + 2)) h) hS
  refine g_aload_n (pc := 633) dL_law_633 rfl rfl ?_
  refine g_aload_n (pc := 634) dL_law_634 rfl rfl ?_
  refine g_iload_n (pc := 635) dL_law_635 rfl rfl ?_
  refine g_iconst (pc := 636) (v := (1 : Int32)) dL_law_636 rfl ?_
  refine g_iadd (pc := 637) dL_law_637 ?_
  refine r_scr (pc := 638) (i + 1) (nI_add i 1) (by omega) hL dL_law_638 ?_
  refine g_aload_n (pc := 639) dL_law_639 rfl rfl ?_
  refine g_iload_n (pc := 640) dL_law_640 rfl rfl ?_
  refine g_iconst (pc := 641) (v := (2 : Int32)) dL_law_641 rfl ?_
  refine g_iadd (pc := 642) dL_law_642 ?_
  refine r_scr (pc := 643) (i + 2) (nI_add i 2) (by omega) hL dL_law_643 ?_
  refine r_callV (ci := 9) (b := 0) (pc := 644) (As := [.int (gXs κ (i + 1)), .int (gXs κ (i + 2))]) (c_X10_together (by decide) (gXs κ (i + 1)) (gXs κ (i + 2)) M e1) yV_X10_together ⟨rfl, by decide⟩ pX10_together mL_L_100 dL_law_644 (Nat.le_of_ble_eq_true rfl) (Nat.le_of_ble_eq_true rfl) (by decide) kd_0 rfl (rK_i ?_)
  refine g_aload_n (pc := 647) dL_law_647 rfl rfl ?_
  refine g_aload_n (pc := 648) dL_law_648 rfl rfl ?_
  refine g_iload_n (pc := 649) dL_law_649 rfl rfl ?_
  refine g_iconst (pc := 650) (v := (1 : Int32)) dL_law_650 rfl ?_
  refine g_iadd (pc := 651) dL_law_651 ?_
  refine r_scr (pc := 652) (i + 1) (nI_add i 1) (by omega) hL dL_law_652 ?_
  refine g_aload_n (pc := 653) dL_law_653 rfl rfl ?_
  refine g_iload_n (pc := 654) dL_law_654 rfl rfl ?_
  refine g_iconst (pc := 655) (v := (2 : Int32)) dL_law_655 rfl ?_
  refine g_iadd (pc := 656) dL_law_656 ?_
  refine r_scr (pc := 657) (i + 2) (nI_add i 2) (by omega) hL dL_law_657 ?_
  refine r_callV (ci := 10) (b := 140) (pc := 658) (As := [.int (gXs κ (i + 1)), .int (gXs κ (i + 2))]) (c_X11_together (by decide) (gXs κ (i + 1)) (gXs κ (i + 2)) M1 e2) yV_X11_together ⟨rfl, by decide⟩ pX11_together mL_L_103 dL_law_658 (Nat.le_of_ble_eq_true rfl) (Nat.le_of_ble_eq_true rfl) (by decide) kd_140 rfl (rK_i ?_)
  exact g_icmp_eq (pc := 661) 834 dL_law_661 (by decide) (fun _ => K M2 h2) (fun hc => absurd rfl hc)
set_option maxRecDepth 100000 in
set_option maxHeartbeats 1000000 in
theorem law_pitch {κ : Nat → Nat} {nm : String} {i : Nat} (hL : κ 66 ≤ 2560) (hi : i + 5 ≤ κ 66) {M : gMem} (hS : Sim M M) (K : ∀ M2 : gMem, Sim M2 M2 → RR κ 151 100 (iL nm) 834 (lvL κ i) [] M2 qLaw) : RR κ 151 100 (iL nm) 666 (lvL κ i) [] M qLaw := by
  obtain ⟨r, M1, M2, e1, e2, h2⟩ := res_seq (fun {μ ν} h => s_pitch (gXs κ (i + 1)) h) hS
  refine g_aload_n (pc := 666) dL_law_666 rfl rfl ?_
  refine g_aload_n (pc := 667) dL_law_667 rfl rfl ?_
  refine g_iload_n (pc := 668) dL_law_668 rfl rfl ?_
  refine g_iconst (pc := 669) (v := (1 : Int32)) dL_law_669 rfl ?_
  refine g_iadd (pc := 670) dL_law_670 ?_
  refine r_scr (pc := 671) (i + 1) (nI_add i 1) (by omega) hL dL_law_671 ?_
  refine r_callV (ci := 9) (b := 0) (pc := 672) (As := [.int (gXs κ (i + 1))]) (c_X10_pitch (by decide) (gXs κ (i + 1)) M e1) yV_X10_pitch ⟨rfl, by decide⟩ pX10_pitch mL_L_104 dL_law_672 (Nat.le_of_ble_eq_true rfl) (Nat.le_of_ble_eq_true rfl) (by decide) kd_0 rfl (rK_i ?_)
  refine g_aload_n (pc := 675) dL_law_675 rfl rfl ?_
  refine g_aload_n (pc := 676) dL_law_676 rfl rfl ?_
  refine g_iload_n (pc := 677) dL_law_677 rfl rfl ?_
  refine g_iconst (pc := 678) (v := (1 : Int32)) dL_law_678 rfl ?_
  refine g_iadd (pc := 679) dL_law_679 ?_
  refine r_scr (pc := 680) (i + 1) (nI_add i 1) (by omega) hL dL_law_680 ?_
  refine r_callV (ci := 10) (b := 140) (pc := 681) (As := [.int (gXs κ (i + 1))]) (c_X11_pitch (by decide) (gXs κ (i + 1)) M1 e2) yV_X11_pitch ⟨rfl, by decide⟩ pX11_pitch mL_L_107 dL_law_681 (Nat.le_of_ble_eq_true rfl) (Nat.le_of_ble_eq_true rfl) (by decide) kd_140 rfl (rK_i ?_)
  exact g_icmp_eq (pc := 684) 834 dL_law_684 (by decide) (fun _ => K M2 h2) (fun hc => absurd rfl hc)
set_option maxRecDepth 100000 in
set_option maxHeartbeats 1000000 in
theorem law_seen {κ : Nat → Nat} {nm : String} {i : Nat} (hL : κ 66 ≤ 2560) (hi : i + 5 ≤ κ 66) {M : gMem} (hS : Sim M M) (K : ∀ M2 : gMem, Sim M2 M2 → RR κ 151 100 (iL nm) 834 (lvL κ i) [] M2 qLaw) : RR κ 151 100 (iL nm) 689 (lvL κ i) [] M qLaw := by
  obtain ⟨r, M1, M2, e1, e2, h2⟩ := res_seq (fun {μ ν} h => s_seen (gXs κ (i + 1)) (gXs κ (i + 2)) h) hS
  refine g_aload_n (pc := 689) dL_law_689 rfl rfl ?_
  refine g_aload_n (pc := 690) dL_law_690 rfl rfl ?_
  refine g_iload_n (pc := 691) dL_law_691 rfl rfl ?_
  refine g_iconst (pc := 692) (v := (1 : Int32)) dL_law_692 rfl ?_
  refine g_iadd (pc := 693) dL_law_693 ?_
  refine r_scr (pc := 694) (i + 1) (nI_add i 1) (by omega) hL dL_law_694 ?_
  refine g_aload_n (pc := 695) dL_law_695 rfl rfl ?_
  refine g_iload_n (pc := 696) dL_law_696 rfl rfl ?_
  refine g_iconst (pc := 697) (v := (2 : Int32)) dL_law_697 rfl ?_
  refine g_iadd (pc := 698) dL_law_698 ?_
  refine r_scr (pc := 699) (i + 2) (nI_add i 2) (by omega) hL dL_law_699 ?_
  refine r_callV (ci := 9) (b := 0) (pc := 700) (As := [.int (gXs κ (i + 1)), .int (gXs κ (i + 2))]) (c_X10_seen (by decide) (gXs κ (i + 1)) (gXs κ (i + 2)) M e1) yV_X10_seen ⟨rfl, by decide⟩ pX10_seen mL_L_108 dL_law_700 (Nat.le_of_ble_eq_true rfl) (Nat.le_of_ble_eq_true rfl) (by decide) kd_0 rfl (rK_i ?_)
  refine g_aload_n (pc := 703) dL_law_703 rfl rfl ?_
  refine g_aload_n (pc := 704) dL_law_704 rfl rfl ?_
  refine g_iload_n (pc := 705) dL_law_705 rfl rfl ?_
  refine g_iconst (pc := 706) (v := (1 : Int32)) dL_law_706 rfl ?_
  refine g_iadd (pc := 707) dL_law_707 ?_
  refine r_scr (pc := 708) (i + 1) (nI_add i 1) (by omega) hL dL_law_708 ?_
  refine g_aload_n (pc := 709) dL_law_709 rfl rfl ?_
  refine g_iload_n (pc := 710) dL_law_710 rfl rfl ?_
  refine g_iconst (pc := 711) (v := (2 : Int32)) dL_law_711 rfl ?_
  refine g_iadd (pc := 712) dL_law_712 ?_
  refine r_scr (pc := 713) (i + 2) (nI_add i 2) (by omega) hL dL_law_713 ?_
  refine r_callV (ci := 10) (b := 140) (pc := 714) (As := [.int (gXs κ (i + 1)), .int (gXs κ (i + 2))]) (c_X11_seen (by decide) (gXs κ (i + 1)) (gXs κ (i + 2)) M1 e2) yV_X11_seen ⟨rfl, by decide⟩ pX11_seen mL_L_111 dL_law_714 (Nat.le_of_ble_eq_true rfl) (Nat.le_of_ble_eq_true rfl) (by decide) kd_140 rfl (rK_i ?_)
  exact g_icmp_eq (pc := 717) 834 dL_law_717 (by decide) (fun _ => K M2 h2) (fun hc => absurd rfl hc)
set_option maxRecDepth 100000 in
set_option maxHeartbeats 1000000 in
theorem law_forget {κ : Nat → Nat} {nm : String} {i : Nat} (hL : κ 66 ≤ 2560) (hi : i + 5 ≤ κ 66) {M : gMem} (hS : Sim M M) (K : ∀ M2 : gMem, Sim M2 M2 → RR κ 151 100 (iL nm) 834 (lvL κ i) [] M2 qLaw) : RR κ 151 100 (iL nm) 722 (lvL κ i) [] M qLaw := by
  obtain ⟨r, M1, M2, e1, e2, h2⟩ := res_seq (fun {μ ν} h => s_forget  h) hS
  refine g_aload_n (pc := 722) dL_law_722 rfl rfl ?_
  refine r_callV (ci := 9) (b := 0) (pc := 723) (As := []) (c_X10_forget (by decide)  M e1) yV_X10_forget ⟨rfl, by decide⟩ pX10_forget mL_L_112 dL_law_723 (Nat.le_of_ble_eq_true rfl) (Nat.le_of_ble_eq_true rfl) (by decide) kd_0 rfl (rK_i ?_)
  refine g_aload_n (pc := 726) dL_law_726 rfl rfl ?_
  refine r_callV (ci := 10) (b := 140) (pc := 727) (As := []) (c_X11_forget (by decide)  M1 e2) yV_X11_forget ⟨rfl, by decide⟩ pX11_forget mL_L_115 dL_law_727 (Nat.le_of_ble_eq_true rfl) (Nat.le_of_ble_eq_true rfl) (by decide) kd_140 rfl (rK_i ?_)
  exact g_icmp_eq (pc := 730) 834 dL_law_730 (by decide) (fun _ => K M2 h2) (fun hc => absurd rfl hc)
set_option maxRecDepth 100000 in
set_option maxHeartbeats 1000000 in
theorem law_worked {κ : Nat → Nat} {nm : String} {i : Nat} (hL : κ 66 ≤ 2560) (hi : i + 5 ≤ κ 66) {M : gMem} (hS : Sim M M) (K : ∀ M2 : gMem, Sim M2 M2 → RR κ 151 100 (iL nm) 834 (lvL κ i) [] M2 qLaw) : RR κ 151 100 (iL nm) 735 (lvL κ i) [] M qLaw := by
  obtain ⟨r, M1, M2, e1, e2, h2⟩ := res_seq (fun {μ ν} h => s_worked (gXs κ (i + 1)) h) hS
  refine g_aload_n (pc := 735) dL_law_735 rfl rfl ?_
  refine g_aload_n (pc := 736) dL_law_736 rfl rfl ?_
  refine g_iload_n (pc := 737) dL_law_737 rfl rfl ?_
  refine g_iconst (pc := 738) (v := (1 : Int32)) dL_law_738 rfl ?_
  refine g_iadd (pc := 739) dL_law_739 ?_
  refine r_scr (pc := 740) (i + 1) (nI_add i 1) (by omega) hL dL_law_740 ?_
  refine r_callV (ci := 9) (b := 0) (pc := 741) (As := [.int (gXs κ (i + 1))]) (c_X10_worked (by decide) (gXs κ (i + 1)) M e1) yV_X10_worked ⟨rfl, by decide⟩ pX10_worked mL_L_116 dL_law_741 (Nat.le_of_ble_eq_true rfl) (Nat.le_of_ble_eq_true rfl) (by decide) kd_0 rfl (rK_i ?_)
  refine g_aload_n (pc := 744) dL_law_744 rfl rfl ?_
  refine g_aload_n (pc := 745) dL_law_745 rfl rfl ?_
  refine g_iload_n (pc := 746) dL_law_746 rfl rfl ?_
  refine g_iconst (pc := 747) (v := (1 : Int32)) dL_law_747 rfl ?_
  refine g_iadd (pc := 748) dL_law_748 ?_
  refine r_scr (pc := 749) (i + 1) (nI_add i 1) (by omega) hL dL_law_749 ?_
  refine r_callV (ci := 10) (b := 140) (pc := 750) (As := [.int (gXs κ (i + 1))]) (c_X11_worked (by decide) (gXs κ (i + 1)) M1 e2) yV_X11_worked ⟨rfl, by decide⟩ pX11_worked mL_L_119 dL_law_750 (Nat.le_of_ble_eq_true rfl) (Nat.le_of_ble_eq_true rfl) (by decide) kd_140 rfl (rK_i ?_)
  exact g_icmp_eq (pc := 753) 834 dL_law_753 (by decide) (fun _ => K M2 h2) (fun hc => absurd rfl hc)
set_option maxRecDepth 100000 in
set_option maxHeartbeats 1000000 in
theorem law_leaves {κ : Nat → Nat} {nm : String} {i : Nat} (hL : κ 66 ≤ 2560) (hi : i + 5 ≤ κ 66) {M : gMem} (hS : Sim M M) (K : ∀ M2 : gMem, Sim M2 M2 → RR κ 151 100 (iL nm) 834 (lvL κ i) [] M2 qLaw) : RR κ 151 100 (iL nm) 758 (lvL κ i) [] M qLaw := by
  obtain ⟨r, M1, M2, e1, e2, h2⟩ := res_seq (fun {μ ν} h => s_leaves (gXs κ (i + 1)) (gXs κ (i + 2)) (gXs κ (i + 3)) (gXs κ (i + 4)) h) hS
  refine g_aload_n (pc := 758) dL_law_758 rfl rfl ?_
  refine g_aload_n (pc := 759) dL_law_759 rfl rfl ?_
  refine g_iload_n (pc := 760) dL_law_760 rfl rfl ?_
  refine g_iconst (pc := 761) (v := (1 : Int32)) dL_law_761 rfl ?_
  refine g_iadd (pc := 762) dL_law_762 ?_
  refine r_scr (pc := 763) (i + 1) (nI_add i 1) (by omega) hL dL_law_763 ?_
  refine g_aload_n (pc := 764) dL_law_764 rfl rfl ?_
  refine g_iload_n (pc := 765) dL_law_765 rfl rfl ?_
  refine g_iconst (pc := 766) (v := (2 : Int32)) dL_law_766 rfl ?_
  refine g_iadd (pc := 767) dL_law_767 ?_
  refine r_scr (pc := 768) (i + 2) (nI_add i 2) (by omega) hL dL_law_768 ?_
  refine g_aload_n (pc := 769) dL_law_769 rfl rfl ?_
  refine g_iload_n (pc := 770) dL_law_770 rfl rfl ?_
  refine g_iconst (pc := 771) (v := (3 : Int32)) dL_law_771 rfl ?_
  refine g_iadd (pc := 772) dL_law_772 ?_
  refine r_scr (pc := 773) (i + 3) (nI_add i 3) (by omega) hL dL_law_773 ?_
  refine g_aload_n (pc := 774) dL_law_774 rfl rfl ?_
  refine g_iload_n (pc := 775) dL_law_775 rfl rfl ?_
  refine g_iconst (pc := 776) (v := (4 : Int32)) dL_law_776 rfl ?_
  refine g_iadd (pc := 777) dL_law_777 ?_
  refine r_scr (pc := 778) (i + 4) (nI_add i 4) (by omega) hL dL_law_778 ?_
  refine r_callV (ci := 9) (b := 0) (pc := 779) (As := [.int (gXs κ (i + 1)), .int (gXs κ (i + 2)), .int (gXs κ (i + 3)), .int (gXs κ (i + 4))]) (c_X10_leaves (by decide) (gXs κ (i + 1)) (gXs κ (i + 2)) (gXs κ (i + 3)) (gXs κ (i + 4)) M e1) yV_X10_leaves ⟨rfl, by decide⟩ pX10_leaves mL_L_120 dL_law_779 (Nat.le_of_ble_eq_true rfl) (Nat.le_of_ble_eq_true rfl) (by decide) kd_0 rfl (rK_i ?_)
  refine g_aload_n (pc := 782) dL_law_782 rfl rfl ?_
  refine g_aload_n (pc := 783) dL_law_783 rfl rfl ?_
  refine g_iload_n (pc := 784) dL_law_784 rfl rfl ?_
  refine g_iconst (pc := 785) (v := (1 : Int32)) dL_law_785 rfl ?_
  refine g_iadd (pc := 786) dL_law_786 ?_
  refine r_scr (pc := 787) (i + 1) (nI_add i 1) (by omega) hL dL_law_787 ?_
  refine g_aload_n (pc := 788) dL_law_788 rfl rfl ?_
  refine g_iload_n (pc := 789) dL_law_789 rfl rfl ?_
  refine g_iconst (pc := 790) (v := (2 : Int32)) dL_law_790 rfl ?_
  refine g_iadd (pc := 791) dL_law_791 ?_
  refine r_scr (pc := 792) (i + 2) (nI_add i 2) (by omega) hL dL_law_792 ?_
  refine g_aload_n (pc := 793) dL_law_793 rfl rfl ?_
  refine g_iload_n (pc := 794) dL_law_794 rfl rfl ?_
  refine g_iconst (pc := 795) (v := (3 : Int32)) dL_law_795 rfl ?_
  refine g_iadd (pc := 796) dL_law_796 ?_
  refine r_scr (pc := 797) (i + 3) (nI_add i 3) (by omega) hL dL_law_797 ?_
  refine g_aload_n (pc := 798) dL_law_798 rfl rfl ?_
  refine g_iload_n (pc := 799) dL_law_799 rfl rfl ?_
  refine g_iconst (pc := 800) (v := (4 : Int32)) dL_law_800 rfl ?_
  refine g_iadd (pc := 801) dL_law_801 ?_
  refine r_scr (pc := 802) (i + 4) (nI_add i 4) (by omega) hL dL_law_802 ?_
  refine r_callV (ci := 10) (b := 140) (pc := 803) (As := [.int (gXs κ (i + 1)), .int (gXs κ (i + 2)), .int (gXs κ (i + 3)), .int (gXs κ (i + 4))]) (c_X11_leaves (by decide) (gXs κ (i + 1)) (gXs κ (i + 2)) (gXs κ (i + 3)) (gXs κ (i + 4)) M1 e2) yV_X11_leaves ⟨rfl, by decide⟩ pX11_leaves mL_L_124 dL_law_803 (Nat.le_of_ble_eq_true rfl) (Nat.le_of_ble_eq_true rfl) (by decide) kd_140 rfl (rK_i ?_)
  exact g_icmp_eq (pc := 806) 834 dL_law_806 (by decide) (fun _ => K M2 h2) (fun hc => absurd rfl hc)
set_option maxRecDepth 100000 in
set_option maxHeartbeats 1000000 in
theorem law_count {κ : Nat → Nat} {nm : String} {i : Nat} (hL : κ 66 ≤ 2560) (hi : i + 5 ≤ κ 66) {M : gMem} (hS : Sim M M) (K : ∀ M2 : gMem, Sim M2 M2 → RR κ 151 100 (iL nm) 834 (lvL κ i) [] M2 qLaw) : RR κ 151 100 (iL nm) 811 (lvL κ i) [] M qLaw := by
  obtain ⟨r, M1, M2, e1, e2, h2⟩ := res_seq (fun {μ ν} h => s_count (gXs κ (i + 1)) h) hS
  refine g_aload_n (pc := 811) dL_law_811 rfl rfl ?_
  refine g_aload_n (pc := 812) dL_law_812 rfl rfl ?_
  refine g_iload_n (pc := 813) dL_law_813 rfl rfl ?_
  refine g_iconst (pc := 814) (v := (1 : Int32)) dL_law_814 rfl ?_
  refine g_iadd (pc := 815) dL_law_815 ?_
  refine r_scr (pc := 816) (i + 1) (nI_add i 1) (by omega) hL dL_law_816 ?_
  refine r_callV (ci := 9) (b := 0) (pc := 817) (As := [.int (gXs κ (i + 1))]) (c_X10_count (by decide) (gXs κ (i + 1)) M e1) yV_X10_count ⟨rfl, by decide⟩ pX10_count mL_L_125 dL_law_817 (Nat.le_of_ble_eq_true rfl) (Nat.le_of_ble_eq_true rfl) (by decide) kd_0 rfl (rK_i ?_)
  refine g_aload_n (pc := 820) dL_law_820 rfl rfl ?_
  refine g_aload_n (pc := 821) dL_law_821 rfl rfl ?_
  refine g_iload_n (pc := 822) dL_law_822 rfl rfl ?_
  refine g_iconst (pc := 823) (v := (1 : Int32)) dL_law_823 rfl ?_
  refine g_iadd (pc := 824) dL_law_824 ?_
  refine r_scr (pc := 825) (i + 1) (nI_add i 1) (by omega) hL dL_law_825 ?_
  refine r_callV (ci := 10) (b := 140) (pc := 826) (As := [.int (gXs κ (i + 1))]) (c_X11_count (by decide) (gXs κ (i + 1)) M1 e2) yV_X11_count ⟨rfl, by decide⟩ pX11_count mL_L_128 dL_law_826 (Nat.le_of_ble_eq_true rfl) (Nat.le_of_ble_eq_true rfl) (by decide) kd_140 rfl (rK_i ?_)
  exact g_icmp_eq (pc := 829) 834 dL_law_829 (by decide) (fun _ => K M2 h2) (fun hc => absurd rfl hc)
theorem i32_of (v : Int32) : Int32.ofNat v.toBitVec.toNat = v := by
  apply Int32.toBitVec_inj.mp
  show BitVec.ofNat 32 v.toBitVec.toNat = v.toBitVec
  rw [BitVec.ofNat_toNat, BitVec.setWidth_eq]
theorem and31 (v : Int32) : ∃ c : Nat, c < 32 ∧ v &&& 31 = nI c := by
  have e : (v &&& 31).toBitVec = v.toBitVec &&& 31#32 := rfl
  refine ⟨(v &&& 31).toBitVec.toNat, ?_, (i32_of _).symm⟩
  rw [e, BitVec.toNat_and]
  exact Nat.lt_of_le_of_lt Nat.and_le_right (by decide)
theorem ltL {L i : Nat} (hL : L ≤ 2560) (hi : i ≤ 5000) : (nI L - 5 < nI i) ↔ L < i + 5 := by
  by_cases h5 : 5 ≤ L
  · rw [show (5 : Int32) = nI 5 from rfl, pk_sub h5, nI_ltI (by omega) (by omega)]
    omega
  · have : L = 0 ∨ L = 1 ∨ L = 2 ∨ L = 3 ∨ L = 4 := by omega
    have neg : nI L - 5 < 0 := by rcases this with rfl | rfl | rfl | rfl | rfl <;> decide
    exact ⟨fun _ => by omega, fun _ => Int32.lt_of_lt_of_le neg (nI_pos' (by omega))⟩
set_option maxRecDepth 100000 in
set_option maxHeartbeats 4000000 in
theorem law_loop {κ : Nat → Nat} {nm : String} (hL : κ 66 ≤ 2560) : ∀ (f i : Nat) (M : gMem), i ≤ 2565 → κ 66 + 5 - i < f → Sim M M → RR κ 151 100 (iL nm) 18 (lvL κ i) [] M qLaw := by
  intro f
  induction f with
  | zero => intro i M _ h; omega
  | succ f ih =>
    intro i M hi5 hf hS
    refine g_iload_n (pc := 18) dL_law_18 rfl rfl ?_
    refine g_aload_n (pc := 19) dL_law_19 rfl rfl ?_
    refine g_tlen (pc := 20) (t := κ 65) (N := κ 66) (ty := .int) dL_law_20 (fun _ _ z => z.2.2.2.2.2.2.2) ?_
    refine g_iconst (pc := 21) (v := (5 : Int32)) dL_law_21 rfl ?_
    refine g_isub (pc := 22) dL_law_22 ?_
    refine g_icmp_gt (pc := 23) 840 dL_law_23 (by decide) (fun _ => ?_) (fun hc => ?_)
    · refine g_iconst (pc := 840) (v := (1 : Int32)) dL_law_840 rfl ?_
      exact g_zret (pc := 841) dL_law_841 rfl rfl ⟨M, rfl, rfl, rfl⟩
    · have hi : i + 5 ≤ κ 66 := by
        apply Classical.byContradiction
        intro z
        exact hc ((ltL hL (by omega)).mpr (by omega))
      refine g_aload_n (pc := 26) dL_law_26 rfl rfl ?_
      refine g_iload_n (pc := 27) dL_law_27 rfl rfl ?_
      refine r_scr (pc := 28) i rfl (by omega) hL dL_law_28 ?_
      refine g_bipush (pc := 29) (v := (31 : Int32)) dL_law_29 rfl ?_
      refine g_iand (pc := 31) dL_law_31 ?_
      obtain ⟨c, hc32, ec⟩ := and31 (gXs κ i)
      rw [ec]
      have K : ∀ M2 : gMem, Sim M2 M2 → RR κ 151 100 (iL nm) 834 (lvL κ i) [] M2 qLaw := by
        intro M2 h2
        refine g_iinc (pc := 834) (fun y => [(0, .ref (κ 65)), (1, .ref (κ 0 + 0)), (2, .ref (κ 0 + 140)), (3, .int y)]) dL_law_834 rfl (Nat.le_of_ble_eq_true rfl) (fun _ => rfl) (fun y ey => ?_)
        refine g_goto (pc := 837) 18 dL_law_837 (by decide) ?_
        rw [show y = nI (i + 5) by rw [ey]; exact nI_add i 5]
        exact ih (i + 5) M2 (by omega) (by omega) h2
      by_cases c28 : 28 ≤ c
      · exact g_tableOut (pc := 32) 834 dL_law_32 (Or.inr (by rw [nI_toInt (by omega)]; omega)) (by decide) (K M hS)
      have h28 : c = 0 ∨ c = 1 ∨ c = 2 ∨ c = 3 ∨ c = 4 ∨ c = 5 ∨ c = 6 ∨ c = 7 ∨ c = 8 ∨ c = 9 ∨ c = 10 ∨ c = 11 ∨ c = 12 ∨ c = 13 ∨ c = 14 ∨ c = 15 ∨ c = 16 ∨ c = 17 ∨ c = 18 ∨ c = 19 ∨ c = 20 ∨ c = 21 ∨ c = 22 ∨ c = 23 ∨ c = 24 ∨ c = 25 ∨ c = 26 ∨ c = 27 := by omega
      rcases h28 with rfl | rfl | rfl | rfl | rfl | rfl | rfl | rfl | rfl | rfl | rfl | rfl | rfl | rfl | rfl | rfl | rfl | rfl | rfl | rfl | rfl | rfl | rfl | rfl | rfl | rfl | rfl | rfl
      · exact g_tableIn (pc := 32) 160 dL_law_32 (by decide) (by decide) (off := 128) rfl (by decide) (law_write hL hi hS K)
      · exact g_tableIn (pc := 32) 183 dL_law_32 (by decide) (by decide) (off := 151) rfl (by decide) (law_erase hL hi hS K)
      · exact g_tableIn (pc := 32) 196 dL_law_32 (by decide) (by decide) (off := 164) rfl (by decide) (law_fault hL hi hS K)
      · exact g_tableIn (pc := 32) 209 dL_law_32 (by decide) (by decide) (off := 177) rfl (by decide) (law_well hL hi hS K)
      · exact g_tableIn (pc := 32) 222 dL_law_32 (by decide) (by decide) (off := 190) rfl (by decide) (law_sister hL hi hS K)
      · exact g_tableIn (pc := 32) 255 dL_law_32 (by decide) (by decide) (off := 223) rfl (by decide) (law_as hL hi hS K)
      · exact g_tableIn (pc := 32) 288 dL_law_32 (by decide) (by decide) (off := 256) rfl (by decide) (law_sieveAs hL hi hS K)
      · exact g_tableIn (pc := 32) 321 dL_law_32 (by decide) (by decide) (off := 289) rfl (by decide) (law_begin hL hi hS K)
      · exact g_tableIn (pc := 32) 344 dL_law_32 (by decide) (by decide) (off := 312) rfl (by decide) (law_rest hL hi hS K)
      · exact g_tableIn (pc := 32) 367 dL_law_32 (by decide) (by decide) (off := 335) rfl (by decide) (law_moss hL hi hS K)
      · exact g_tableIn (pc := 32) 390 dL_law_32 (by decide) (by decide) (off := 358) rfl (by decide) (law_smear hL hi hS K)
      · exact g_tableIn (pc := 32) 413 dL_law_32 (by decide) (by decide) (off := 381) rfl (by decide) (law_go hL hi hS K)
      · exact g_tableIn (pc := 32) 436 dL_law_32 (by decide) (by decide) (off := 404) rfl (by decide) (law_undo hL hi hS K)
      · exact g_tableIn (pc := 32) 449 dL_law_32 (by decide) (by decide) (off := 417) rfl (by decide) (law_keep hL hi hS K)
      · exact g_tableIn (pc := 32) 472 dL_law_32 (by decide) (by decide) (off := 440) rfl (by decide) (law_back hL hi hS K)
      · exact g_tableIn (pc := 32) 495 dL_law_32 (by decide) (by decide) (off := 463) rfl (by decide) (law_level hL hi hS K)
      · exact g_tableIn (pc := 32) 518 dL_law_32 (by decide) (by decide) (off := 486) rfl (by decide) (law_highest hL hi hS K)
      · exact g_tableIn (pc := 32) 541 dL_law_32 (by decide) (by decide) (off := 509) rfl (by decide) (law_full hL hi hS K)
      · exact g_tableIn (pc := 32) 554 dL_law_32 (by decide) (by decide) (off := 522) rfl (by decide) (law_mossTo hL hi hS K)
      · exact g_tableIn (pc := 32) 577 dL_law_32 (by decide) (by decide) (off := 545) rfl (by decide) (law_adds hL hi hS K)
      · exact g_tableIn (pc := 32) 610 dL_law_32 (by decide) (by decide) (off := 578) rfl (by decide) (law_fewest hL hi hS K)
      · exact g_tableIn (pc := 32) 633 dL_law_32 (by decide) (by decide) (off := 601) rfl (by decide) (law_together hL hi hS K)
      · exact g_tableIn (pc := 32) 666 dL_law_32 (by decide) (by decide) (off := 634) rfl (by decide) (law_pitch hL hi hS K)
      · exact g_tableIn (pc := 32) 689 dL_law_32 (by decide) (by decide) (off := 657) rfl (by decide) (law_seen hL hi hS K)
      · exact g_tableIn (pc := 32) 722 dL_law_32 (by decide) (by decide) (off := 690) rfl (by decide) (law_forget hL hi hS K)
      · exact g_tableIn (pc := 32) 735 dL_law_32 (by decide) (by decide) (off := 703) rfl (by decide) (law_worked hL hi hS K)
      · exact g_tableIn (pc := 32) 758 dL_law_32 (by decide) (by decide) (off := 726) rfl (by decide) (law_leaves hL hi hS K)
      · exact g_tableIn (pc := 32) 811 dL_law_32 (by decide) (by decide) (off := 779) rfl (by decide) (law_count hL hi hS K)
set_option maxRecDepth 100000 in
set_option maxHeartbeats 4000000 in
theorem law_start {κ : Nat → Nat} {nm : String} (hL : κ 66 ≤ 2560) {w : gWd} : G κ 100 (iL nm) 0 [(0, .ref (κ 65))] [] 0 w 151 3097 (RQ κ 151 qLaw) := by
  refine g_new (pc := 0) (n := 0) (cr := 150) (sr := 3085) (fs := [.null, .null, .null, .null, .null, .null, .null, .null, .null, .null, .null, .int 0]) dL_law_0 gC9 cK_L_7 nK_X10 (fun j hj => by match j, hj with | 0, _ | 1, _ | 2, _ | 3, _ | 4, _ | 5, _ | 6, _ | 7, _ | 8, _ | 9, _ | 10, _ | 11, _ => rfl) ?_
  refine g_dup (pc := 3) dL_law_3 rfl ?_
  refine g_callI (pc := 4) (As := []) (cr := 150) (sr := 3085) (k_X10_init up_eq) dL_law_4 yI_X10_init mL_L_9 (Nat.le_of_ble_eq_true rfl) pX10_init (Nat.le_of_ble_eq_true rfl) (by decide) (by decide) (fun v n' w' h => ?_)
  obtain ⟨rfl, rfl, μ, rfl, hI⟩ := h
  refine g_room (cr' := 11) (sr' := 681) (by decide) (by decide) ?_
  refine g_astore_n (pc := 7) (x := κ 0 + 0) (fun y => [(0, .ref (κ 65)), (1, .ref y)]) dL_law_7 rfl (Nat.le_of_ble_eq_true rfl) (fun _ => rfl) (fun y ey => ?_)
  subst ey
  refine g_new (pc := 8) (n := 140) (cr := 10) (sr := 661) (fs := [.null, .int 0, .null, .null, .int 0, .int 0, .int 0, .int 0, .int 0, .null, .int 0, .int 0, .null, .int 0, .null, .null, .null, .null, .null, .int 0]) dL_law_8 gC10 cK_L_10 nK_X11 (fun j hj => by rcases (show j = 0 ∨ j = 1 ∨ j = 2 ∨ j = 3 ∨ j = 4 ∨ j = 5 ∨ j = 6 ∨ j = 7 ∨ j = 8 ∨ j = 9 ∨ j = 10 ∨ j = 11 ∨ j = 12 ∨ j = 13 ∨ j = 14 ∨ j = 15 ∨ j = 16 ∨ j = 17 ∨ j = 18 ∨ j = 19 by omega) with rfl | rfl | rfl | rfl | rfl | rfl | rfl | rfl | rfl | rfl | rfl | rfl | rfl | rfl | rfl | rfl | rfl | rfl | rfl | rfl <;> rfl) ?_
  refine g_dup (pc := 11) dL_law_11 rfl ?_
  refine g_callI (pc := 12) (As := []) (cr := 10) (sr := 661) (k_X11_init (μ := μ) (μ1 := m0 μ) (fun q hq => up_ne (by omega)) up_eq (fun q h1 h2 => by rw [hI.2 q (by omega) (by omega), tT_z (by omega)]) (m0_as μ)) dL_law_12 yI_X11_init mL_L_12 (Nat.le_of_ble_eq_true rfl) pX11_init (Nat.le_of_ble_eq_true rfl) (by decide) (by decide) (fun v n' w' h => ?_)
  obtain ⟨rfl, rfl, rfl⟩ := h
  refine g_room (cr' := 0) (sr' := 0) (by decide) (by decide) ?_
  refine g_astore_n (pc := 15) (x := κ 0 + 140) (fun y => [(0, .ref (κ 65)), (1, .ref (κ 0 + 0)), (2, .ref y)]) dL_law_15 rfl (Nat.le_of_ble_eq_true rfl) (fun _ => rfl) (fun y ey => ?_)
  subst ey
  refine g_iconst (pc := 16) (v := (0 : Int32)) dL_law_16 rfl ?_
  refine g_istore_n (pc := 17) (fun y => [(0, .ref (κ 65)), (1, .ref (κ 0 + 0)), (2, .ref (κ 0 + 140)), (3, .int y)]) dL_law_17 rfl (Nat.le_of_ble_eq_true rfl) (fun _ => rfl) (fun y ey => ?_)
  rw [show y = nI 0 from ey]
  exact law_loop hL (κ 66 + 6) 0 _ (by omega) (by omega) (sim_first hI)

/-! both objects in one memory: a call on the class, then the same on the reference -/
theorem Sim.cong {μ ν μ2 ν2 : gMem} (h : Sim μ ν) (h1 : ∀ a, a < 140 → μ2 a = μ a) (h2 : ∀ a, 140 ≤ a → ν2 a = ν a) : Sim μ2 ν2 := by
  obtain ⟨t, s, u, k, x, n, z⟩ := h
  have e140 := h2 140 (by omega)
  refine ⟨t.congr (h1 _ (by omega)) (fun s hs => h1 _ (by omega)) (by rw [e140]) (h2 _ (by omega)), s.congr (h1 _ (by omega)) (h1 _ (by omega)) (fun s hs => h1 _ (by omega)) (h2 _ (by omega)) (fun k _ => by rw [h2 142 (by omega)]), u.congr (h1 _ (by omega)) (h1 _ (by omega)) (fun a a1 a2 => h1 _ (by omega)) (by rw [e140]) (h2 _ (by omega)) (h2 _ (by omega)), k.congr (h1 _ (by omega)) (h1 _ (by omega)) (fun a a1 a2 => h1 _ (by omega)) (h2 _ (by omega)) (h2 _ (by omega)) (h2 _ (by omega)), x.congr (by rw [h1 8 (by omega)]) (h1 _ (by omega)) (by rw [e140]) (h2 _ (by omega)), n.congr (by rw [h1 0 (by omega)]) (h1 _ (by omega)) (h1 _ (by omega)) (by rw [e140]) (h2 _ (by omega)), z.congr (fun k _ => by rw [h1 129 (by omega)])⟩
theorem res_seq {f g : gMem → Option (Int32 × gMem)} (hR : ∀ {μ ν : gMem}, Sim μ ν → Res f g μ ν) {M : gMem} (h : Sim M M) : ∃ (r : Int32) (M1 M2 : gMem), f M = some (r, M1) ∧ g M1 = some (r, M2) ∧ Sim M2 M2 := by
  obtain ⟨r, M1, ν1, e1, -, -, e4, -⟩ := hR h
  have h2 : Sim M M1 := h.cong (fun _ _ => rfl) e4
  obtain ⟨r', μ', M2, g1, g2, g3, g4, g5⟩ := hR h2
  rw [e1] at g1
  cases g1
  exact ⟨r, M1, M2, e1, g2, g3.cong g5 (fun _ _ => rfl)⟩
/-- the memory at first -/
def m0 (μ : gMem) : gMem := st (st (st (st (st (st μ 141 0 50) 141 1 2) 141 2 (-1)) 141 3 (-1)) 141 4 0) 141 5 3
theorem m0_as (μ : gMem) : f_X11_asAtFirst 141 μ = some (m0 μ) := rfl
theorem sim_first {μ : gMem} (h : I0 μ) : Sim (st (m0 μ) 142 32 2) (st (m0 μ) 142 32 2) := by
  obtain ⟨hs, ho⟩ := h
  have o : ∀ q, q ≠ 141 → q ≠ 142 → st (m0 μ) 142 32 2 q = μ q := fun q h1 h2 => by
    unfold m0
    rw [st_ne h2, st_ne h1, st_ne h1, st_ne h1, st_ne h1, st_ne h1, st_ne h1]
  have oz : ∀ q, q ≠ 141 → q ≠ 142 → q ≠ 16 → q ≠ 1 → (q < 18 ∨ 23 ≤ q) → st (m0 μ) 142 32 2 q = fun _ => 0 := fun q h1 h2 h3 h4 h5 => by rw [o q h1 h2, ho q h3 h5, tT_z h4]
  have o1 : st (m0 μ) 142 32 2 1 = tT Zm 1 := by rw [o 1 (by decide) (by decide), ho 1 (by decide) (by omega)]
  have z141 : μ 141 = fun _ => 0 := by rw [ho 141 (by decide) (by omega), tT_z (by decide)]
  have z142 : μ 142 = fun _ => 0 := by rw [ho 142 (by decide) (by omega), tT_z (by decide)]
  have e141 : st (m0 μ) 142 32 2 141 = upd (upd (upd (upd (upd (upd (fun _ => 0) 0 50) 1 2) 2 (-1)) 3 (-1)) 4 0) 5 3 := by
    unfold m0
    rw [st_ne (by decide), st_eq, st_eq, st_eq, st_eq, st_eq, st_eq, z141]
  have e142 : st (m0 μ) 142 32 2 142 = upd (fun _ => 0) 32 2 := by
    unfold m0
    rw [st_eq, st_ne (by decide), st_ne (by decide), st_ne (by decide), st_ne (by decide), st_ne (by decide), st_ne (by decide), z142]
  have hi : ∀ j, 6 ≤ j → (upd (upd (upd (upd (upd (upd (fun _ => (0 : Int32)) 0 50) 1 2) 2 (-1)) 3 (-1)) 4 0) 5 3) j = 0 := fun j hj => by
    rw [upd_ne (by omega), upd_ne (by omega), upd_ne (by omega), upd_ne (by omega), upd_ne (by omega), upd_ne (by omega)]
  generalize st (m0 μ) 142 32 2 = M at o oz o1 e141 e142
  have ti : TInv M M := by
    refine TInv.of (n := 0) (R := upd (upd (upd (upd (upd (upd (fun _ => 0) 0 50) 1 2) 2 (-1)) 3 (-1)) 4 0) 5 3) ⟨by rw [o1]; rfl, ?_, fun s hs => ?_⟩ (tok_first _) (by rw [oz 140 (by decide) (by decide) (by decide) (by decide) (by omega)]; rfl) (fun k _ => by rw [e141])
    · rw [o1]
      exact ⟨rfl, rfl, rfl, rfl, rfl, rfl⟩
    · rw [oz (3 + s) (by omega) (by omega) (by omega) (by omega) (by omega)]
      unfold mS
      rw [hi _ (by omega), hi _ (by omega), hi _ (by omega), hi _ (by omega), hi _ (by omega)]
      rfl
  refine ⟨ti, ⟨(0, 0, 2, 0, 0), fun _ => z5, ⟨?_, fun s hs5 => ?_⟩, ⟨?_, fun s hs5 => ?_⟩, ?_⟩, ⟨0, 0, by omega, by omega, ?_, ?_, ?_, fun i hi => by omega⟩, fun k hk => ?_, ⟨0, by omega, ?_, ?_, fun i hi => by omega⟩, ⟨0, by omega, ?_, ?_, fun i hi => by omega⟩, fun k hk => ?_⟩
  · rw [o 16 (by decide) (by decide)]; exact hs.1
  · rw [o _ (by omega) (by omega)]; exact hs.2 s hs5
  · rw [e142]; rfl
  · have e : ∀ q, q ≤ 5 → M 142 (5 * q + s) = 0 := fun q hq => by rw [e142, upd_ne (by omega)]
    have e0 := e 0 (by omega)
    have e1 := e 1 (by omega)
    have e2 := e 2 (by omega)
    have e3 := e 3 (by omega)
    have e4 := e 4 (by omega)
    have e5 := e 5 (by omega)
    simp only [Nat.mul_zero, Nat.zero_add, Nat.mul_one, Nat.reduceMul] at e0 e1 e2 e3 e4 e5
    exact ⟨e0, e1, e3, e4, by rw [e5]; exact mz00, fun z => absurd z i01, Or.inl rfl, fun z => absurd z i02, by rw [e5]; exact ⟨by decide, by decide⟩⟩
  · refine ⟨⟨by show (0 : Int) ≤ (0 : Int32).toInt; decide, by show (0 : Int32).toInt ≤ ((999 : Nat) : Int); decide⟩, ⟨2, by omega, rfl⟩, ⟨0, by omega, rfl, ?_⟩, fun s _ => ⟨0, by omega, rfl⟩, fun s _ _ => rfl⟩
    show (0 : Int32) ≤ _
    rw [o1]
    decide
  · rw [oz 23 (by decide) (by decide) (by decide) (by decide) (by omega)]; rfl
  · rw [oz 23 (by decide) (by decide) (by decide) (by decide) (by omega)]; rfl
  · rw [oz 140 (by decide) (by decide) (by decide) (by decide) (by omega)]; rfl
  · rw [oz 96 (by decide) (by decide) (by decide) (by decide) (by omega), oz 146 (by decide) (by decide) (by decide) (by decide) (by omega)]
    exact ⟨rfl, Or.inl rfl, fun z => absurd z (show ¬ (0 : Int32) = 1 by decide)⟩
  · rw [oz 8 (by decide) (by decide) (by decide) (by decide) (by omega)]; rfl
  · rw [oz 140 (by decide) (by decide) (by decide) (by decide) (by omega)]; rfl
  · rw [oz 0 (by decide) (by decide) (by decide) (by decide) (by omega)]; rfl
  · rw [oz 140 (by decide) (by decide) (by decide) (by decide) (by omega)]; rfl
  · rw [oz 129 (by decide) (by decide) (by decide) (by decide) (by omega)]

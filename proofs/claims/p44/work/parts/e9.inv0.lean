/-! the first state keeps the invariant -/
theorem kx_at0 (t o j : Nat) (v : Int32) (h : (t, o, j, v) ∈ kx_cl0) : kx_I0 t o j = v := kx_c0 (t, o, j, v) h
theorem nn_0 : nn 0 = 0 := rfl
theorem rg_00 (b : Nat) : rg (0 : Int32) b := ⟨rfl, Nat.zero_le _⟩
theorem kx_WG0 : WG (kx_I0 41 0) 0 := by
  have g0 : kx_I0 41 0 0 = 0 := kx_at0 _ _ _ _ (by decide)
  have g3 : kx_I0 41 0 3 = 1 := kx_at0 _ _ _ _ (by decide)
  have g4 : kx_I0 41 0 4 = 0 := kx_at0 _ _ _ _ (by decide)
  have g5 : kx_I0 41 0 5 = 0 := kx_at0 _ _ _ _ (by decide)
  have g6 : kx_I0 41 0 6 = 0 := kx_at0 _ _ _ _ (by decide)
  have g7 : kx_I0 41 0 7 = 0 := kx_at0 _ _ _ _ (by decide)
  have g10 : kx_I0 41 0 10 = 0 := kx_at0 _ _ _ _ (by decide)
  have g11 : kx_I0 41 0 11 = 0 := kx_at0 _ _ _ _ (by decide)
  have g12 : kx_I0 41 0 12 = 0 := kx_at0 _ _ _ _ (by decide)
  have g13 : kx_I0 41 0 13 = 0 := kx_at0 _ _ _ _ (by decide)
  have g14 : kx_I0 41 0 14 = 0 := kx_at0 _ _ _ _ (by decide)
  have g15 : kx_I0 41 0 15 = 0 := kx_at0 _ _ _ _ (by decide)
  have r1 : rg (1 : Int32) 4 := rg_nI (n := 1) (by omega) (by omega)
  have n1 : 1 ≤ nn (1 : Int32) := by
    have : nn (nI 1) = 1 := nn_nI (by omega)
    exact Nat.le_of_eq this.symm
  unfold WG WS WP WO WK WF WLb
  rw [g0, g3, g4, g5, g6, g7, g10, g11, g12, g13, g14, g15, nn_0]
  exact ⟨rg_00 _, rg_00 _, rg_00 _, rg_00 _, fun i hi => absurd hi (Nat.not_lt_zero _), fun i hi => Or.inl (kx_c37 i hi).2, ⟨r1, n1, rg_00 _, rg_00 _, rg_00 _, rg_00 _, rg_00 _, rg_00 _⟩, fun s hs => absurd hs (Nat.not_lt_zero _), fun s hs => absurd hs (Nat.not_lt_zero _), rg_00 _, fun e he => absurd he (Nat.not_lt_zero _)⟩
theorem kx_CW0 : CW kx_I0 0 (kx_I0 41 0) := by
  have g12 : kx_I0 41 0 12 = 0 := kx_at0 _ _ _ _ (by decide)
  have g13 : kx_I0 41 0 13 = 0 := kx_at0 _ _ _ _ (by decide)
  have g14 : kx_I0 41 0 14 = 0 := kx_at0 _ _ _ _ (by decide)
  have g15 : kx_I0 41 0 15 = 0 := kx_at0 _ _ _ _ (by decide)
  have eq : ∀ (t o j t2 o2 j2 : Nat) (v : Int32), (t, o, j, v) ∈ kx_cl0 → (t2, o2, j2, v) ∈ kx_cl0 → kx_I0 t o j = kx_I0 t2 o2 j2 := fun t o j t2 o2 j2 v h1 h2 => (kx_at0 _ _ _ _ h1).trans (kx_at0 _ _ _ _ h2).symm
  refine ⟨⟨fun j hj => ?_, fun j hj => ?_, ?_, ?_, ?_, ?_, ?_, ?_, fun i hi => ?_⟩, ⟨fun a => a, ?_, fun s hs => ?_⟩, ⟨?_, fun e he => ?_⟩, ?_, ?_, ?_⟩
  · have c : j = 0 ∨ j = 1 ∨ j = 2 ∨ j = 3 ∨ j = 4 ∨ j = 5 ∨ j = 6 ∨ j = 7 := by omega
    rcases c with rfl | rfl | rfl | rfl | rfl | rfl | rfl | rfl
    · exact eq 6 0 4 41 0 0 0 (by decide) (by decide)
    · exact eq 6 0 5 41 0 1 6 (by decide) (by decide)
    · exact eq 6 0 6 41 0 2 18 (by decide) (by decide)
    · exact eq 6 0 7 41 0 3 1 (by decide) (by decide)
    · exact eq 6 0 8 41 0 4 0 (by decide) (by decide)
    · exact eq 6 0 9 41 0 5 0 (by decide) (by decide)
    · exact eq 6 0 10 41 0 6 0 (by decide) (by decide)
    · exact eq 6 0 11 41 0 7 0 (by decide) (by decide)
  · have c : j = 0 ∨ j = 1 ∨ j = 2 ∨ j = 3 := by omega
    rcases c with rfl | rfl | rfl | rfl
    · exact eq 0 0 0 41 0 8 (-1) (by decide) (by decide)
    · exact eq 0 0 1 41 0 9 168 (by decide) (by decide)
    · exact eq 0 0 2 41 0 10 0 (by decide) (by decide)
    · exact eq 0 0 3 41 0 11 0 (by decide) (by decide)
  · exact eq 0 0 4 41 0 18 0 (by decide) (by decide)
  · exact eq 5 0 2 41 0 12 0 (by decide) (by decide)
  · rw [g12, nn_0]
    exact kx_at0 5 0 3 0 (by decide)
  · rw [g12, nn_0]
    exact fun r hr => absurd hr (Nat.not_lt_zero _)
  · exact eq 1 0 5 41 0 13 0 (by decide) (by decide)
  · rw [g13, nn_0]
    exact fun r hr => absurd hr (Nat.not_lt_zero _)
  · rw [(kx_c37 i hi).1, (kx_c37 i hi).2]
  · rw [g14, nn_0]
    refine ⟨Nat.zero_le _, kx_at0 2 0 5 0 (by decide), fun s hs => absurd hs (Nat.not_lt_zero _), fun s hs => absurd hs (Nat.not_lt_zero _), fun s hs => absurd hs (Nat.not_lt_zero _), fun a b _ hb => absurd hb (Nat.not_lt_zero _)⟩
  · rw [g14, nn_0] at hs
    exact absurd hs (Nat.not_lt_zero _)
  · exact eq 3 0 4 41 0 15 0 (by decide) (by decide)
  · rw [g15, nn_0] at he
    exact absurd he (Nat.not_lt_zero _)
  · exact eq 9 0 3 41 0 16 0 (by decide) (by decide)
  · exact eq 9 0 4 41 0 17 0 (by decide) (by decide)
  · exact eq 9 0 5 41 0 19 1 (by decide) (by decide)
theorem kx_Inv0 : Inv 0 kx_I0 kx_J0 := by
  rw [kx_J0z]
  refine ⟨kx_WG0, kx_CW0, ⟨?_, Or.inl (kx_at0 11 0 3 0 (by decide))⟩, fun s hs => ⟨?_, fun j _ => rfl, Or.inl ⟨(kx_c4 s hs).2.2, (kx_c4 s hs).2.1⟩⟩, ⟨?_, ?_, fun j hj => ?_⟩, fun j hj => kx_c40 j hj, fun j hj => kx_c52 j hj⟩
  · rw [kx_at0 10 0 7 0 (by decide), kx_at0 11 0 3 0 (by decide)]
  · rw [(kx_c4 s hs).1, (kx_c4 s hs).2.2]
  · rw [kx_at0 7 0 1 0 (by decide), kx_at0 11 0 9 0 (by decide)]
  · rw [kx_at0 11 0 9 0 (by decide)]
    exact rg_00 _
  · rw [kx_at0 11 0 9 0 (by decide), nn_0] at hj
    exact absurd hj (Nat.not_lt_zero _)

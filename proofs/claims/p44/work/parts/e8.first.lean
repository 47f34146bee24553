/-! the first state -/
def kx_I0 : kI := cn_11_0 (kx_uA (cn_10_0 (kx_uA (fun _ _ _ => 0) 10 0 (fun _ => 0))) 11 0 (fun _ => 0))
def kx_J0 : kJ := jn_11_0 (jn_10_0 (fun _ _ _ => 0))
set_option maxRecDepth 100000 in
theorem kx_all0 : kx_all kx_I0 := by
  unfold kx_all
  decide +kernel
theorem kx_uLz (t o : Nat) : kx_uL (fun _ _ _ => 0) t o (fun _ => 0) = fun _ _ _ => 0 := by
  funext t2 o2 j
  unfold kx_uL
  by_cases h : t2 = t ∧ o2 = o
  · rw [if_pos h]
  · rw [if_neg h]
theorem kx_J0z : kx_J0 = fun _ _ _ => 0 := by
  simp only [kx_J0, jn_11_0, jn_10_0, jn_9_0, jn_9_1, jn_8_0, jn_7_0, jn_6_0, jn_6_1, jn_6_2, jn_5_0, jn_5_1, jn_5_2, jn_5_3, jn_4_0, jn_4_1, jn_4_2, jn_4_3, jn_4_4, jn_4_5, jn_4_6, jn_4_7, jn_3_0, jn_3_1, jn_2_0, jn_2_1, jn_1_0, jn_1_1, jn_1_2, jn_0_0, jn_0_1, jn_0_2, kx_uLz]
def kx_cl0 : List (Nat × Nat × Nat × Int32) := [(6, 0, 4, 0), (6, 0, 5, 6), (6, 0, 6, 18), (6, 0, 7, 1), (6, 0, 8, 0), (6, 0, 9, 0), (6, 0, 10, 0), (6, 0, 11, 0), (0, 0, 0, -1), (0, 0, 1, 168), (0, 0, 2, 0), (0, 0, 3, 0), (0, 0, 4, 0), (5, 0, 2, 0), (5, 0, 3, 0), (1, 0, 5, 0), (2, 0, 5, 0), (3, 0, 4, 0), (9, 0, 3, 0), (9, 0, 4, 0), (9, 0, 5, 1), (10, 0, 7, 0), (11, 0, 3, 0), (7, 0, 1, 0), (11, 0, 9, 0), (41, 0, 0, 0), (41, 0, 1, 6), (41, 0, 2, 18), (41, 0, 3, 1), (41, 0, 4, 0), (41, 0, 5, 0), (41, 0, 6, 0), (41, 0, 7, 0), (41, 0, 8, -1), (41, 0, 9, 168), (41, 0, 10, 0), (41, 0, 11, 0), (41, 0, 12, 0), (41, 0, 13, 0), (41, 0, 14, 0), (41, 0, 15, 0), (41, 0, 16, 0), (41, 0, 17, 0), (41, 0, 18, 0), (41, 0, 19, 1)]
set_option maxRecDepth 100000 in
theorem kx_c0 : ∀ q ∈ kx_cl0, kx_I0 q.1 q.2.1 q.2.2.1 = q.2.2.2 := by decide +kernel
set_option maxRecDepth 100000 in
theorem kx_c37 : ∀ j, j < 24 → kx_I0 37 0 j = -1 ∧ kx_I0 41 0 (85 + j) = -1 := by decide +kernel
set_option maxRecDepth 100000 in
theorem kx_c4 : ∀ s, s < 8 → kx_I0 4 s 2 = -1 ∧ kx_I0 4 s 1 = 0 ∧ kx_I0 49 0 s = -1 := by decide +kernel
set_option maxRecDepth 100000 in
theorem kx_c40 : ∀ j, j < 5 → kx_I0 40 0 j = kx_I0 42 0 j := by decide +kernel
set_option maxRecDepth 100000 in
theorem kx_c52 : ∀ j, j < 12 → kx_I0 52 0 j = tolds j := by decide +kernel

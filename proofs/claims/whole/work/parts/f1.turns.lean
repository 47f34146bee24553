/-! the law's turns -/
set_option maxRecDepth 100000 in
set_option maxHeartbeats 4000000 in
theorem lw_body {xs : Nat → Int32} {L q N : Nat} {I : kI} {J : kJ} (hq : q + 6 ≤ L) (hL : L ≤ 3072) (hN : N ≤ 700000) (h : Inv N I J) (nx : ∀ (I : kI) (J : kJ), Inv (N + 200) I J → lw_R xs L 1376 q I J) : lw_R xs L 27 q I J := by
  have v0 : vp_in (nI q) L := vl _ L (by omega) (by omega)
  refine kx_start [18, 1376, 1382, 212, 255, 328, 391, 425, 448, 481, 514, 537, 550, 563, 586, 619, 642, 675, 708, 741, 764, 787, 810, 843, 876, 909, 942, 975, 998, 1031, 1054, 1067, 1100, 1113, 1126, 1149, 1182, 1215, 1238, 1281, 1304, 1327, 1340, 1353] 20 ?_
  refine ⟨v0, ?_⟩
  refine ⟨fun _ => lq_row hq hL hN h nx, fun _ => ?_⟩
  refine ⟨fun _ => lq_set hq hL hN h nx, fun _ => ?_⟩
  refine ⟨fun _ => lq_copy hq hL hN h nx, fun _ => ?_⟩
  refine ⟨fun _ => lq_element hq hL hN h nx, fun _ => ?_⟩
  refine ⟨fun _ => lq_holds hq hL hN h nx, fun _ => ?_⟩
  refine ⟨fun _ => lq_show hq hL hN h nx, fun _ => ?_⟩
  refine ⟨fun _ => lq_says hq hL hN h nx, fun _ => ?_⟩
  refine ⟨fun _ => lq_feed hq hL hN h nx, fun _ => ?_⟩
  refine ⟨fun _ => lq_wipe hq hL hN h nx, fun _ => ?_⟩
  refine ⟨fun _ => lq_sky hq hL hN h nx, fun _ => ?_⟩
  refine ⟨fun _ => lq_keeper hq hL hN h nx, fun _ => ?_⟩
  refine ⟨fun _ => lq_plan hq hL hN h nx, fun _ => ?_⟩
  refine ⟨fun _ => lq_plans hq hL hN h nx, fun _ => ?_⟩
  refine ⟨fun _ => lq_tell hq hL hN h nx, fun _ => ?_⟩
  refine ⟨fun _ => lq_boat hq hL hN h nx, fun _ => ?_⟩
  refine ⟨fun _ => lq_ship hq hL hN h nx, fun _ => ?_⟩
  refine ⟨fun _ => lq_pass hq hL hN h nx, fun _ => ?_⟩
  refine ⟨fun _ => lq_weather hq hL hN h nx, fun _ => ?_⟩
  refine ⟨fun _ => lq_dark hq hL hN h nx, fun _ => ?_⟩
  refine ⟨fun _ => lq_keeperOf hq hL hN h nx, fun _ => ?_⟩
  refine ⟨fun _ => lq_shipOf hq hL hN h nx, fun _ => ?_⟩
  refine ⟨fun _ => lq_shipAt hq hL hN h nx, fun _ => ?_⟩
  refine ⟨fun _ => lq_many hq hL hN h nx, fun _ => ?_⟩
  refine ⟨fun _ => lq_log hq hL hN h nx, fun _ => ?_⟩
  refine ⟨fun _ => lq_logged hq hL hN h nx, fun _ => ?_⟩
  refine ⟨fun _ => lq_difference hq hL hN h nx, fun _ => ?_⟩
  refine ⟨fun _ => lq_differences hq hL hN h nx, fun _ => ?_⟩
  refine ⟨fun _ => lq_unlit hq hL hN h nx, fun _ => ?_⟩
  refine ⟨fun _ => lq_would hq hL hN h nx, fun _ => ?_⟩
  refine ⟨fun _ => lq_fails hq hL hN h nx, fun _ => ?_⟩
  refine ⟨fun _ => lq_comes hq hL hN h nx, fun _ => ?_⟩
  refine ⟨fun _ => lq_oil hq hL hN h nx, fun _ => ?_⟩
  refine ⟨fun _ => lq_better hq hL hN h nx, fun _ => ?_⟩
  refine ⟨fun _ => lq_other hq hL hN h nx, fun _ => ?_⟩
  refine ⟨fun _ => lq_idle hq hL hN h nx, fun _ => ?_⟩
  refine ⟨fun _ => lq_judge hq hL hN h nx, fun _ => ?_⟩
  refine ⟨fun _ => lq_days hq hL hN h nx, fun _ => ?_⟩
  refine ⟨fun _ => lq_seed hq hL hN h nx, fun _ => ?_⟩
  refine ⟨fun _ => lq_image hq hL hN h nx, fun _ => ?_⟩
  refine ⟨fun _ => lq_back hq hL hN h nx, fun _ => ?_⟩
  refine ⟨fun _ => lq_status hq hL hN h nx, fun _ => ?_⟩
  exact nx I J (Inv_mono h (by omega))
theorem lw_cmp {q L : Nat} (hL : L ≤ 3072) (hq : q ≤ 100000) : (nI L - 6 < nI q) ↔ L < q + 6 := by
  have e6 : (6 : Int32).toInt = 6 := rfl
  rw [Int32.lt_iff_toInt_lt, iz_sub (by rw [e6, iz_nI (by omega)]; omega), e6, iz_nI (by omega), iz_nI (by omega)]
  omega
set_option maxRecDepth 100000 in
set_option maxHeartbeats 4000000 in
theorem lw_turns {xs : Nat → Int32} {L : Nat} (hL : L ≤ 3072) : ∀ n q N (I : kI) (J : kJ), L < q + 6 * (n + 1) → q ≤ L + 6 → N + 200 * n ≤ 700000 → Inv N I J → lw_R xs L 18 q I J := by
  have fin : ∀ (q : Nat) (I : kI) (J : kJ), lw_R xs L 1382 q I J := fun q I J => by
    refine kx_start [18] 20 ?_
    exact rfl
  intro n
  induction n with
  | zero =>
    intro q N I J hq hq2 hN h
    have c := (lw_cmp (q := q) hL (by omega)).mpr (by omega)
    refine kx_start [1382, 27] 20 ?_
    exact ⟨fun _ => fin q I J, fun z => absurd c z⟩
  | succ n ih =>
    intro q N I J hq hq2 hN h
    by_cases y : L < q + 6
    · have c := (lw_cmp (q := q) hL (by omega)).mpr y
      refine kx_start [1382, 27] 20 ?_
      exact ⟨fun _ => fin q I J, fun z => absurd c z⟩
    · have c : ¬ (nI L - 6 < nI q) := fun z => y ((lw_cmp (q := q) hL (by omega)).mp z)
      refine kx_start [1382, 27] 20 ?_
      refine ⟨fun z => absurd z c, fun _ => ?_⟩
      refine lw_body (by omega) hL (by omega) h (fun I J h2 => ?_)
      have r := ih (q + 6) (N + 200) I J (by omega) (by omega) (by omega) h2
      have e6 : nI q + 6 = nI (q + 6) := nI_add q 6
      unfold lw_R lw_L at r
      rw [← e6] at r
      refine kx_start [18] 20 ?_
      exact r
set_option maxRecDepth 100000 in
set_option maxHeartbeats 4000000 in
theorem lw_all {xs : Nat → Int32} {L : Nat} (hL : L ≤ 3072) : kx_Run (tb_law2 xs L) (kx_NC, fun _ _ => True) 0 [some (kx_r 999 0), none, none, none] [] (fun _ _ _ => 0, fun _ _ _ => 0, some 0) := by
  have r := lw_turns (xs := xs) hL 512 0 0 kx_I0 kx_J0 (by omega) (by omega) (by omega) kx_Inv0
  refine kx_start [18] 40 ?_
  refine ⟨_, kn_10_0 _ _, rfl, rfl, Nat.le_of_ble_eq_true rfl, ?_⟩
  refine ⟨_, kn_11_0 _ _, rfl, rfl, Nat.le_of_ble_eq_true rfl, ?_⟩
  refine ⟨kx_all0, rfl, ?_⟩
  exact r

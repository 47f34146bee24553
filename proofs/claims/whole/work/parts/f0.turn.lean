/-! a turn of the law, case by case; made by wip/whole/gen/genlaw.py -/
abbrev lw_L (q : Nat) : kx_L := [some (kx_r 999 0), some (kx_r 10 0), some (kx_r 11 0), some (kx_i (nI q))]
abbrev lw_R (xs : Nat → Int32) (L pc q : Nat) (I : kI) (J : kJ) : Prop := kx_Run (tb_law2 xs L) (kx_NC, fun _ _ => True) pc (lw_L q) [] (I, J, none)
theorem lw_vp {q L k : Nat} (h : q + 6 ≤ L) (hL : L ≤ 3072) (hk : k < 6) : vp_in (nI q + nI k) L := by
  rw [nI_add]
  exact vl _ L (by omega) (by omega)
theorem lg_cmp0 (v : Int64) : lg_cmp v v = 0 := by
  unfold lg_cmp
  simp
set_option maxRecDepth 100000 in
set_option maxHeartbeats 2000000 in
theorem lq_row {xs : Nat → Int32} {L q N : Nat} {I : kI} {J : kJ} (hq : q + 6 ≤ L) (hL : L ≤ 3072) (hN : N ≤ 700000) (h : Inv N I J) (nx : ∀ (I : kI) (J : kJ), Inv (N + 200) I J → lw_R xs L 1376 q I J) : lw_R xs L 212 q I J := by
  obtain ⟨v, I1, J1, I2, J2, c1, c2, h2⟩ := mm_row h (xs ((nI q + 1).toNatClampNeg)) (xs ((nI q + 2).toNatClampNeg)) (xs ((nI q + 3).toNatClampNeg))
  have v1 : vp_in (nI q + 1) L := lw_vp (k := 1) hq hL (by omega)
  have v2 : vp_in (nI q + 2) L := lw_vp (k := 2) hq hL (by omega)
  have v3 : vp_in (nI q + 3) L := lw_vp (k := 3) hq hL (by omega)
  refine kx_start [1376] 80 ?_
  refine ⟨v1, ?_⟩
  refine ⟨v2, ?_⟩
  refine ⟨v3, ?_⟩
  refine ⟨some (kx_i v), (I1, J1, none), c1, rfl, ?_⟩
  refine ⟨v1, ?_⟩
  refine ⟨v2, ?_⟩
  refine ⟨v3, ?_⟩
  refine ⟨some (kx_i v), (I2, J2, none), c2, rfl, ?_⟩
  exact ⟨fun _ => nx I2 J2 h2, fun z => absurd rfl z⟩
set_option maxRecDepth 100000 in
set_option maxHeartbeats 2000000 in
theorem lq_set {xs : Nat → Int32} {L q N : Nat} {I : kI} {J : kJ} (hq : q + 6 ≤ L) (hL : L ≤ 3072) (hN : N ≤ 700000) (h : Inv N I J) (nx : ∀ (I : kI) (J : kJ), Inv (N + 200) I J → lw_R xs L 1376 q I J) : lw_R xs L 255 q I J := by
  obtain ⟨v, I1, J1, I2, J2, c1, c2, h2⟩ := mm_set h (xs ((nI q + 1).toNatClampNeg)) (xs ((nI q + 2).toNatClampNeg)) ((((xs ((nI q + 3).toNatClampNeg)).toInt64 <<< ((32 : Int32).toInt64 &&& 63)) ||| ((xs ((nI q + 4).toNatClampNeg)).toInt64 &&& (4294967295 : Int64))))
  have v1 : vp_in (nI q + 1) L := lw_vp (k := 1) hq hL (by omega)
  have v2 : vp_in (nI q + 2) L := lw_vp (k := 2) hq hL (by omega)
  have v3 : vp_in (nI q + 3) L := lw_vp (k := 3) hq hL (by omega)
  have v4 : vp_in (nI q + 4) L := lw_vp (k := 4) hq hL (by omega)
  refine kx_start [1376] 80 ?_
  refine ⟨v1, ?_⟩
  refine ⟨v2, ?_⟩
  refine ⟨v3, ?_⟩
  refine ⟨v4, ?_⟩
  refine ⟨some (kx_i v), (I1, J1, none), c1, rfl, ?_⟩
  refine ⟨v1, ?_⟩
  refine ⟨v2, ?_⟩
  refine ⟨v3, ?_⟩
  refine ⟨v4, ?_⟩
  refine ⟨some (kx_i v), (I2, J2, none), c2, rfl, ?_⟩
  exact ⟨fun _ => nx I2 J2 h2, fun z => absurd rfl z⟩
set_option maxRecDepth 100000 in
set_option maxHeartbeats 2000000 in
theorem lq_copy {xs : Nat → Int32} {L q N : Nat} {I : kI} {J : kJ} (hq : q + 6 ≤ L) (hL : L ≤ 3072) (hN : N ≤ 700000) (h : Inv N I J) (nx : ∀ (I : kI) (J : kJ), Inv (N + 200) I J → lw_R xs L 1376 q I J) : lw_R xs L 328 q I J := by
  obtain ⟨v, I1, J1, I2, J2, c1, c2, h2⟩ := mm_copy h (xs ((nI q + 1).toNatClampNeg)) (xs ((nI q + 2).toNatClampNeg)) (xs ((nI q + 3).toNatClampNeg)) (xs ((nI q + 4).toNatClampNeg)) (xs ((nI q + 5).toNatClampNeg))
  have v1 : vp_in (nI q + 1) L := lw_vp (k := 1) hq hL (by omega)
  have v2 : vp_in (nI q + 2) L := lw_vp (k := 2) hq hL (by omega)
  have v3 : vp_in (nI q + 3) L := lw_vp (k := 3) hq hL (by omega)
  have v4 : vp_in (nI q + 4) L := lw_vp (k := 4) hq hL (by omega)
  have v5 : vp_in (nI q + 5) L := lw_vp (k := 5) hq hL (by omega)
  refine kx_start [1376] 80 ?_
  refine ⟨v1, ?_⟩
  refine ⟨v2, ?_⟩
  refine ⟨v3, ?_⟩
  refine ⟨v4, ?_⟩
  refine ⟨v5, ?_⟩
  refine ⟨some (kx_i v), (I1, J1, none), c1, rfl, ?_⟩
  refine ⟨v1, ?_⟩
  refine ⟨v2, ?_⟩
  refine ⟨v3, ?_⟩
  refine ⟨v4, ?_⟩
  refine ⟨v5, ?_⟩
  refine ⟨some (kx_i v), (I2, J2, none), c2, rfl, ?_⟩
  exact ⟨fun _ => nx I2 J2 h2, fun z => absurd rfl z⟩
set_option maxRecDepth 100000 in
set_option maxHeartbeats 2000000 in
theorem lq_element {xs : Nat → Int32} {L q N : Nat} {I : kI} {J : kJ} (hq : q + 6 ≤ L) (hL : L ≤ 3072) (hN : N ≤ 700000) (h : Inv N I J) (nx : ∀ (I : kI) (J : kJ), Inv (N + 200) I J → lw_R xs L 1376 q I J) : lw_R xs L 391 q I J := by
  obtain ⟨v, I1, J1, I2, J2, c1, c2, h2⟩ := mm_element h (xs ((nI q + 1).toNatClampNeg)) (xs ((nI q + 2).toNatClampNeg))
  have v1 : vp_in (nI q + 1) L := lw_vp (k := 1) hq hL (by omega)
  have v2 : vp_in (nI q + 2) L := lw_vp (k := 2) hq hL (by omega)
  refine kx_start [1376] 80 ?_
  refine ⟨v1, ?_⟩
  refine ⟨v2, ?_⟩
  refine ⟨some (kx_l v), (I1, J1, none), c1, rfl, ?_⟩
  refine ⟨v1, ?_⟩
  refine ⟨v2, ?_⟩
  refine ⟨some (kx_l v), (I2, J2, none), c2, rfl, ?_⟩
  exact ⟨fun _ => nx I2 J2 h2, fun z => absurd (lg_cmp0 v) z⟩
set_option maxRecDepth 100000 in
set_option maxHeartbeats 2000000 in
theorem lq_holds {xs : Nat → Int32} {L q N : Nat} {I : kI} {J : kJ} (hq : q + 6 ≤ L) (hL : L ≤ 3072) (hN : N ≤ 700000) (h : Inv N I J) (nx : ∀ (I : kI) (J : kJ), Inv (N + 200) I J → lw_R xs L 1376 q I J) : lw_R xs L 425 q I J := by
  obtain ⟨v, I1, J1, I2, J2, c1, c2, h2⟩ := mm_holds h (xs ((nI q + 1).toNatClampNeg))
  have v1 : vp_in (nI q + 1) L := lw_vp (k := 1) hq hL (by omega)
  refine kx_start [1376] 80 ?_
  refine ⟨v1, ?_⟩
  refine ⟨some (kx_i v), (I1, J1, none), c1, rfl, ?_⟩
  refine ⟨v1, ?_⟩
  refine ⟨some (kx_i v), (I2, J2, none), c2, rfl, ?_⟩
  exact ⟨fun _ => nx I2 J2 h2, fun z => absurd rfl z⟩
set_option maxRecDepth 100000 in
set_option maxHeartbeats 2000000 in
theorem lq_show {xs : Nat → Int32} {L q N : Nat} {I : kI} {J : kJ} (hq : q + 6 ≤ L) (hL : L ≤ 3072) (hN : N ≤ 700000) (h : Inv N I J) (nx : ∀ (I : kI) (J : kJ), Inv (N + 200) I J → lw_R xs L 1376 q I J) : lw_R xs L 448 q I J := by
  obtain ⟨v, I1, J1, I2, J2, c1, c2, h2⟩ := mm_show h (xs ((nI q + 1).toNatClampNeg)) (xs ((nI q + 2).toNatClampNeg))
  have v1 : vp_in (nI q + 1) L := lw_vp (k := 1) hq hL (by omega)
  have v2 : vp_in (nI q + 2) L := lw_vp (k := 2) hq hL (by omega)
  refine kx_start [1376] 80 ?_
  refine ⟨v1, ?_⟩
  refine ⟨v2, ?_⟩
  refine ⟨some (kx_i v), (I1, J1, none), c1, rfl, ?_⟩
  refine ⟨v1, ?_⟩
  refine ⟨v2, ?_⟩
  refine ⟨some (kx_i v), (I2, J2, none), c2, rfl, ?_⟩
  exact ⟨fun _ => nx I2 J2 h2, fun z => absurd rfl z⟩
set_option maxRecDepth 100000 in
set_option maxHeartbeats 2000000 in
theorem lq_says {xs : Nat → Int32} {L q N : Nat} {I : kI} {J : kJ} (hq : q + 6 ≤ L) (hL : L ≤ 3072) (hN : N ≤ 700000) (h : Inv N I J) (nx : ∀ (I : kI) (J : kJ), Inv (N + 200) I J → lw_R xs L 1376 q I J) : lw_R xs L 481 q I J := by
  obtain ⟨v, I1, J1, I2, J2, c1, c2, h2⟩ := mm_says h (xs ((nI q + 1).toNatClampNeg)) (xs ((nI q + 2).toNatClampNeg))
  have v1 : vp_in (nI q + 1) L := lw_vp (k := 1) hq hL (by omega)
  have v2 : vp_in (nI q + 2) L := lw_vp (k := 2) hq hL (by omega)
  refine kx_start [1376] 80 ?_
  refine ⟨v1, ?_⟩
  refine ⟨v2, ?_⟩
  refine ⟨some (kx_i v), (I1, J1, none), c1, rfl, ?_⟩
  refine ⟨v1, ?_⟩
  refine ⟨v2, ?_⟩
  refine ⟨some (kx_i v), (I2, J2, none), c2, rfl, ?_⟩
  exact ⟨fun _ => nx I2 J2 h2, fun z => absurd rfl z⟩
set_option maxRecDepth 100000 in
set_option maxHeartbeats 2000000 in
theorem lq_feed {xs : Nat → Int32} {L q N : Nat} {I : kI} {J : kJ} (hq : q + 6 ≤ L) (hL : L ≤ 3072) (hN : N ≤ 700000) (h : Inv N I J) (nx : ∀ (I : kI) (J : kJ), Inv (N + 200) I J → lw_R xs L 1376 q I J) : lw_R xs L 514 q I J := by
  obtain ⟨v, I1, J1, I2, J2, c1, c2, h2⟩ := mm_feed h (xs ((nI q + 1).toNatClampNeg))
  have v1 : vp_in (nI q + 1) L := lw_vp (k := 1) hq hL (by omega)
  refine kx_start [1376] 80 ?_
  refine ⟨v1, ?_⟩
  refine ⟨some (kx_i v), (I1, J1, none), c1, rfl, ?_⟩
  refine ⟨v1, ?_⟩
  refine ⟨some (kx_i v), (I2, J2, none), c2, rfl, ?_⟩
  exact ⟨fun _ => nx I2 J2 h2, fun z => absurd rfl z⟩
set_option maxRecDepth 100000 in
set_option maxHeartbeats 2000000 in
theorem lq_wipe {xs : Nat → Int32} {L q N : Nat} {I : kI} {J : kJ} (hq : q + 6 ≤ L) (hL : L ≤ 3072) (hN : N ≤ 700000) (h : Inv N I J) (nx : ∀ (I : kI) (J : kJ), Inv (N + 200) I J → lw_R xs L 1376 q I J) : lw_R xs L 537 q I J := by
  obtain ⟨v, I1, J1, I2, J2, c1, c2, h2⟩ := mm_wipe h 
  refine kx_start [1376] 80 ?_
  refine ⟨some (kx_i v), (I1, J1, none), c1, rfl, ?_⟩
  refine ⟨some (kx_i v), (I2, J2, none), c2, rfl, ?_⟩
  exact ⟨fun _ => nx I2 J2 h2, fun z => absurd rfl z⟩
set_option maxRecDepth 100000 in
set_option maxHeartbeats 2000000 in
theorem lq_sky {xs : Nat → Int32} {L q N : Nat} {I : kI} {J : kJ} (hq : q + 6 ≤ L) (hL : L ≤ 3072) (hN : N ≤ 700000) (h : Inv N I J) (nx : ∀ (I : kI) (J : kJ), Inv (N + 200) I J → lw_R xs L 1376 q I J) : lw_R xs L 550 q I J := by
  obtain ⟨v, I1, J1, I2, J2, c1, c2, h2⟩ := mm_sky h 
  refine kx_start [1376] 80 ?_
  refine ⟨some (kx_i v), (I1, J1, none), c1, rfl, ?_⟩
  refine ⟨some (kx_i v), (I2, J2, none), c2, rfl, ?_⟩
  exact ⟨fun _ => nx I2 J2 h2, fun z => absurd rfl z⟩
set_option maxRecDepth 100000 in
set_option maxHeartbeats 2000000 in
theorem lq_keeper {xs : Nat → Int32} {L q N : Nat} {I : kI} {J : kJ} (hq : q + 6 ≤ L) (hL : L ≤ 3072) (hN : N ≤ 700000) (h : Inv N I J) (nx : ∀ (I : kI) (J : kJ), Inv (N + 200) I J → lw_R xs L 1376 q I J) : lw_R xs L 563 q I J := by
  obtain ⟨v, I1, J1, I2, J2, c1, c2, h2⟩ := mm_keeper h (xs ((nI q + 1).toNatClampNeg))
  have v1 : vp_in (nI q + 1) L := lw_vp (k := 1) hq hL (by omega)
  refine kx_start [1376] 80 ?_
  refine ⟨v1, ?_⟩
  refine ⟨some (kx_i v), (I1, J1, none), c1, rfl, ?_⟩
  refine ⟨v1, ?_⟩
  refine ⟨some (kx_i v), (I2, J2, none), c2, rfl, ?_⟩
  exact ⟨fun _ => nx I2 J2 h2, fun z => absurd rfl z⟩
set_option maxRecDepth 100000 in
set_option maxHeartbeats 2000000 in
theorem lq_plan {xs : Nat → Int32} {L q N : Nat} {I : kI} {J : kJ} (hq : q + 6 ≤ L) (hL : L ≤ 3072) (hN : N ≤ 700000) (h : Inv N I J) (nx : ∀ (I : kI) (J : kJ), Inv (N + 200) I J → lw_R xs L 1376 q I J) : lw_R xs L 586 q I J := by
  obtain ⟨v, I1, J1, I2, J2, c1, c2, h2⟩ := mm_plan h (xs ((nI q + 1).toNatClampNeg)) (xs ((nI q + 2).toNatClampNeg))
  have v1 : vp_in (nI q + 1) L := lw_vp (k := 1) hq hL (by omega)
  have v2 : vp_in (nI q + 2) L := lw_vp (k := 2) hq hL (by omega)
  refine kx_start [1376] 80 ?_
  refine ⟨v1, ?_⟩
  refine ⟨v2, ?_⟩
  refine ⟨some (kx_i v), (I1, J1, none), c1, rfl, ?_⟩
  refine ⟨v1, ?_⟩
  refine ⟨v2, ?_⟩
  refine ⟨some (kx_i v), (I2, J2, none), c2, rfl, ?_⟩
  exact ⟨fun _ => nx I2 J2 h2, fun z => absurd rfl z⟩
set_option maxRecDepth 100000 in
set_option maxHeartbeats 2000000 in
theorem lq_plans {xs : Nat → Int32} {L q N : Nat} {I : kI} {J : kJ} (hq : q + 6 ≤ L) (hL : L ≤ 3072) (hN : N ≤ 700000) (h : Inv N I J) (nx : ∀ (I : kI) (J : kJ), Inv (N + 200) I J → lw_R xs L 1376 q I J) : lw_R xs L 619 q I J := by
  obtain ⟨v, I1, J1, I2, J2, c1, c2, h2⟩ := mm_plans h (xs ((nI q + 1).toNatClampNeg))
  have v1 : vp_in (nI q + 1) L := lw_vp (k := 1) hq hL (by omega)
  refine kx_start [1376] 80 ?_
  refine ⟨v1, ?_⟩
  refine ⟨some (kx_i v), (I1, J1, none), c1, rfl, ?_⟩
  refine ⟨v1, ?_⟩
  refine ⟨some (kx_i v), (I2, J2, none), c2, rfl, ?_⟩
  exact ⟨fun _ => nx I2 J2 h2, fun z => absurd rfl z⟩
set_option maxRecDepth 100000 in
set_option maxHeartbeats 2000000 in
theorem lq_tell {xs : Nat → Int32} {L q N : Nat} {I : kI} {J : kJ} (hq : q + 6 ≤ L) (hL : L ≤ 3072) (hN : N ≤ 700000) (h : Inv N I J) (nx : ∀ (I : kI) (J : kJ), Inv (N + 200) I J → lw_R xs L 1376 q I J) : lw_R xs L 642 q I J := by
  obtain ⟨v, I1, J1, I2, J2, c1, c2, h2⟩ := mm_tell h (xs ((nI q + 1).toNatClampNeg)) (xs ((nI q + 2).toNatClampNeg))
  have v1 : vp_in (nI q + 1) L := lw_vp (k := 1) hq hL (by omega)
  have v2 : vp_in (nI q + 2) L := lw_vp (k := 2) hq hL (by omega)
  refine kx_start [1376] 80 ?_
  refine ⟨v1, ?_⟩
  refine ⟨v2, ?_⟩
  refine ⟨some (kx_i v), (I1, J1, none), c1, rfl, ?_⟩
  refine ⟨v1, ?_⟩
  refine ⟨v2, ?_⟩
  refine ⟨some (kx_i v), (I2, J2, none), c2, rfl, ?_⟩
  exact ⟨fun _ => nx I2 J2 h2, fun z => absurd rfl z⟩
set_option maxRecDepth 100000 in
set_option maxHeartbeats 2000000 in
theorem lq_boat {xs : Nat → Int32} {L q N : Nat} {I : kI} {J : kJ} (hq : q + 6 ≤ L) (hL : L ≤ 3072) (hN : N ≤ 700000) (h : Inv N I J) (nx : ∀ (I : kI) (J : kJ), Inv (N + 200) I J → lw_R xs L 1376 q I J) : lw_R xs L 675 q I J := by
  obtain ⟨v, I1, J1, I2, J2, c1, c2, h2⟩ := mm_boat (by omega) h (xs ((nI q + 1).toNatClampNeg)) (xs ((nI q + 2).toNatClampNeg))
  have v1 : vp_in (nI q + 1) L := lw_vp (k := 1) hq hL (by omega)
  have v2 : vp_in (nI q + 2) L := lw_vp (k := 2) hq hL (by omega)
  refine kx_start [1376] 80 ?_
  refine ⟨v1, ?_⟩
  refine ⟨v2, ?_⟩
  refine ⟨some (kx_i v), (I1, J1, none), c1, rfl, ?_⟩
  refine ⟨v1, ?_⟩
  refine ⟨v2, ?_⟩
  refine ⟨some (kx_i v), (I2, J2, none), c2, rfl, ?_⟩
  exact ⟨fun _ => nx I2 J2 h2, fun z => absurd rfl z⟩
set_option maxRecDepth 100000 in
set_option maxHeartbeats 2000000 in
theorem lq_ship {xs : Nat → Int32} {L q N : Nat} {I : kI} {J : kJ} (hq : q + 6 ≤ L) (hL : L ≤ 3072) (hN : N ≤ 700000) (h : Inv N I J) (nx : ∀ (I : kI) (J : kJ), Inv (N + 200) I J → lw_R xs L 1376 q I J) : lw_R xs L 708 q I J := by
  obtain ⟨v, I1, J1, I2, J2, c1, c2, h2⟩ := mm_ship (by omega) h (xs ((nI q + 1).toNatClampNeg)) (xs ((nI q + 2).toNatClampNeg))
  have v1 : vp_in (nI q + 1) L := lw_vp (k := 1) hq hL (by omega)
  have v2 : vp_in (nI q + 2) L := lw_vp (k := 2) hq hL (by omega)
  refine kx_start [1376] 80 ?_
  refine ⟨v1, ?_⟩
  refine ⟨v2, ?_⟩
  refine ⟨some (kx_i v), (I1, J1, none), c1, rfl, ?_⟩
  refine ⟨v1, ?_⟩
  refine ⟨v2, ?_⟩
  refine ⟨some (kx_i v), (I2, J2, none), c2, rfl, ?_⟩
  exact ⟨fun _ => nx I2 J2 h2, fun z => absurd rfl z⟩
set_option maxRecDepth 100000 in
set_option maxHeartbeats 2000000 in
theorem lq_pass {xs : Nat → Int32} {L q N : Nat} {I : kI} {J : kJ} (hq : q + 6 ≤ L) (hL : L ≤ 3072) (hN : N ≤ 700000) (h : Inv N I J) (nx : ∀ (I : kI) (J : kJ), Inv (N + 200) I J → lw_R xs L 1376 q I J) : lw_R xs L 741 q I J := by
  obtain ⟨v, I1, J1, I2, J2, c1, c2, h2⟩ := mm_pass (by omega) h (xs ((nI q + 1).toNatClampNeg))
  have v1 : vp_in (nI q + 1) L := lw_vp (k := 1) hq hL (by omega)
  refine kx_start [1376] 80 ?_
  refine ⟨v1, ?_⟩
  refine ⟨some (kx_i v), (I1, J1, none), c1, rfl, ?_⟩
  refine ⟨v1, ?_⟩
  refine ⟨some (kx_i v), (I2, J2, none), c2, rfl, ?_⟩
  exact ⟨fun _ => nx I2 J2 h2, fun z => absurd rfl z⟩
set_option maxRecDepth 100000 in
set_option maxHeartbeats 2000000 in
theorem lq_weather {xs : Nat → Int32} {L q N : Nat} {I : kI} {J : kJ} (hq : q + 6 ≤ L) (hL : L ≤ 3072) (hN : N ≤ 700000) (h : Inv N I J) (nx : ∀ (I : kI) (J : kJ), Inv (N + 200) I J → lw_R xs L 1376 q I J) : lw_R xs L 764 q I J := by
  obtain ⟨v, I1, J1, I2, J2, c1, c2, h2⟩ := mm_weather h (xs ((nI q + 1).toNatClampNeg))
  have v1 : vp_in (nI q + 1) L := lw_vp (k := 1) hq hL (by omega)
  refine kx_start [1376] 80 ?_
  refine ⟨v1, ?_⟩
  refine ⟨some (kx_i v), (I1, J1, none), c1, rfl, ?_⟩
  refine ⟨v1, ?_⟩
  refine ⟨some (kx_i v), (I2, J2, none), c2, rfl, ?_⟩
  exact ⟨fun _ => nx I2 J2 h2, fun z => absurd rfl z⟩
set_option maxRecDepth 100000 in
set_option maxHeartbeats 2000000 in
theorem lq_dark {xs : Nat → Int32} {L q N : Nat} {I : kI} {J : kJ} (hq : q + 6 ≤ L) (hL : L ≤ 3072) (hN : N ≤ 700000) (h : Inv N I J) (nx : ∀ (I : kI) (J : kJ), Inv (N + 200) I J → lw_R xs L 1376 q I J) : lw_R xs L 787 q I J := by
  obtain ⟨v, I1, J1, I2, J2, c1, c2, h2⟩ := mm_dark h (xs ((nI q + 1).toNatClampNeg))
  have v1 : vp_in (nI q + 1) L := lw_vp (k := 1) hq hL (by omega)
  refine kx_start [1376] 80 ?_
  refine ⟨v1, ?_⟩
  refine ⟨some (kx_i v), (I1, J1, none), c1, rfl, ?_⟩
  refine ⟨v1, ?_⟩
  refine ⟨some (kx_i v), (I2, J2, none), c2, rfl, ?_⟩
  exact ⟨fun _ => nx I2 J2 h2, fun z => absurd rfl z⟩
set_option maxRecDepth 100000 in
set_option maxHeartbeats 2000000 in
theorem lq_keeperOf {xs : Nat → Int32} {L q N : Nat} {I : kI} {J : kJ} (hq : q + 6 ≤ L) (hL : L ≤ 3072) (hN : N ≤ 700000) (h : Inv N I J) (nx : ∀ (I : kI) (J : kJ), Inv (N + 200) I J → lw_R xs L 1376 q I J) : lw_R xs L 810 q I J := by
  obtain ⟨v, I1, J1, I2, J2, c1, c2, h2⟩ := mm_keeperOf h (xs ((nI q + 1).toNatClampNeg)) (xs ((nI q + 2).toNatClampNeg))
  have v1 : vp_in (nI q + 1) L := lw_vp (k := 1) hq hL (by omega)
  have v2 : vp_in (nI q + 2) L := lw_vp (k := 2) hq hL (by omega)
  refine kx_start [1376] 80 ?_
  refine ⟨v1, ?_⟩
  refine ⟨v2, ?_⟩
  refine ⟨some (kx_i v), (I1, J1, none), c1, rfl, ?_⟩
  refine ⟨v1, ?_⟩
  refine ⟨v2, ?_⟩
  refine ⟨some (kx_i v), (I2, J2, none), c2, rfl, ?_⟩
  exact ⟨fun _ => nx I2 J2 h2, fun z => absurd rfl z⟩
set_option maxRecDepth 100000 in
set_option maxHeartbeats 2000000 in
theorem lq_shipOf {xs : Nat → Int32} {L q N : Nat} {I : kI} {J : kJ} (hq : q + 6 ≤ L) (hL : L ≤ 3072) (hN : N ≤ 700000) (h : Inv N I J) (nx : ∀ (I : kI) (J : kJ), Inv (N + 200) I J → lw_R xs L 1376 q I J) : lw_R xs L 843 q I J := by
  obtain ⟨v, I1, J1, I2, J2, c1, c2, h2⟩ := mm_shipOf h (xs ((nI q + 1).toNatClampNeg)) (xs ((nI q + 2).toNatClampNeg))
  have v1 : vp_in (nI q + 1) L := lw_vp (k := 1) hq hL (by omega)
  have v2 : vp_in (nI q + 2) L := lw_vp (k := 2) hq hL (by omega)
  refine kx_start [1376] 80 ?_
  refine ⟨v1, ?_⟩
  refine ⟨v2, ?_⟩
  refine ⟨some (kx_i v), (I1, J1, none), c1, rfl, ?_⟩
  refine ⟨v1, ?_⟩
  refine ⟨v2, ?_⟩
  refine ⟨some (kx_i v), (I2, J2, none), c2, rfl, ?_⟩
  exact ⟨fun _ => nx I2 J2 h2, fun z => absurd rfl z⟩
set_option maxRecDepth 100000 in
set_option maxHeartbeats 2000000 in
theorem lq_shipAt {xs : Nat → Int32} {L q N : Nat} {I : kI} {J : kJ} (hq : q + 6 ≤ L) (hL : L ≤ 3072) (hN : N ≤ 700000) (h : Inv N I J) (nx : ∀ (I : kI) (J : kJ), Inv (N + 200) I J → lw_R xs L 1376 q I J) : lw_R xs L 876 q I J := by
  obtain ⟨v, I1, J1, I2, J2, c1, c2, h2⟩ := mm_shipAt h (xs ((nI q + 1).toNatClampNeg)) (xs ((nI q + 2).toNatClampNeg))
  have v1 : vp_in (nI q + 1) L := lw_vp (k := 1) hq hL (by omega)
  have v2 : vp_in (nI q + 2) L := lw_vp (k := 2) hq hL (by omega)
  refine kx_start [1376] 80 ?_
  refine ⟨v1, ?_⟩
  refine ⟨v2, ?_⟩
  refine ⟨some (kx_i v), (I1, J1, none), c1, rfl, ?_⟩
  refine ⟨v1, ?_⟩
  refine ⟨v2, ?_⟩
  refine ⟨some (kx_i v), (I2, J2, none), c2, rfl, ?_⟩
  exact ⟨fun _ => nx I2 J2 h2, fun z => absurd rfl z⟩
set_option maxRecDepth 100000 in
set_option maxHeartbeats 2000000 in
theorem lq_many {xs : Nat → Int32} {L q N : Nat} {I : kI} {J : kJ} (hq : q + 6 ≤ L) (hL : L ≤ 3072) (hN : N ≤ 700000) (h : Inv N I J) (nx : ∀ (I : kI) (J : kJ), Inv (N + 200) I J → lw_R xs L 1376 q I J) : lw_R xs L 909 q I J := by
  obtain ⟨v, I1, J1, I2, J2, c1, c2, h2⟩ := mm_many h (xs ((nI q + 1).toNatClampNeg)) (xs ((nI q + 2).toNatClampNeg))
  have v1 : vp_in (nI q + 1) L := lw_vp (k := 1) hq hL (by omega)
  have v2 : vp_in (nI q + 2) L := lw_vp (k := 2) hq hL (by omega)
  refine kx_start [1376] 80 ?_
  refine ⟨v1, ?_⟩
  refine ⟨v2, ?_⟩
  refine ⟨some (kx_i v), (I1, J1, none), c1, rfl, ?_⟩
  refine ⟨v1, ?_⟩
  refine ⟨v2, ?_⟩
  refine ⟨some (kx_i v), (I2, J2, none), c2, rfl, ?_⟩
  exact ⟨fun _ => nx I2 J2 h2, fun z => absurd rfl z⟩
set_option maxRecDepth 100000 in
set_option maxHeartbeats 2000000 in
theorem lq_log {xs : Nat → Int32} {L q N : Nat} {I : kI} {J : kJ} (hq : q + 6 ≤ L) (hL : L ≤ 3072) (hN : N ≤ 700000) (h : Inv N I J) (nx : ∀ (I : kI) (J : kJ), Inv (N + 200) I J → lw_R xs L 1376 q I J) : lw_R xs L 942 q I J := by
  obtain ⟨v, I1, J1, I2, J2, c1, c2, h2⟩ := mm_log h (xs ((nI q + 1).toNatClampNeg)) (xs ((nI q + 2).toNatClampNeg))
  have v1 : vp_in (nI q + 1) L := lw_vp (k := 1) hq hL (by omega)
  have v2 : vp_in (nI q + 2) L := lw_vp (k := 2) hq hL (by omega)
  refine kx_start [1376] 80 ?_
  refine ⟨v1, ?_⟩
  refine ⟨v2, ?_⟩
  refine ⟨some (kx_i v), (I1, J1, none), c1, rfl, ?_⟩
  refine ⟨v1, ?_⟩
  refine ⟨v2, ?_⟩
  refine ⟨some (kx_i v), (I2, J2, none), c2, rfl, ?_⟩
  exact ⟨fun _ => nx I2 J2 h2, fun z => absurd rfl z⟩
set_option maxRecDepth 100000 in
set_option maxHeartbeats 2000000 in
theorem lq_logged {xs : Nat → Int32} {L q N : Nat} {I : kI} {J : kJ} (hq : q + 6 ≤ L) (hL : L ≤ 3072) (hN : N ≤ 700000) (h : Inv N I J) (nx : ∀ (I : kI) (J : kJ), Inv (N + 200) I J → lw_R xs L 1376 q I J) : lw_R xs L 975 q I J := by
  obtain ⟨v, I1, J1, I2, J2, c1, c2, h2⟩ := mm_logged h (xs ((nI q + 1).toNatClampNeg))
  have v1 : vp_in (nI q + 1) L := lw_vp (k := 1) hq hL (by omega)
  refine kx_start [1376] 80 ?_
  refine ⟨v1, ?_⟩
  refine ⟨some (kx_i v), (I1, J1, none), c1, rfl, ?_⟩
  refine ⟨v1, ?_⟩
  refine ⟨some (kx_i v), (I2, J2, none), c2, rfl, ?_⟩
  exact ⟨fun _ => nx I2 J2 h2, fun z => absurd rfl z⟩
set_option maxRecDepth 100000 in
set_option maxHeartbeats 2000000 in
theorem lq_difference {xs : Nat → Int32} {L q N : Nat} {I : kI} {J : kJ} (hq : q + 6 ≤ L) (hL : L ≤ 3072) (hN : N ≤ 700000) (h : Inv N I J) (nx : ∀ (I : kI) (J : kJ), Inv (N + 200) I J → lw_R xs L 1376 q I J) : lw_R xs L 998 q I J := by
  obtain ⟨v, I1, J1, I2, J2, c1, c2, h2⟩ := mm_difference (by omega) h (xs ((nI q + 1).toNatClampNeg)) (xs ((nI q + 2).toNatClampNeg))
  have v1 : vp_in (nI q + 1) L := lw_vp (k := 1) hq hL (by omega)
  have v2 : vp_in (nI q + 2) L := lw_vp (k := 2) hq hL (by omega)
  refine kx_start [1376] 80 ?_
  refine ⟨v1, ?_⟩
  refine ⟨v2, ?_⟩
  refine ⟨some (kx_i v), (I1, J1, none), c1, rfl, ?_⟩
  refine ⟨v1, ?_⟩
  refine ⟨v2, ?_⟩
  refine ⟨some (kx_i v), (I2, J2, none), c2, rfl, ?_⟩
  exact ⟨fun _ => nx I2 J2 h2, fun z => absurd rfl z⟩
set_option maxRecDepth 100000 in
set_option maxHeartbeats 2000000 in
theorem lq_differences {xs : Nat → Int32} {L q N : Nat} {I : kI} {J : kJ} (hq : q + 6 ≤ L) (hL : L ≤ 3072) (hN : N ≤ 700000) (h : Inv N I J) (nx : ∀ (I : kI) (J : kJ), Inv (N + 200) I J → lw_R xs L 1376 q I J) : lw_R xs L 1031 q I J := by
  obtain ⟨v, I1, J1, I2, J2, c1, c2, h2⟩ := mm_differences (by omega) h (xs ((nI q + 1).toNatClampNeg))
  have v1 : vp_in (nI q + 1) L := lw_vp (k := 1) hq hL (by omega)
  refine kx_start [1376] 80 ?_
  refine ⟨v1, ?_⟩
  refine ⟨some (kx_i v), (I1, J1, none), c1, rfl, ?_⟩
  refine ⟨v1, ?_⟩
  refine ⟨some (kx_i v), (I2, J2, none), c2, rfl, ?_⟩
  exact ⟨fun _ => nx I2 J2 h2, fun z => absurd rfl z⟩
set_option maxRecDepth 100000 in
set_option maxHeartbeats 2000000 in
theorem lq_unlit {xs : Nat → Int32} {L q N : Nat} {I : kI} {J : kJ} (hq : q + 6 ≤ L) (hL : L ≤ 3072) (hN : N ≤ 700000) (h : Inv N I J) (nx : ∀ (I : kI) (J : kJ), Inv (N + 200) I J → lw_R xs L 1376 q I J) : lw_R xs L 1054 q I J := by
  obtain ⟨v, I1, J1, I2, J2, c1, c2, h2⟩ := mm_unlit h 
  refine kx_start [1376] 80 ?_
  refine ⟨some (kx_i v), (I1, J1, none), c1, rfl, ?_⟩
  refine ⟨some (kx_i v), (I2, J2, none), c2, rfl, ?_⟩
  exact ⟨fun _ => nx I2 J2 h2, fun z => absurd rfl z⟩
set_option maxRecDepth 100000 in
set_option maxHeartbeats 2000000 in
theorem lq_would {xs : Nat → Int32} {L q N : Nat} {I : kI} {J : kJ} (hq : q + 6 ≤ L) (hL : L ≤ 3072) (hN : N ≤ 700000) (h : Inv N I J) (nx : ∀ (I : kI) (J : kJ), Inv (N + 200) I J → lw_R xs L 1376 q I J) : lw_R xs L 1067 q I J := by
  obtain ⟨v, I1, J1, I2, J2, c1, c2, h2⟩ := mm_would (by omega) h (xs ((nI q + 1).toNatClampNeg)) (xs ((nI q + 2).toNatClampNeg))
  have v1 : vp_in (nI q + 1) L := lw_vp (k := 1) hq hL (by omega)
  have v2 : vp_in (nI q + 2) L := lw_vp (k := 2) hq hL (by omega)
  refine kx_start [1376] 80 ?_
  refine ⟨v1, ?_⟩
  refine ⟨v2, ?_⟩
  refine ⟨some (kx_i v), (I1, J1, none), c1, rfl, ?_⟩
  refine ⟨v1, ?_⟩
  refine ⟨v2, ?_⟩
  refine ⟨some (kx_i v), (I2, J2, none), c2, rfl, ?_⟩
  exact ⟨fun _ => nx I2 J2 h2, fun z => absurd rfl z⟩
set_option maxRecDepth 100000 in
set_option maxHeartbeats 2000000 in
theorem lq_fails {xs : Nat → Int32} {L q N : Nat} {I : kI} {J : kJ} (hq : q + 6 ≤ L) (hL : L ≤ 3072) (hN : N ≤ 700000) (h : Inv N I J) (nx : ∀ (I : kI) (J : kJ), Inv (N + 200) I J → lw_R xs L 1376 q I J) : lw_R xs L 1100 q I J := by
  obtain ⟨v, I1, J1, I2, J2, c1, c2, h2⟩ := mm_fails (by omega) h 
  refine kx_start [1376] 80 ?_
  refine ⟨some (kx_i v), (I1, J1, none), c1, rfl, ?_⟩
  refine ⟨some (kx_i v), (I2, J2, none), c2, rfl, ?_⟩
  exact ⟨fun _ => nx I2 J2 h2, fun z => absurd rfl z⟩
set_option maxRecDepth 100000 in
set_option maxHeartbeats 2000000 in
theorem lq_comes {xs : Nat → Int32} {L q N : Nat} {I : kI} {J : kJ} (hq : q + 6 ≤ L) (hL : L ≤ 3072) (hN : N ≤ 700000) (h : Inv N I J) (nx : ∀ (I : kI) (J : kJ), Inv (N + 200) I J → lw_R xs L 1376 q I J) : lw_R xs L 1113 q I J := by
  obtain ⟨v, I1, J1, I2, J2, c1, c2, h2⟩ := mm_comes (by omega) h 
  refine kx_start [1376] 80 ?_
  refine ⟨some (kx_i v), (I1, J1, none), c1, rfl, ?_⟩
  refine ⟨some (kx_i v), (I2, J2, none), c2, rfl, ?_⟩
  exact ⟨fun _ => nx I2 J2 h2, fun z => absurd rfl z⟩
set_option maxRecDepth 100000 in
set_option maxHeartbeats 2000000 in
theorem lq_oil {xs : Nat → Int32} {L q N : Nat} {I : kI} {J : kJ} (hq : q + 6 ≤ L) (hL : L ≤ 3072) (hN : N ≤ 700000) (h : Inv N I J) (nx : ∀ (I : kI) (J : kJ), Inv (N + 200) I J → lw_R xs L 1376 q I J) : lw_R xs L 1126 q I J := by
  obtain ⟨v, I1, J1, I2, J2, c1, c2, h2⟩ := mm_oil (by omega) h (xs ((nI q + 1).toNatClampNeg))
  have v1 : vp_in (nI q + 1) L := lw_vp (k := 1) hq hL (by omega)
  refine kx_start [1376] 80 ?_
  refine ⟨v1, ?_⟩
  refine ⟨some (kx_i v), (I1, J1, none), c1, rfl, ?_⟩
  refine ⟨v1, ?_⟩
  refine ⟨some (kx_i v), (I2, J2, none), c2, rfl, ?_⟩
  exact ⟨fun _ => nx I2 J2 h2, fun z => absurd rfl z⟩
set_option maxRecDepth 100000 in
set_option maxHeartbeats 2000000 in
theorem lq_better {xs : Nat → Int32} {L q N : Nat} {I : kI} {J : kJ} (hq : q + 6 ≤ L) (hL : L ≤ 3072) (hN : N ≤ 700000) (h : Inv N I J) (nx : ∀ (I : kI) (J : kJ), Inv (N + 200) I J → lw_R xs L 1376 q I J) : lw_R xs L 1149 q I J := by
  obtain ⟨v, I1, J1, I2, J2, c1, c2, h2⟩ := mm_better (by omega) h (xs ((nI q + 1).toNatClampNeg)) (xs ((nI q + 2).toNatClampNeg))
  have v1 : vp_in (nI q + 1) L := lw_vp (k := 1) hq hL (by omega)
  have v2 : vp_in (nI q + 2) L := lw_vp (k := 2) hq hL (by omega)
  refine kx_start [1376] 80 ?_
  refine ⟨v1, ?_⟩
  refine ⟨v2, ?_⟩
  refine ⟨some (kx_i v), (I1, J1, none), c1, rfl, ?_⟩
  refine ⟨v1, ?_⟩
  refine ⟨v2, ?_⟩
  refine ⟨some (kx_i v), (I2, J2, none), c2, rfl, ?_⟩
  exact ⟨fun _ => nx I2 J2 h2, fun z => absurd rfl z⟩
set_option maxRecDepth 100000 in
set_option maxHeartbeats 2000000 in
theorem lq_other {xs : Nat → Int32} {L q N : Nat} {I : kI} {J : kJ} (hq : q + 6 ≤ L) (hL : L ≤ 3072) (hN : N ≤ 700000) (h : Inv N I J) (nx : ∀ (I : kI) (J : kJ), Inv (N + 200) I J → lw_R xs L 1376 q I J) : lw_R xs L 1182 q I J := by
  obtain ⟨v, I1, J1, I2, J2, c1, c2, h2⟩ := mm_other (by omega) h (xs ((nI q + 1).toNatClampNeg)) (xs ((nI q + 2).toNatClampNeg))
  have v1 : vp_in (nI q + 1) L := lw_vp (k := 1) hq hL (by omega)
  have v2 : vp_in (nI q + 2) L := lw_vp (k := 2) hq hL (by omega)
  refine kx_start [1376] 80 ?_
  refine ⟨v1, ?_⟩
  refine ⟨v2, ?_⟩
  refine ⟨some (kx_i v), (I1, J1, none), c1, rfl, ?_⟩
  refine ⟨v1, ?_⟩
  refine ⟨v2, ?_⟩
  refine ⟨some (kx_i v), (I2, J2, none), c2, rfl, ?_⟩
  exact ⟨fun _ => nx I2 J2 h2, fun z => absurd rfl z⟩
set_option maxRecDepth 100000 in
set_option maxHeartbeats 2000000 in
theorem lq_idle {xs : Nat → Int32} {L q N : Nat} {I : kI} {J : kJ} (hq : q + 6 ≤ L) (hL : L ≤ 3072) (hN : N ≤ 700000) (h : Inv N I J) (nx : ∀ (I : kI) (J : kJ), Inv (N + 200) I J → lw_R xs L 1376 q I J) : lw_R xs L 1215 q I J := by
  obtain ⟨v, I1, J1, I2, J2, c1, c2, h2⟩ := mm_idle (by omega) h (xs ((nI q + 1).toNatClampNeg))
  have v1 : vp_in (nI q + 1) L := lw_vp (k := 1) hq hL (by omega)
  refine kx_start [1376] 80 ?_
  refine ⟨v1, ?_⟩
  refine ⟨some (kx_i v), (I1, J1, none), c1, rfl, ?_⟩
  refine ⟨v1, ?_⟩
  refine ⟨some (kx_i v), (I2, J2, none), c2, rfl, ?_⟩
  exact ⟨fun _ => nx I2 J2 h2, fun z => absurd rfl z⟩
set_option maxRecDepth 100000 in
set_option maxHeartbeats 2000000 in
theorem lq_judge {xs : Nat → Int32} {L q N : Nat} {I : kI} {J : kJ} (hq : q + 6 ≤ L) (hL : L ≤ 3072) (hN : N ≤ 700000) (h : Inv N I J) (nx : ∀ (I : kI) (J : kJ), Inv (N + 200) I J → lw_R xs L 1376 q I J) : lw_R xs L 1238 q I J := by
  obtain ⟨v, I1, J1, I2, J2, c1, c2, h2⟩ := mm_judge h (xs ((nI q + 1).toNatClampNeg)) (xs ((nI q + 2).toNatClampNeg)) (xs ((nI q + 3).toNatClampNeg))
  have v1 : vp_in (nI q + 1) L := lw_vp (k := 1) hq hL (by omega)
  have v2 : vp_in (nI q + 2) L := lw_vp (k := 2) hq hL (by omega)
  have v3 : vp_in (nI q + 3) L := lw_vp (k := 3) hq hL (by omega)
  refine kx_start [1376] 80 ?_
  refine ⟨v1, ?_⟩
  refine ⟨v2, ?_⟩
  refine ⟨v3, ?_⟩
  refine ⟨some (kx_i v), (I1, J1, none), c1, rfl, ?_⟩
  refine ⟨v1, ?_⟩
  refine ⟨v2, ?_⟩
  refine ⟨v3, ?_⟩
  refine ⟨some (kx_i v), (I2, J2, none), c2, rfl, ?_⟩
  exact ⟨fun _ => nx I2 J2 h2, fun z => absurd rfl z⟩
set_option maxRecDepth 100000 in
set_option maxHeartbeats 2000000 in
theorem lq_days {xs : Nat → Int32} {L q N : Nat} {I : kI} {J : kJ} (hq : q + 6 ≤ L) (hL : L ≤ 3072) (hN : N ≤ 700000) (h : Inv N I J) (nx : ∀ (I : kI) (J : kJ), Inv (N + 200) I J → lw_R xs L 1376 q I J) : lw_R xs L 1281 q I J := by
  obtain ⟨v, I1, J1, I2, J2, c1, c2, h2⟩ := mm_days (by omega) h (xs ((nI q + 1).toNatClampNeg))
  have v1 : vp_in (nI q + 1) L := lw_vp (k := 1) hq hL (by omega)
  refine kx_start [1376] 80 ?_
  refine ⟨v1, ?_⟩
  refine ⟨some (kx_i v), (I1, J1, none), c1, rfl, ?_⟩
  refine ⟨v1, ?_⟩
  refine ⟨some (kx_i v), (I2, J2, none), c2, rfl, ?_⟩
  exact ⟨fun _ => nx I2 J2 h2, fun z => absurd rfl z⟩
set_option maxRecDepth 100000 in
set_option maxHeartbeats 2000000 in
theorem lq_seed {xs : Nat → Int32} {L q N : Nat} {I : kI} {J : kJ} (hq : q + 6 ≤ L) (hL : L ≤ 3072) (hN : N ≤ 700000) (h : Inv N I J) (nx : ∀ (I : kI) (J : kJ), Inv (N + 200) I J → lw_R xs L 1376 q I J) : lw_R xs L 1304 q I J := by
  obtain ⟨v, I1, J1, I2, J2, c1, c2, h2⟩ := mm_seed h (xs ((nI q + 1).toNatClampNeg))
  have v1 : vp_in (nI q + 1) L := lw_vp (k := 1) hq hL (by omega)
  refine kx_start [1376] 80 ?_
  refine ⟨v1, ?_⟩
  refine ⟨some (kx_i v), (I1, J1, none), c1, rfl, ?_⟩
  refine ⟨v1, ?_⟩
  refine ⟨some (kx_i v), (I2, J2, none), c2, rfl, ?_⟩
  exact ⟨fun _ => nx I2 J2 h2, fun z => absurd rfl z⟩
set_option maxRecDepth 100000 in
set_option maxHeartbeats 2000000 in
theorem lq_image {xs : Nat → Int32} {L q N : Nat} {I : kI} {J : kJ} (hq : q + 6 ≤ L) (hL : L ≤ 3072) (hN : N ≤ 700000) (h : Inv N I J) (nx : ∀ (I : kI) (J : kJ), Inv (N + 200) I J → lw_R xs L 1376 q I J) : lw_R xs L 1327 q I J := by
  obtain ⟨v, I1, J1, I2, J2, c1, c2, h2⟩ := mm_image h 
  refine kx_start [1376] 80 ?_
  refine ⟨some (kx_i v), (I1, J1, none), c1, rfl, ?_⟩
  refine ⟨some (kx_i v), (I2, J2, none), c2, rfl, ?_⟩
  exact ⟨fun _ => nx I2 J2 h2, fun z => absurd rfl z⟩
set_option maxRecDepth 100000 in
set_option maxHeartbeats 2000000 in
theorem lq_back {xs : Nat → Int32} {L q N : Nat} {I : kI} {J : kJ} (hq : q + 6 ≤ L) (hL : L ≤ 3072) (hN : N ≤ 700000) (h : Inv N I J) (nx : ∀ (I : kI) (J : kJ), Inv (N + 200) I J → lw_R xs L 1376 q I J) : lw_R xs L 1340 q I J := by
  obtain ⟨v, I1, J1, I2, J2, c1, c2, h2⟩ := mm_back h 
  refine kx_start [1376] 80 ?_
  refine ⟨some (kx_i v), (I1, J1, none), c1, rfl, ?_⟩
  refine ⟨some (kx_i v), (I2, J2, none), c2, rfl, ?_⟩
  exact ⟨fun _ => nx I2 J2 h2, fun z => absurd rfl z⟩
set_option maxRecDepth 100000 in
set_option maxHeartbeats 2000000 in
theorem lq_status {xs : Nat → Int32} {L q N : Nat} {I : kI} {J : kJ} (hq : q + 6 ≤ L) (hL : L ≤ 3072) (hN : N ≤ 700000) (h : Inv N I J) (nx : ∀ (I : kI) (J : kJ), Inv (N + 200) I J → lw_R xs L 1376 q I J) : lw_R xs L 1353 q I J := by
  obtain ⟨v, I1, J1, I2, J2, c1, c2, h2⟩ := mm_status h (xs ((nI q + 1).toNatClampNeg))
  have v1 : vp_in (nI q + 1) L := lw_vp (k := 1) hq hL (by omega)
  refine kx_start [1376] 80 ?_
  refine ⟨v1, ?_⟩
  refine ⟨some (kx_i v), (I1, J1, none), c1, rfl, ?_⟩
  refine ⟨v1, ?_⟩
  refine ⟨some (kx_i v), (I2, J2, none), c2, rfl, ?_⟩
  exact ⟨fun _ => nx I2 J2 h2, fun z => absurd rfl z⟩

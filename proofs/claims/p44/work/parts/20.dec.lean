noncomputable def F_X0_isDueAt (o : Nat) (a0 : Int32) (I : kI) (J : kJ) : Int32 := (kif ((I 0 o 0) = (-1 : Int32)) (0 : Int32) (kif (a0 < (I 0 o 0)) (0 : Int32) (1 : Int32)))
set_option maxRecDepth 100000 in
set_option maxHeartbeats 2000000 in
theorem cs_X0_isDueAt (o : Nat) (a0 : Int32) (I : kI) (J : kJ) : sp_X0_isDueAt [kx_r 0 o, kx_i a0] (I, J, none) (some (kx_i (F_X0_isDueAt o a0 I J))) (I, J, none) := by
  refine kx_start [] 14 ?_
  refine ⟨fun h1 => ?_, fun h1 => ?_⟩
  · replace h1 : (I 0 o 0) = (-1 : Int32) := h1
    have e9 : F_X0_isDueAt o a0 I J = (0 : Int32) := by unfold F_X0_isDueAt; rw [kif_pos h1]
    rw [e9]; exact ⟨(by decide), rfl, rfl⟩
  · replace h1 : ¬ (I 0 o 0) = (-1 : Int32) := h1
    refine ⟨fun h2 => ?_, fun h2 => ?_⟩
    · replace h2 : a0 < (I 0 o 0) := h2
      have e9 : F_X0_isDueAt o a0 I J = (0 : Int32) := by unfold F_X0_isDueAt; rw [kif_neg h1, kif_pos h2]
      rw [e9]; exact ⟨(by decide), rfl, rfl⟩
    · replace h2 : ¬ a0 < (I 0 o 0) := h2
      have e9 : F_X0_isDueAt o a0 I J = (1 : Int32) := by unfold F_X0_isDueAt; rw [kif_neg h1, kif_neg h2]
      rw [e9]; exact ⟨(by decide), rfl, rfl⟩
noncomputable def F_X0_become (o : Nat) (o0 : Nat) (I : kI) (J : kJ) : kI × kJ := ((kw (kw (kw (kw (kw I 0 o 0 (I 0 o0 0)) 0 o 1 ((kw I 0 o 0 (I 0 o0 0)) 0 o0 1)) 0 o 2 ((kw (kw I 0 o 0 (I 0 o0 0)) 0 o 1 ((kw I 0 o 0 (I 0 o0 0)) 0 o0 1)) 0 o0 2)) 0 o 3 ((kw (kw (kw I 0 o 0 (I 0 o0 0)) 0 o 1 ((kw I 0 o 0 (I 0 o0 0)) 0 o0 1)) 0 o 2 ((kw (kw I 0 o 0 (I 0 o0 0)) 0 o 1 ((kw I 0 o 0 (I 0 o0 0)) 0 o0 1)) 0 o0 2)) 0 o0 3)) 0 o 4 ((kw (kw (kw (kw I 0 o 0 (I 0 o0 0)) 0 o 1 ((kw I 0 o 0 (I 0 o0 0)) 0 o0 1)) 0 o 2 ((kw (kw I 0 o 0 (I 0 o0 0)) 0 o 1 ((kw I 0 o 0 (I 0 o0 0)) 0 o0 1)) 0 o0 2)) 0 o 3 ((kw (kw (kw I 0 o 0 (I 0 o0 0)) 0 o 1 ((kw I 0 o 0 (I 0 o0 0)) 0 o0 1)) 0 o 2 ((kw (kw I 0 o 0 (I 0 o0 0)) 0 o 1 ((kw I 0 o 0 (I 0 o0 0)) 0 o0 1)) 0 o0 2)) 0 o0 3)) 0 o0 4)), J)
set_option maxRecDepth 100000 in
set_option maxHeartbeats 2000000 in
theorem cs_X0_become (o : Nat) (o0 : Nat) (I : kI) (J : kJ) : sp_X0_become [kx_r 0 o, kx_r 0 o0] (I, J, none) (none) ((F_X0_become o o0 I J).1, (F_X0_become o o0 I J).2, none) := by
  refine kx_start [] 23 ?_
  have e9 : F_X0_become o o0 I J = ((kw (kw (kw (kw (kw I 0 o 0 (I 0 o0 0)) 0 o 1 ((kw I 0 o 0 (I 0 o0 0)) 0 o0 1)) 0 o 2 ((kw (kw I 0 o 0 (I 0 o0 0)) 0 o 1 ((kw I 0 o 0 (I 0 o0 0)) 0 o0 1)) 0 o0 2)) 0 o 3 ((kw (kw (kw I 0 o 0 (I 0 o0 0)) 0 o 1 ((kw I 0 o 0 (I 0 o0 0)) 0 o0 1)) 0 o 2 ((kw (kw I 0 o 0 (I 0 o0 0)) 0 o 1 ((kw I 0 o 0 (I 0 o0 0)) 0 o0 1)) 0 o0 2)) 0 o0 3)) 0 o 4 ((kw (kw (kw (kw I 0 o 0 (I 0 o0 0)) 0 o 1 ((kw I 0 o 0 (I 0 o0 0)) 0 o0 1)) 0 o 2 ((kw (kw I 0 o 0 (I 0 o0 0)) 0 o 1 ((kw I 0 o 0 (I 0 o0 0)) 0 o0 1)) 0 o0 2)) 0 o 3 ((kw (kw (kw I 0 o 0 (I 0 o0 0)) 0 o 1 ((kw I 0 o 0 (I 0 o0 0)) 0 o0 1)) 0 o 2 ((kw (kw I 0 o 0 (I 0 o0 0)) 0 o 1 ((kw I 0 o 0 (I 0 o0 0)) 0 o0 1)) 0 o0 2)) 0 o0 3)) 0 o0 4)), J) := by unfold F_X0_become; rfl
  rw [e9]; exact ⟨rfl, rfl⟩
noncomputable def F_X1_has (o : Nat) (a0 : Int32) (I : kI) (J : kJ) : Int32 := (kif (a0 < 0) (0 : Int32) (kif ((I 1 o 5) ≤ a0) (0 : Int32) (1 : Int32)))
set_option maxRecDepth 100000 in
set_option maxHeartbeats 2000000 in
theorem cs_X1_has (o : Nat) (a0 : Int32) (I : kI) (J : kJ) : sp_X1_has [kx_r 1 o, kx_i a0] (I, J, none) (some (kx_i (F_X1_has o a0 I J))) (I, J, none) := by
  refine kx_start [] 12 ?_
  refine ⟨fun h1 => ?_, fun h1 => ?_⟩
  · replace h1 : a0 < 0 := h1
    have e9 : F_X1_has o a0 I J = (0 : Int32) := by unfold F_X1_has; rw [kif_pos h1]
    rw [e9]; exact ⟨(by decide), rfl, rfl⟩
  · replace h1 : ¬ a0 < 0 := h1
    refine ⟨fun h2 => ?_, fun h2 => ?_⟩
    · replace h2 : (I 1 o 5) ≤ a0 := h2
      have e9 : F_X1_has o a0 I J = (0 : Int32) := by unfold F_X1_has; rw [kif_neg h1, kif_pos h2]
      rw [e9]; exact ⟨(by decide), rfl, rfl⟩
    · replace h2 : ¬ (I 1 o 5) ≤ a0 := h2
      have e9 : F_X1_has o a0 I J = (1 : Int32) := by unfold F_X1_has; rw [kif_neg h1, kif_neg h2]
      rw [e9]; exact ⟨(by decide), rfl, rfl⟩
noncomputable def F_X1_isFull (o : Nat) (I : kI) (J : kJ) : Int32 := (kif ((I 1 o 5) < (6 : Int32)) (0 : Int32) (1 : Int32))
set_option maxRecDepth 100000 in
set_option maxHeartbeats 2000000 in
theorem cs_X1_isFull (o : Nat) (I : kI) (J : kJ) : sp_X1_isFull [kx_r 1 o] (I, J, none) (some (kx_i (F_X1_isFull o I J))) (I, J, none) := by
  refine kx_start [] 10 ?_
  refine ⟨fun h1 => ?_, fun h1 => ?_⟩
  · replace h1 : (I 1 o 5) < (6 : Int32) := h1
    have e9 : F_X1_isFull o I J = (0 : Int32) := by unfold F_X1_isFull; rw [kif_pos h1]
    rw [e9]; exact ⟨(by decide), rfl, rfl⟩
  · replace h1 : ¬ (I 1 o 5) < (6 : Int32) := h1
    have e9 : F_X1_isFull o I J = (1 : Int32) := by unfold F_X1_isFull; rw [kif_neg h1]
    rw [e9]; exact ⟨(by decide), rfl, rfl⟩
noncomputable def F_X1_lastsIn (a0 : Int32) (I : kI) (J : kJ) : Int32 := (kif (a0 = (0)) (12 : Int32) (kif (a0 = (2)) (6 : Int32) (9 : Int32)))
set_option maxRecDepth 100000 in
set_option maxHeartbeats 2000000 in
theorem cs_X1_lastsIn (a0 : Int32) (I : kI) (J : kJ) : sp_X1_lastsIn [kx_i a0] (I, J, none) (some (kx_i (F_X1_lastsIn a0 I J))) (I, J, none) := by
  refine kx_start [] 10 ?_
  refine ⟨fun h1 => ?_, fun h1 => ?_⟩
  · replace h1 : a0 = (0) := h1
    have e9 : F_X1_lastsIn a0 I J = (12 : Int32) := by unfold F_X1_lastsIn; rw [kif_pos h1]
    rw [e9]; exact ⟨rfl, rfl⟩
  · replace h1 : ¬ a0 = (0) := h1
    refine ⟨fun h2 => ?_, fun h2 => ?_⟩
    · replace h2 : a0 = (2) := h2
      have e9 : F_X1_lastsIn a0 I J = (6 : Int32) := by unfold F_X1_lastsIn; rw [kif_neg h1, kif_pos h2]
      rw [e9]; exact ⟨rfl, rfl⟩
    · replace h2 : ¬ a0 = (2) := h2
      have e9 : F_X1_lastsIn a0 I J = (9 : Int32) := by unfold F_X1_lastsIn; rw [kif_neg h1, kif_neg h2]
      rw [e9]; exact ⟨rfl, rfl⟩
noncomputable def F_X1_rankOf (o : Nat) (a0 : Int32) (I : kI) (J : kJ) : Int32 := (kif ((F_X1_has o a0 I J) = 0) (-1 : Int32) (I 20 o (a0).toNatClampNeg))
def pre_X1_rankOf (o : Nat) (a0 : Int32) (I : kI) (J : kJ) : Prop := (kif ((F_X1_has o a0 I J) = 0) True (vp_in a0 6 ∧ True))
set_option maxRecDepth 100000 in
set_option maxHeartbeats 2000000 in
theorem cs_X1_rankOf (o : Nat) (a0 : Int32) (I : kI) (J : kJ) (hp : pre_X1_rankOf o a0 I J) : sp_X1_rankOf [kx_r 1 o, kx_i a0] (I, J, none) (some (kx_i (F_X1_rankOf o a0 I J))) (I, J, none) := by
  refine kx_start [] 13 ?_
  unfold pre_X1_rankOf at hp
  refine ⟨_, _, cs_X1_has o a0 I J, rfl, ?_⟩
  refine ⟨fun h1 => ?_, fun h1 => ?_⟩
  · replace h1 : (F_X1_has o a0 I J) = 0 := h1
    rw [kif_pos h1] at hp
    have e9 : F_X1_rankOf o a0 I J = (-1 : Int32) := by unfold F_X1_rankOf; rw [kif_pos h1]
    rw [e9]; exact ⟨rfl, rfl⟩
  · replace h1 : ¬ (F_X1_has o a0 I J) = 0 := h1
    rw [kif_neg h1] at hp
    obtain ⟨hq, hp⟩ := hp
    refine ⟨hq, ?_⟩
    have e9 : F_X1_rankOf o a0 I J = (I 20 o (a0).toNatClampNeg) := by unfold F_X1_rankOf; rw [kif_neg h1]
    rw [e9]; exact ⟨rfl, rfl⟩
noncomputable def F_X1_tiredOf (o : Nat) (a0 : Int32) (I : kI) (J : kJ) : Int32 := (kif ((F_X1_has o a0 I J) = 0) (0 : Int32) (I 22 o (a0).toNatClampNeg))
def pre_X1_tiredOf (o : Nat) (a0 : Int32) (I : kI) (J : kJ) : Prop := (kif ((F_X1_has o a0 I J) = 0) True (vp_in a0 6 ∧ True))
def sp_X1_tiredOf : kx_Sp := fun av0 S0 r0 S1 => ∃ (o : Nat) (a0 : Int32) (I : kI) (J : kJ) (hp : pre_X1_tiredOf o a0 I J), av0 = [kx_r 1 o, kx_i a0] ∧ S0 = (I, J, none) ∧ r0 = (some (kx_i (F_X1_tiredOf o a0 I J))) ∧ S1 = (I, J, none)
theorem cs_X1_tiredOf (o : Nat) (a0 : Int32) (I : kI) (J : kJ) (hp : pre_X1_tiredOf o a0 I J) : sp_X1_tiredOf [kx_r 1 o, kx_i a0] (I, J, none) (some (kx_i (F_X1_tiredOf o a0 I J))) (I, J, none) := ⟨o, a0, I, J, hp, rfl, rfl, rfl, rfl⟩
noncomputable def F_X1_tendedBy (o : Nat) (a0 : Int32) (I : kI) (J : kJ) : Int32 := (kif ((F_X1_has o a0 I J) = 0) (0 : Int32) (I 23 o (a0).toNatClampNeg))
def pre_X1_tendedBy (o : Nat) (a0 : Int32) (I : kI) (J : kJ) : Prop := (kif ((F_X1_has o a0 I J) = 0) True (vp_in a0 6 ∧ True))
def sp_X1_tendedBy : kx_Sp := fun av0 S0 r0 S1 => ∃ (o : Nat) (a0 : Int32) (I : kI) (J : kJ) (hp : pre_X1_tendedBy o a0 I J), av0 = [kx_r 1 o, kx_i a0] ∧ S0 = (I, J, none) ∧ r0 = (some (kx_i (F_X1_tendedBy o a0 I J))) ∧ S1 = (I, J, none)
theorem cs_X1_tendedBy (o : Nat) (a0 : Int32) (I : kI) (J : kJ) (hp : pre_X1_tendedBy o a0 I J) : sp_X1_tendedBy [kx_r 1 o, kx_i a0] (I, J, none) (some (kx_i (F_X1_tendedBy o a0 I J))) (I, J, none) := ⟨o, a0, I, J, hp, rfl, rfl, rfl, rfl⟩
noncomputable def F_X1_sleptBy (o : Nat) (a0 : Int32) (I : kI) (J : kJ) : Int32 := (kif ((F_X1_has o a0 I J) = 0) (0 : Int32) (I 24 o (a0).toNatClampNeg))
def pre_X1_sleptBy (o : Nat) (a0 : Int32) (I : kI) (J : kJ) : Prop := (kif ((F_X1_has o a0 I J) = 0) True (vp_in a0 6 ∧ True))
def sp_X1_sleptBy : kx_Sp := fun av0 S0 r0 S1 => ∃ (o : Nat) (a0 : Int32) (I : kI) (J : kJ) (hp : pre_X1_sleptBy o a0 I J), av0 = [kx_r 1 o, kx_i a0] ∧ S0 = (I, J, none) ∧ r0 = (some (kx_i (F_X1_sleptBy o a0 I J))) ∧ S1 = (I, J, none)
theorem cs_X1_sleptBy (o : Nat) (a0 : Int32) (I : kI) (J : kJ) (hp : pre_X1_sleptBy o a0 I J) : sp_X1_sleptBy [kx_r 1 o, kx_i a0] (I, J, none) (some (kx_i (F_X1_sleptBy o a0 I J))) (I, J, none) := ⟨o, a0, I, J, hp, rfl, rfl, rfl, rfl⟩
noncomputable def F_X1_lastsOf (o : Nat) (a0 : Int32) (I : kI) (J : kJ) : Int32 := (kif ((F_X1_has o a0 I J) = 0) (0 : Int32) (I 21 o (a0).toNatClampNeg))
def pre_X1_lastsOf (o : Nat) (a0 : Int32) (I : kI) (J : kJ) : Prop := (kif ((F_X1_has o a0 I J) = 0) True (vp_in a0 6 ∧ True))
def sp_X1_lastsOf : kx_Sp := fun av0 S0 r0 S1 => ∃ (o : Nat) (a0 : Int32) (I : kI) (J : kJ) (hp : pre_X1_lastsOf o a0 I J), av0 = [kx_r 1 o, kx_i a0] ∧ S0 = (I, J, none) ∧ r0 = (some (kx_i (F_X1_lastsOf o a0 I J))) ∧ S1 = (I, J, none)
theorem cs_X1_lastsOf (o : Nat) (a0 : Int32) (I : kI) (J : kJ) (hp : pre_X1_lastsOf o a0 I J) : sp_X1_lastsOf [kx_r 1 o, kx_i a0] (I, J, none) (some (kx_i (F_X1_lastsOf o a0 I J))) (I, J, none) := ⟨o, a0, I, J, hp, rfl, rfl, rfl, rfl⟩
noncomputable def F_X1_isAwake (o : Nat) (a0 : Int32) (I : kI) (J : kJ) : Int32 := (kif ((F_X1_has o a0 I J) = 0) (0 : Int32) (kif ((I 21 o (a0).toNatClampNeg) ≤ (I 22 o (a0).toNatClampNeg)) (0 : Int32) (1 : Int32)))
def pre_X1_isAwake (o : Nat) (a0 : Int32) (I : kI) (J : kJ) : Prop := (kif ((F_X1_has o a0 I J) = 0) True (vp_in a0 6 ∧ (vp_in a0 6 ∧ True)))
set_option maxRecDepth 100000 in
set_option maxHeartbeats 2000000 in
theorem cs_X1_isAwake (o : Nat) (a0 : Int32) (I : kI) (J : kJ) (hp : pre_X1_isAwake o a0 I J) : sp_X1_isAwake [kx_r 1 o, kx_i a0] (I, J, none) (some (kx_i (F_X1_isAwake o a0 I J))) (I, J, none) := by
  refine kx_start [] 19 ?_
  unfold pre_X1_isAwake at hp
  refine ⟨_, _, cs_X1_has o a0 I J, rfl, ?_⟩
  refine ⟨fun h1 => ?_, fun h1 => ?_⟩
  · replace h1 : (F_X1_has o a0 I J) = 0 := h1
    rw [kif_pos h1] at hp
    have e9 : F_X1_isAwake o a0 I J = (0 : Int32) := by unfold F_X1_isAwake; rw [kif_pos h1]
    rw [e9]; exact ⟨(by decide), rfl, rfl⟩
  · replace h1 : ¬ (F_X1_has o a0 I J) = 0 := h1
    rw [kif_neg h1] at hp
    obtain ⟨hq, hp⟩ := hp
    refine ⟨hq, ?_⟩
    obtain ⟨hq, hp⟩ := hp
    refine ⟨hq, ?_⟩
    refine ⟨fun h2 => ?_, fun h2 => ?_⟩
    · replace h2 : (I 21 o (a0).toNatClampNeg) ≤ (I 22 o (a0).toNatClampNeg) := h2
      have e9 : F_X1_isAwake o a0 I J = (0 : Int32) := by unfold F_X1_isAwake; rw [kif_neg h1, kif_pos h2]
      rw [e9]; exact ⟨(by decide), rfl, rfl⟩
    · replace h2 : ¬ (I 21 o (a0).toNatClampNeg) ≤ (I 22 o (a0).toNatClampNeg) := h2
      have e9 : F_X1_isAwake o a0 I J = (1 : Int32) := by unfold F_X1_isAwake; rw [kif_neg h1, kif_neg h2]
      rw [e9]; exact ⟨(by decide), rfl, rfl⟩
noncomputable def F_X1_become (o : Nat) (o0 : Nat) (I : kI) (J : kJ) : kI × kJ := ((kw (kcI (kcI (kcI (kcI (kcI I 20 o0 20 o ((0 : Int32)).toNatClampNeg ((0 : Int32)).toNatClampNeg ((6 : Int32)).toNatClampNeg) 21 o0 21 o ((0 : Int32)).toNatClampNeg ((0 : Int32)).toNatClampNeg ((6 : Int32)).toNatClampNeg) 22 o0 22 o ((0 : Int32)).toNatClampNeg ((0 : Int32)).toNatClampNeg ((6 : Int32)).toNatClampNeg) 23 o0 23 o ((0 : Int32)).toNatClampNeg ((0 : Int32)).toNatClampNeg ((6 : Int32)).toNatClampNeg) 24 o0 24 o ((0 : Int32)).toNatClampNeg ((0 : Int32)).toNatClampNeg ((6 : Int32)).toNatClampNeg) 1 o 5 ((kcI (kcI (kcI (kcI (kcI I 20 o0 20 o ((0 : Int32)).toNatClampNeg ((0 : Int32)).toNatClampNeg ((6 : Int32)).toNatClampNeg) 21 o0 21 o ((0 : Int32)).toNatClampNeg ((0 : Int32)).toNatClampNeg ((6 : Int32)).toNatClampNeg) 22 o0 22 o ((0 : Int32)).toNatClampNeg ((0 : Int32)).toNatClampNeg ((6 : Int32)).toNatClampNeg) 23 o0 23 o ((0 : Int32)).toNatClampNeg ((0 : Int32)).toNatClampNeg ((6 : Int32)).toNatClampNeg) 24 o0 24 o ((0 : Int32)).toNatClampNeg ((0 : Int32)).toNatClampNeg ((6 : Int32)).toNatClampNeg) 1 o0 5)), J)
def pre_X1_become (o : Nat) (o0 : Nat) (I : kI) (J : kJ) : Prop := ((¬ (0 : Int32) < 0 ∧ ¬ (0 : Int32) < 0 ∧ ¬ (6 : Int32) < 0 ∧ ((0 : Int32)).toNatClampNeg + ((6 : Int32)).toNatClampNeg ≤ 6 ∧ ((0 : Int32)).toNatClampNeg + ((6 : Int32)).toNatClampNeg ≤ 6) ∧ ((¬ (0 : Int32) < 0 ∧ ¬ (0 : Int32) < 0 ∧ ¬ (6 : Int32) < 0 ∧ ((0 : Int32)).toNatClampNeg + ((6 : Int32)).toNatClampNeg ≤ 6 ∧ ((0 : Int32)).toNatClampNeg + ((6 : Int32)).toNatClampNeg ≤ 6) ∧ ((¬ (0 : Int32) < 0 ∧ ¬ (0 : Int32) < 0 ∧ ¬ (6 : Int32) < 0 ∧ ((0 : Int32)).toNatClampNeg + ((6 : Int32)).toNatClampNeg ≤ 6 ∧ ((0 : Int32)).toNatClampNeg + ((6 : Int32)).toNatClampNeg ≤ 6) ∧ ((¬ (0 : Int32) < 0 ∧ ¬ (0 : Int32) < 0 ∧ ¬ (6 : Int32) < 0 ∧ ((0 : Int32)).toNatClampNeg + ((6 : Int32)).toNatClampNeg ≤ 6 ∧ ((0 : Int32)).toNatClampNeg + ((6 : Int32)).toNatClampNeg ≤ 6) ∧ ((¬ (0 : Int32) < 0 ∧ ¬ (0 : Int32) < 0 ∧ ¬ (6 : Int32) < 0 ∧ ((0 : Int32)).toNatClampNeg + ((6 : Int32)).toNatClampNeg ≤ 6 ∧ ((0 : Int32)).toNatClampNeg + ((6 : Int32)).toNatClampNeg ≤ 6) ∧ True)))))
set_option maxRecDepth 100000 in
set_option maxHeartbeats 2000000 in
theorem cs_X1_become (o : Nat) (o0 : Nat) (I : kI) (J : kJ) (hp : pre_X1_become o o0 I J) : sp_X1_become [kx_r 1 o, kx_r 1 o0] (I, J, none) (none) ((F_X1_become o o0 I J).1, (F_X1_become o o0 I J).2, none) := by
  refine kx_start [] 47 ?_
  unfold pre_X1_become at hp
  obtain ⟨hq, hp⟩ := hp
  refine ⟨hq.1, hq.2.1, hq.2.2.1, hq.2.2.2.1, hq.2.2.2.2, ?_⟩
  obtain ⟨hq, hp⟩ := hp
  refine ⟨hq.1, hq.2.1, hq.2.2.1, hq.2.2.2.1, hq.2.2.2.2, ?_⟩
  obtain ⟨hq, hp⟩ := hp
  refine ⟨hq.1, hq.2.1, hq.2.2.1, hq.2.2.2.1, hq.2.2.2.2, ?_⟩
  obtain ⟨hq, hp⟩ := hp
  refine ⟨hq.1, hq.2.1, hq.2.2.1, hq.2.2.2.1, hq.2.2.2.2, ?_⟩
  obtain ⟨hq, hp⟩ := hp
  refine ⟨hq.1, hq.2.1, hq.2.2.1, hq.2.2.2.1, hq.2.2.2.2, ?_⟩
  have e9 : F_X1_become o o0 I J = ((kw (kcI (kcI (kcI (kcI (kcI I 20 o0 20 o ((0 : Int32)).toNatClampNeg ((0 : Int32)).toNatClampNeg ((6 : Int32)).toNatClampNeg) 21 o0 21 o ((0 : Int32)).toNatClampNeg ((0 : Int32)).toNatClampNeg ((6 : Int32)).toNatClampNeg) 22 o0 22 o ((0 : Int32)).toNatClampNeg ((0 : Int32)).toNatClampNeg ((6 : Int32)).toNatClampNeg) 23 o0 23 o ((0 : Int32)).toNatClampNeg ((0 : Int32)).toNatClampNeg ((6 : Int32)).toNatClampNeg) 24 o0 24 o ((0 : Int32)).toNatClampNeg ((0 : Int32)).toNatClampNeg ((6 : Int32)).toNatClampNeg) 1 o 5 ((kcI (kcI (kcI (kcI (kcI I 20 o0 20 o ((0 : Int32)).toNatClampNeg ((0 : Int32)).toNatClampNeg ((6 : Int32)).toNatClampNeg) 21 o0 21 o ((0 : Int32)).toNatClampNeg ((0 : Int32)).toNatClampNeg ((6 : Int32)).toNatClampNeg) 22 o0 22 o ((0 : Int32)).toNatClampNeg ((0 : Int32)).toNatClampNeg ((6 : Int32)).toNatClampNeg) 23 o0 23 o ((0 : Int32)).toNatClampNeg ((0 : Int32)).toNatClampNeg ((6 : Int32)).toNatClampNeg) 24 o0 24 o ((0 : Int32)).toNatClampNeg ((0 : Int32)).toNatClampNeg ((6 : Int32)).toNatClampNeg) 1 o0 5)), J) := by unfold F_X1_become; rfl
  rw [e9]; exact ⟨rfl, rfl⟩
noncomputable def F_X2_has (o : Nat) (a0 : Int32) (I : kI) (J : kJ) : Int32 := (kif (a0 < 0) (0 : Int32) (kif ((I 2 o 5) ≤ a0) (0 : Int32) (1 : Int32)))
set_option maxRecDepth 100000 in
set_option maxHeartbeats 2000000 in
theorem cs_X2_has (o : Nat) (a0 : Int32) (I : kI) (J : kJ) : sp_X2_has [kx_r 2 o, kx_i a0] (I, J, none) (some (kx_i (F_X2_has o a0 I J))) (I, J, none) := by
  refine kx_start [] 12 ?_
  refine ⟨fun h1 => ?_, fun h1 => ?_⟩
  · replace h1 : a0 < 0 := h1
    have e9 : F_X2_has o a0 I J = (0 : Int32) := by unfold F_X2_has; rw [kif_pos h1]
    rw [e9]; exact ⟨(by decide), rfl, rfl⟩
  · replace h1 : ¬ a0 < 0 := h1
    refine ⟨fun h2 => ?_, fun h2 => ?_⟩
    · replace h2 : (I 2 o 5) ≤ a0 := h2
      have e9 : F_X2_has o a0 I J = (0 : Int32) := by unfold F_X2_has; rw [kif_neg h1, kif_pos h2]
      rw [e9]; exact ⟨(by decide), rfl, rfl⟩
    · replace h2 : ¬ (I 2 o 5) ≤ a0 := h2
      have e9 : F_X2_has o a0 I J = (1 : Int32) := by unfold F_X2_has; rw [kif_neg h1, kif_neg h2]
      rw [e9]; exact ⟨(by decide), rfl, rfl⟩
noncomputable def F_X2_isFull (o : Nat) (I : kI) (J : kJ) : Int32 := (kif ((I 2 o 5) < (200 : Int32)) (0 : Int32) (1 : Int32))
set_option maxRecDepth 100000 in
set_option maxHeartbeats 2000000 in
theorem cs_X2_isFull (o : Nat) (I : kI) (J : kJ) : sp_X2_isFull [kx_r 2 o] (I, J, none) (some (kx_i (F_X2_isFull o I J))) (I, J, none) := by
  refine kx_start [] 10 ?_
  refine ⟨fun h1 => ?_, fun h1 => ?_⟩
  · replace h1 : (I 2 o 5) < (200 : Int32) := h1
    have e9 : F_X2_isFull o I J = (0 : Int32) := by unfold F_X2_isFull; rw [kif_pos h1]
    rw [e9]; exact ⟨(by decide), rfl, rfl⟩
  · replace h1 : ¬ (I 2 o 5) < (200 : Int32) := h1
    have e9 : F_X2_isFull o I J = (1 : Int32) := by unfold F_X2_isFull; rw [kif_neg h1]
    rw [e9]; exact ⟨(by decide), rfl, rfl⟩
noncomputable def F_X2_kindOf (o : Nat) (a0 : Int32) (I : kI) (J : kJ) : Int32 := (kif ((F_X2_has o a0 I J) = 0) (-1 : Int32) (I 25 o (a0).toNatClampNeg))
def pre_X2_kindOf (o : Nat) (a0 : Int32) (I : kI) (J : kJ) : Prop := (kif ((F_X2_has o a0 I J) = 0) True (vp_in a0 200 ∧ True))
set_option maxRecDepth 100000 in
set_option maxHeartbeats 2000000 in
theorem cs_X2_kindOf (o : Nat) (a0 : Int32) (I : kI) (J : kJ) (hp : pre_X2_kindOf o a0 I J) : sp_X2_kindOf [kx_r 2 o, kx_i a0] (I, J, none) (some (kx_i (F_X2_kindOf o a0 I J))) (I, J, none) := by
  refine kx_start [] 13 ?_
  unfold pre_X2_kindOf at hp
  refine ⟨_, _, cs_X2_has o a0 I J, rfl, ?_⟩
  refine ⟨fun h1 => ?_, fun h1 => ?_⟩
  · replace h1 : (F_X2_has o a0 I J) = 0 := h1
    rw [kif_pos h1] at hp
    have e9 : F_X2_kindOf o a0 I J = (-1 : Int32) := by unfold F_X2_kindOf; rw [kif_pos h1]
    rw [e9]; exact ⟨rfl, rfl⟩
  · replace h1 : ¬ (F_X2_has o a0 I J) = 0 := h1
    rw [kif_neg h1] at hp
    obtain ⟨hq, hp⟩ := hp
    refine ⟨hq, ?_⟩
    have e9 : F_X2_kindOf o a0 I J = (I 25 o (a0).toNatClampNeg) := by unfold F_X2_kindOf; rw [kif_neg h1]
    rw [e9]; exact ⟨rfl, rfl⟩
noncomputable def F_X2_hourOf (o : Nat) (a0 : Int32) (I : kI) (J : kJ) : Int32 := (kif ((F_X2_has o a0 I J) = 0) (-1 : Int32) (I 26 o (a0).toNatClampNeg))
def pre_X2_hourOf (o : Nat) (a0 : Int32) (I : kI) (J : kJ) : Prop := (kif ((F_X2_has o a0 I J) = 0) True (vp_in a0 200 ∧ True))
set_option maxRecDepth 100000 in
set_option maxHeartbeats 2000000 in
theorem cs_X2_hourOf (o : Nat) (a0 : Int32) (I : kI) (J : kJ) (hp : pre_X2_hourOf o a0 I J) : sp_X2_hourOf [kx_r 2 o, kx_i a0] (I, J, none) (some (kx_i (F_X2_hourOf o a0 I J))) (I, J, none) := by
  refine kx_start [] 13 ?_
  unfold pre_X2_hourOf at hp
  refine ⟨_, _, cs_X2_has o a0 I J, rfl, ?_⟩
  refine ⟨fun h1 => ?_, fun h1 => ?_⟩
  · replace h1 : (F_X2_has o a0 I J) = 0 := h1
    rw [kif_pos h1] at hp
    have e9 : F_X2_hourOf o a0 I J = (-1 : Int32) := by unfold F_X2_hourOf; rw [kif_pos h1]
    rw [e9]; exact ⟨rfl, rfl⟩
  · replace h1 : ¬ (F_X2_has o a0 I J) = 0 := h1
    rw [kif_neg h1] at hp
    obtain ⟨hq, hp⟩ := hp
    refine ⟨hq, ?_⟩
    have e9 : F_X2_hourOf o a0 I J = (I 26 o (a0).toNatClampNeg) := by unfold F_X2_hourOf; rw [kif_neg h1]
    rw [e9]; exact ⟨rfl, rfl⟩
noncomputable def F_X2_fateOf (o : Nat) (a0 : Int32) (I : kI) (J : kJ) : Int32 := (kif ((F_X2_has o a0 I J) = 0) (-1 : Int32) (I 27 o (a0).toNatClampNeg))
def pre_X2_fateOf (o : Nat) (a0 : Int32) (I : kI) (J : kJ) : Prop := (kif ((F_X2_has o a0 I J) = 0) True (vp_in a0 200 ∧ True))
set_option maxRecDepth 100000 in
set_option maxHeartbeats 2000000 in
theorem cs_X2_fateOf (o : Nat) (a0 : Int32) (I : kI) (J : kJ) (hp : pre_X2_fateOf o a0 I J) : sp_X2_fateOf [kx_r 2 o, kx_i a0] (I, J, none) (some (kx_i (F_X2_fateOf o a0 I J))) (I, J, none) := by
  refine kx_start [] 13 ?_
  unfold pre_X2_fateOf at hp
  refine ⟨_, _, cs_X2_has o a0 I J, rfl, ?_⟩
  refine ⟨fun h1 => ?_, fun h1 => ?_⟩
  · replace h1 : (F_X2_has o a0 I J) = 0 := h1
    rw [kif_pos h1] at hp
    have e9 : F_X2_fateOf o a0 I J = (-1 : Int32) := by unfold F_X2_fateOf; rw [kif_pos h1]
    rw [e9]; exact ⟨rfl, rfl⟩
  · replace h1 : ¬ (F_X2_has o a0 I J) = 0 := h1
    rw [kif_neg h1] at hp
    obtain ⟨hq, hp⟩ := hp
    refine ⟨hq, ?_⟩
    have e9 : F_X2_fateOf o a0 I J = (I 27 o (a0).toNatClampNeg) := by unfold F_X2_fateOf; rw [kif_neg h1]
    rw [e9]; exact ⟨rfl, rfl⟩
noncomputable def F_X2_metOf (o : Nat) (a0 : Int32) (I : kI) (J : kJ) : Int32 := (kif ((F_X2_has o a0 I J) = 0) (-1 : Int32) (I 28 o (a0).toNatClampNeg))
def pre_X2_metOf (o : Nat) (a0 : Int32) (I : kI) (J : kJ) : Prop := (kif ((F_X2_has o a0 I J) = 0) True (vp_in a0 200 ∧ True))
set_option maxRecDepth 100000 in
set_option maxHeartbeats 2000000 in
theorem cs_X2_metOf (o : Nat) (a0 : Int32) (I : kI) (J : kJ) (hp : pre_X2_metOf o a0 I J) : sp_X2_metOf [kx_r 2 o, kx_i a0] (I, J, none) (some (kx_i (F_X2_metOf o a0 I J))) (I, J, none) := by
  refine kx_start [] 13 ?_
  unfold pre_X2_metOf at hp
  refine ⟨_, _, cs_X2_has o a0 I J, rfl, ?_⟩
  refine ⟨fun h1 => ?_, fun h1 => ?_⟩
  · replace h1 : (F_X2_has o a0 I J) = 0 := h1
    rw [kif_pos h1] at hp
    have e9 : F_X2_metOf o a0 I J = (-1 : Int32) := by unfold F_X2_metOf; rw [kif_pos h1]
    rw [e9]; exact ⟨rfl, rfl⟩
  · replace h1 : ¬ (F_X2_has o a0 I J) = 0 := h1
    rw [kif_neg h1] at hp
    obtain ⟨hq, hp⟩ := hp
    refine ⟨hq, ?_⟩
    have e9 : F_X2_metOf o a0 I J = (I 28 o (a0).toNatClampNeg) := by unfold F_X2_metOf; rw [kif_neg h1]
    rw [e9]; exact ⟨rfl, rfl⟩
noncomputable def F_X10_isWithin (a0 : Int32) (a1 : Int32) (a2 : Int32) (I : kI) (J : kJ) : Int32 := (kif (a0 < a1) (0 : Int32) (kif (a2 < a0) (0 : Int32) (1 : Int32)))
set_option maxRecDepth 100000 in
set_option maxHeartbeats 2000000 in
theorem cs_X10_isWithin (a0 : Int32) (a1 : Int32) (a2 : Int32) (I : kI) (J : kJ) : sp_X10_isWithin [kx_i a0, kx_i a1, kx_i a2] (I, J, none) (some (kx_i (F_X10_isWithin a0 a1 a2 I J))) (I, J, none) := by
  refine kx_start [] 12 ?_
  refine ⟨fun h1 => ?_, fun h1 => ?_⟩
  · replace h1 : a0 < a1 := h1
    have e9 : F_X10_isWithin a0 a1 a2 I J = (0 : Int32) := by unfold F_X10_isWithin; rw [kif_pos h1]
    rw [e9]; exact ⟨(by decide), rfl, rfl⟩
  · replace h1 : ¬ a0 < a1 := h1
    refine ⟨fun h2 => ?_, fun h2 => ?_⟩
    · replace h2 : a2 < a0 := h2
      have e9 : F_X10_isWithin a0 a1 a2 I J = (0 : Int32) := by unfold F_X10_isWithin; rw [kif_neg h1, kif_pos h2]
      rw [e9]; exact ⟨(by decide), rfl, rfl⟩
    · replace h2 : ¬ a2 < a0 := h2
      have e9 : F_X10_isWithin a0 a1 a2 I J = (1 : Int32) := by unfold F_X10_isWithin; rw [kif_neg h1, kif_neg h2]
      rw [e9]; exact ⟨(by decide), rfl, rfl⟩
noncomputable def F_X2_shipInPlace (o : Nat) (a0 : Int32) (I : kI) (J : kJ) : Int32 := (kif ((F_X10_isWithin a0 (0 : Int32) ((I 2 o 5) - (1 : Int32)) I J) = 0) (-1 : Int32) (I 29 o (a0).toNatClampNeg))
def pre_X2_shipInPlace (o : Nat) (a0 : Int32) (I : kI) (J : kJ) : Prop := (kif ((F_X10_isWithin a0 (0 : Int32) ((I 2 o 5) - (1 : Int32)) I J) = 0) True (vp_in a0 200 ∧ True))
set_option maxRecDepth 100000 in
set_option maxHeartbeats 2000000 in
theorem cs_X2_shipInPlace (o : Nat) (a0 : Int32) (I : kI) (J : kJ) (hp : pre_X2_shipInPlace o a0 I J) : sp_X2_shipInPlace [kx_r 2 o, kx_i a0] (I, J, none) (some (kx_i (F_X2_shipInPlace o a0 I J))) (I, J, none) := by
  refine kx_start [] 17 ?_
  unfold pre_X2_shipInPlace at hp
  refine ⟨_, _, cs_X10_isWithin a0 (0 : Int32) ((I 2 o 5) - (1 : Int32)) I J, rfl, ?_⟩
  refine ⟨fun h1 => ?_, fun h1 => ?_⟩
  · replace h1 : (F_X10_isWithin a0 (0 : Int32) ((I 2 o 5) - (1 : Int32)) I J) = 0 := h1
    rw [kif_pos h1] at hp
    have e9 : F_X2_shipInPlace o a0 I J = (-1 : Int32) := by unfold F_X2_shipInPlace; rw [kif_pos h1]
    rw [e9]; exact ⟨rfl, rfl⟩
  · replace h1 : ¬ (F_X10_isWithin a0 (0 : Int32) ((I 2 o 5) - (1 : Int32)) I J) = 0 := h1
    rw [kif_neg h1] at hp
    obtain ⟨hq, hp⟩ := hp
    refine ⟨hq, ?_⟩
    have e9 : F_X2_shipInPlace o a0 I J = (I 29 o (a0).toNatClampNeg) := by unfold F_X2_shipInPlace; rw [kif_neg h1]
    rw [e9]; exact ⟨rfl, rfl⟩
noncomputable def F_X2_isBehind (o : Nat) (a0 : Int32) (a1 : Int32) (a2 : Int32) (I : kI) (J : kJ) : Int32 := (kif (a2 < (F_X2_hourOf o a0 I J)) (1 : Int32) (kif ((F_X2_hourOf o a0 I J) = a2) (kif (a1 ≤ (F_X2_kindOf o a0 I J)) (0 : Int32) (1 : Int32)) (0 : Int32)))
def pre_X2_isBehind (o : Nat) (a0 : Int32) (a1 : Int32) (a2 : Int32) (I : kI) (J : kJ) : Prop := (pre_X2_hourOf o a0 I J ∧ (kif (a2 < (F_X2_hourOf o a0 I J)) True (pre_X2_hourOf o a0 I J ∧ (kif ((F_X2_hourOf o a0 I J) = a2) (pre_X2_kindOf o a0 I J ∧ True) True))))
set_option maxRecDepth 100000 in
set_option maxHeartbeats 2000000 in
theorem cs_X2_isBehind (o : Nat) (a0 : Int32) (a1 : Int32) (a2 : Int32) (I : kI) (J : kJ) (hp : pre_X2_isBehind o a0 a1 a2 I J) : sp_X2_isBehind [kx_r 2 o, kx_i a0, kx_i a1, kx_i a2] (I, J, none) (some (kx_i (F_X2_isBehind o a0 a1 a2 I J))) (I, J, none) := by
  refine kx_start [] 21 ?_
  unfold pre_X2_isBehind at hp
  obtain ⟨hq, hp⟩ := hp
  refine ⟨_, _, cs_X2_hourOf o a0 I J hq, rfl, ?_⟩
  refine ⟨fun h1 => ?_, fun h1 => ?_⟩
  · replace h1 : a2 < (F_X2_hourOf o a0 I J) := h1
    rw [kif_pos h1] at hp
    have e9 : F_X2_isBehind o a0 a1 a2 I J = (1 : Int32) := by unfold F_X2_isBehind; rw [kif_pos h1]
    rw [e9]; exact ⟨(by decide), rfl, rfl⟩
  · replace h1 : ¬ a2 < (F_X2_hourOf o a0 I J) := h1
    rw [kif_neg h1] at hp
    obtain ⟨hq, hp⟩ := hp
    refine ⟨_, _, cs_X2_hourOf o a0 I J hq, rfl, ?_⟩
    refine ⟨fun h2 => ?_, fun h2 => ?_⟩
    · replace h2 : ¬ (F_X2_hourOf o a0 I J) = a2 := h2
      rw [kif_neg h2] at hp
      have e9 : F_X2_isBehind o a0 a1 a2 I J = (0 : Int32) := by unfold F_X2_isBehind; rw [kif_neg h1, kif_neg h2]
      rw [e9]; exact ⟨(by decide), rfl, rfl⟩
    · replace h2 : (F_X2_hourOf o a0 I J) = a2 := h2
      rw [kif_pos h2] at hp
      obtain ⟨hq, hp⟩ := hp
      refine ⟨_, _, cs_X2_kindOf o a0 I J hq, rfl, ?_⟩
      refine ⟨fun h3 => ?_, fun h3 => ?_⟩
      · replace h3 : a1 ≤ (F_X2_kindOf o a0 I J) := h3
        have e9 : F_X2_isBehind o a0 a1 a2 I J = (0 : Int32) := by unfold F_X2_isBehind; rw [kif_neg h1, kif_pos h2, kif_pos h3]
        rw [e9]; exact ⟨(by decide), rfl, rfl⟩
      · replace h3 : ¬ a1 ≤ (F_X2_kindOf o a0 I J) := h3
        have e9 : F_X2_isBehind o a0 a1 a2 I J = (1 : Int32) := by unfold F_X2_isBehind; rw [kif_neg h1, kif_pos h2, kif_neg h3]
        rw [e9]; exact ⟨(by decide), rfl, rfl⟩
noncomputable def F_X2_isPlaceOf (o : Nat) (a0 : Int32) (a1 : Int32) (I : kI) (J : kJ) : Int32 := (kif ((F_X2_has o (F_X2_shipInPlace o a1 I J) I J) = 0) (0 : Int32) (kif ((F_X2_hourOf o (F_X2_shipInPlace o a1 I J) I J) = a0) (1 : Int32) (0 : Int32)))
def pre_X2_isPlaceOf (o : Nat) (a0 : Int32) (a1 : Int32) (I : kI) (J : kJ) : Prop := (pre_X2_shipInPlace o a1 I J ∧ (kif ((F_X2_has o (F_X2_shipInPlace o a1 I J) I J) = 0) True (pre_X2_shipInPlace o a1 I J ∧ (pre_X2_hourOf o (F_X2_shipInPlace o a1 I J) I J ∧ True))))
set_option maxRecDepth 100000 in
set_option maxHeartbeats 2000000 in
theorem cs_X2_isPlaceOf (o : Nat) (a0 : Int32) (a1 : Int32) (I : kI) (J : kJ) (hp : pre_X2_isPlaceOf o a0 a1 I J) : sp_X2_isPlaceOf [kx_r 2 o, kx_i a0, kx_i a1] (I, J, none) (some (kx_i (F_X2_isPlaceOf o a0 a1 I J))) (I, J, none) := by
  refine kx_start [] 19 ?_
  unfold pre_X2_isPlaceOf at hp
  obtain ⟨hq, hp⟩ := hp
  refine ⟨_, _, cs_X2_shipInPlace o a1 I J hq, rfl, ?_⟩
  refine ⟨_, _, cs_X2_has o (F_X2_shipInPlace o a1 I J) I J, rfl, ?_⟩
  refine ⟨fun h1 => ?_, fun h1 => ?_⟩
  · replace h1 : (F_X2_has o (F_X2_shipInPlace o a1 I J) I J) = 0 := h1
    rw [kif_pos h1] at hp
    have e9 : F_X2_isPlaceOf o a0 a1 I J = (0 : Int32) := by unfold F_X2_isPlaceOf; rw [kif_pos h1]
    rw [e9]; exact ⟨(by decide), rfl, rfl⟩
  · replace h1 : ¬ (F_X2_has o (F_X2_shipInPlace o a1 I J) I J) = 0 := h1
    rw [kif_neg h1] at hp
    obtain ⟨hq, hp⟩ := hp
    refine ⟨_, _, cs_X2_shipInPlace o a1 I J hq, rfl, ?_⟩
    obtain ⟨hq, hp⟩ := hp
    refine ⟨_, _, cs_X2_hourOf o (F_X2_shipInPlace o a1 I J) I J hq, rfl, ?_⟩
    refine ⟨fun h2 => ?_, fun h2 => ?_⟩
    · replace h2 : ¬ (F_X2_hourOf o (F_X2_shipInPlace o a1 I J) I J) = a0 := h2
      have e9 : F_X2_isPlaceOf o a0 a1 I J = (0 : Int32) := by unfold F_X2_isPlaceOf; rw [kif_neg h1, kif_neg h2]
      rw [e9]; exact ⟨(by decide), rfl, rfl⟩
    · replace h2 : (F_X2_hourOf o (F_X2_shipInPlace o a1 I J) I J) = a0 := h2
      have e9 : F_X2_isPlaceOf o a0 a1 I J = (1 : Int32) := by unfold F_X2_isPlaceOf; rw [kif_neg h1, kif_pos h2]
      rw [e9]; exact ⟨(by decide), rfl, rfl⟩
noncomputable def F_X2_becameOf (o : Nat) (a0 : Int32) (a1 : Int32) (a2 : Int32) (I : kI) (J : kJ) : kI × kJ := (kif ((F_X2_has o a0 I J) = 0) (I, J) ((kw (kw I 27 o (a0).toNatClampNeg a1) 28 o (a0).toNatClampNeg a2), J))
def pre_X2_becameOf (o : Nat) (a0 : Int32) (a1 : Int32) (a2 : Int32) (I : kI) (J : kJ) : Prop := (kif ((F_X2_has o a0 I J) = 0) True (vp_in a0 200 ∧ (vp_in a0 200 ∧ True)))
set_option maxRecDepth 100000 in
set_option maxHeartbeats 2000000 in
theorem cs_X2_becameOf (o : Nat) (a0 : Int32) (a1 : Int32) (a2 : Int32) (I : kI) (J : kJ) (hp : pre_X2_becameOf o a0 a1 a2 I J) : sp_X2_becameOf [kx_r 2 o, kx_i a0, kx_i a1, kx_i a2] (I, J, none) (none) ((F_X2_becameOf o a0 a1 a2 I J).1, (F_X2_becameOf o a0 a1 a2 I J).2, none) := by
  refine kx_start [] 17 ?_
  unfold pre_X2_becameOf at hp
  refine ⟨_, _, cs_X2_has o a0 I J, rfl, ?_⟩
  refine ⟨fun h1 => ?_, fun h1 => ?_⟩
  · replace h1 : (F_X2_has o a0 I J) = 0 := h1
    rw [kif_pos h1] at hp
    have e9 : F_X2_becameOf o a0 a1 a2 I J = (I, J) := by unfold F_X2_becameOf; rw [kif_pos h1]
    rw [e9]; exact ⟨rfl, rfl⟩
  · replace h1 : ¬ (F_X2_has o a0 I J) = 0 := h1
    rw [kif_neg h1] at hp
    obtain ⟨hq, hp⟩ := hp
    refine ⟨hq, ?_⟩
    obtain ⟨hq, hp⟩ := hp
    refine ⟨hq, ?_⟩
    have e9 : F_X2_becameOf o a0 a1 a2 I J = ((kw (kw I 27 o (a0).toNatClampNeg a1) 28 o (a0).toNatClampNeg a2), J) := by unfold F_X2_becameOf; rw [kif_neg h1]
    rw [e9]; exact ⟨rfl, rfl⟩
noncomputable def F_X10_kindAbove (a0 : Int32) (I : kI) (J : kJ) : Int32 := (kif (a0 = (1)) (0 : Int32) (kif (a0 = (2)) (0 : Int32) (kif (a0 = (3)) (1 : Int32) (kif (a0 = (4)) (1 : Int32) (kif (a0 = (5)) (2 : Int32) (kif (a0 = (6)) (2 : Int32) (kif (a0 = (7)) (6 : Int32) (-1 : Int32))))))))
set_option maxRecDepth 100000 in
set_option maxHeartbeats 2000000 in
theorem cs_X10_kindAbove (a0 : Int32) (I : kI) (J : kJ) : sp_X10_kindAbove [kx_i a0] (I, J, none) (some (kx_i (F_X10_kindAbove a0 I J))) (I, J, none) := by
  refine kx_start [] 14 ?_
  refine ⟨fun h1 => ?_, fun h1 => ?_⟩
  · replace h1 : a0 = (1) := h1
    have e9 : F_X10_kindAbove a0 I J = (0 : Int32) := by unfold F_X10_kindAbove; rw [kif_pos h1]
    rw [e9]; exact ⟨rfl, rfl⟩
  · replace h1 : ¬ a0 = (1) := h1
    refine ⟨fun h2 => ?_, fun h2 => ?_⟩
    · replace h2 : a0 = (2) := h2
      have e9 : F_X10_kindAbove a0 I J = (0 : Int32) := by unfold F_X10_kindAbove; rw [kif_neg h1, kif_pos h2]
      rw [e9]; exact ⟨rfl, rfl⟩
    · replace h2 : ¬ a0 = (2) := h2
      refine ⟨fun h3 => ?_, fun h3 => ?_⟩
      · replace h3 : a0 = (3) := h3
        have e9 : F_X10_kindAbove a0 I J = (1 : Int32) := by unfold F_X10_kindAbove; rw [kif_neg h1, kif_neg h2, kif_pos h3]
        rw [e9]; exact ⟨rfl, rfl⟩
      · replace h3 : ¬ a0 = (3) := h3
        refine ⟨fun h4 => ?_, fun h4 => ?_⟩
        · replace h4 : a0 = (4) := h4
          have e9 : F_X10_kindAbove a0 I J = (1 : Int32) := by unfold F_X10_kindAbove; rw [kif_neg h1, kif_neg h2, kif_neg h3, kif_pos h4]
          rw [e9]; exact ⟨rfl, rfl⟩
        · replace h4 : ¬ a0 = (4) := h4
          refine ⟨fun h5 => ?_, fun h5 => ?_⟩
          · replace h5 : a0 = (5) := h5
            have e9 : F_X10_kindAbove a0 I J = (2 : Int32) := by unfold F_X10_kindAbove; rw [kif_neg h1, kif_neg h2, kif_neg h3, kif_neg h4, kif_pos h5]
            rw [e9]; exact ⟨rfl, rfl⟩
          · replace h5 : ¬ a0 = (5) := h5
            refine ⟨fun h6 => ?_, fun h6 => ?_⟩
            · replace h6 : a0 = (6) := h6
              have e9 : F_X10_kindAbove a0 I J = (2 : Int32) := by unfold F_X10_kindAbove; rw [kif_neg h1, kif_neg h2, kif_neg h3, kif_neg h4, kif_neg h5, kif_pos h6]
              rw [e9]; exact ⟨rfl, rfl⟩
            · replace h6 : ¬ a0 = (6) := h6
              refine ⟨fun h7 => ?_, fun h7 => ?_⟩
              · replace h7 : a0 = (7) := h7
                have e9 : F_X10_kindAbove a0 I J = (6 : Int32) := by unfold F_X10_kindAbove; rw [kif_neg h1, kif_neg h2, kif_neg h3, kif_neg h4, kif_neg h5, kif_neg h6, kif_pos h7]
                rw [e9]; exact ⟨rfl, rfl⟩
              · replace h7 : ¬ a0 = (7) := h7
                have e9 : F_X10_kindAbove a0 I J = (-1 : Int32) := by unfold F_X10_kindAbove; rw [kif_neg h1, kif_neg h2, kif_neg h3, kif_neg h4, kif_neg h5, kif_neg h6, kif_neg h7]
                rw [e9]; exact ⟨rfl, rfl⟩
noncomputable def F_X2_become (o : Nat) (o0 : Nat) (I : kI) (J : kJ) : kI × kJ := ((kw (kcI (kcI (kcI (kcI (kcI I 25 o0 25 o ((0 : Int32)).toNatClampNeg ((0 : Int32)).toNatClampNeg ((200 : Int32)).toNatClampNeg) 26 o0 26 o ((0 : Int32)).toNatClampNeg ((0 : Int32)).toNatClampNeg ((200 : Int32)).toNatClampNeg) 27 o0 27 o ((0 : Int32)).toNatClampNeg ((0 : Int32)).toNatClampNeg ((200 : Int32)).toNatClampNeg) 28 o0 28 o ((0 : Int32)).toNatClampNeg ((0 : Int32)).toNatClampNeg ((200 : Int32)).toNatClampNeg) 29 o0 29 o ((0 : Int32)).toNatClampNeg ((0 : Int32)).toNatClampNeg ((200 : Int32)).toNatClampNeg) 2 o 5 ((kcI (kcI (kcI (kcI (kcI I 25 o0 25 o ((0 : Int32)).toNatClampNeg ((0 : Int32)).toNatClampNeg ((200 : Int32)).toNatClampNeg) 26 o0 26 o ((0 : Int32)).toNatClampNeg ((0 : Int32)).toNatClampNeg ((200 : Int32)).toNatClampNeg) 27 o0 27 o ((0 : Int32)).toNatClampNeg ((0 : Int32)).toNatClampNeg ((200 : Int32)).toNatClampNeg) 28 o0 28 o ((0 : Int32)).toNatClampNeg ((0 : Int32)).toNatClampNeg ((200 : Int32)).toNatClampNeg) 29 o0 29 o ((0 : Int32)).toNatClampNeg ((0 : Int32)).toNatClampNeg ((200 : Int32)).toNatClampNeg) 2 o0 5)), J)
def pre_X2_become (o : Nat) (o0 : Nat) (I : kI) (J : kJ) : Prop := ((¬ (0 : Int32) < 0 ∧ ¬ (0 : Int32) < 0 ∧ ¬ (200 : Int32) < 0 ∧ ((0 : Int32)).toNatClampNeg + ((200 : Int32)).toNatClampNeg ≤ 200 ∧ ((0 : Int32)).toNatClampNeg + ((200 : Int32)).toNatClampNeg ≤ 200) ∧ ((¬ (0 : Int32) < 0 ∧ ¬ (0 : Int32) < 0 ∧ ¬ (200 : Int32) < 0 ∧ ((0 : Int32)).toNatClampNeg + ((200 : Int32)).toNatClampNeg ≤ 200 ∧ ((0 : Int32)).toNatClampNeg + ((200 : Int32)).toNatClampNeg ≤ 200) ∧ ((¬ (0 : Int32) < 0 ∧ ¬ (0 : Int32) < 0 ∧ ¬ (200 : Int32) < 0 ∧ ((0 : Int32)).toNatClampNeg + ((200 : Int32)).toNatClampNeg ≤ 200 ∧ ((0 : Int32)).toNatClampNeg + ((200 : Int32)).toNatClampNeg ≤ 200) ∧ ((¬ (0 : Int32) < 0 ∧ ¬ (0 : Int32) < 0 ∧ ¬ (200 : Int32) < 0 ∧ ((0 : Int32)).toNatClampNeg + ((200 : Int32)).toNatClampNeg ≤ 200 ∧ ((0 : Int32)).toNatClampNeg + ((200 : Int32)).toNatClampNeg ≤ 200) ∧ ((¬ (0 : Int32) < 0 ∧ ¬ (0 : Int32) < 0 ∧ ¬ (200 : Int32) < 0 ∧ ((0 : Int32)).toNatClampNeg + ((200 : Int32)).toNatClampNeg ≤ 200 ∧ ((0 : Int32)).toNatClampNeg + ((200 : Int32)).toNatClampNeg ≤ 200) ∧ True)))))
def sp_X2_become : kx_Sp := fun av0 S0 r0 S1 => ∃ (o : Nat) (o0 : Nat) (I : kI) (J : kJ) (hp : pre_X2_become o o0 I J), av0 = [kx_r 2 o, kx_r 2 o0] ∧ S0 = (I, J, none) ∧ r0 = (none) ∧ S1 = ((F_X2_become o o0 I J).1, (F_X2_become o o0 I J).2, none)
theorem cs_X2_become (o : Nat) (o0 : Nat) (I : kI) (J : kJ) (hp : pre_X2_become o o0 I J) : sp_X2_become [kx_r 2 o, kx_r 2 o0] (I, J, none) (none) ((F_X2_become o o0 I J).1, (F_X2_become o o0 I J).2, none) := ⟨o, o0, I, J, hp, rfl, rfl, rfl, rfl⟩
noncomputable def F_X3_has (o : Nat) (a0 : Int32) (I : kI) (J : kJ) : Int32 := (kif (a0 < 0) (0 : Int32) (kif ((I 3 o 4) ≤ a0) (0 : Int32) (1 : Int32)))
set_option maxRecDepth 100000 in
set_option maxHeartbeats 2000000 in
theorem cs_X3_has (o : Nat) (a0 : Int32) (I : kI) (J : kJ) : sp_X3_has [kx_r 3 o, kx_i a0] (I, J, none) (some (kx_i (F_X3_has o a0 I J))) (I, J, none) := by
  refine kx_start [] 12 ?_
  refine ⟨fun h1 => ?_, fun h1 => ?_⟩
  · replace h1 : a0 < 0 := h1
    have e9 : F_X3_has o a0 I J = (0 : Int32) := by unfold F_X3_has; rw [kif_pos h1]
    rw [e9]; exact ⟨(by decide), rfl, rfl⟩
  · replace h1 : ¬ a0 < 0 := h1
    refine ⟨fun h2 => ?_, fun h2 => ?_⟩
    · replace h2 : (I 3 o 4) ≤ a0 := h2
      have e9 : F_X3_has o a0 I J = (0 : Int32) := by unfold F_X3_has; rw [kif_neg h1, kif_pos h2]
      rw [e9]; exact ⟨(by decide), rfl, rfl⟩
    · replace h2 : ¬ (I 3 o 4) ≤ a0 := h2
      have e9 : F_X3_has o a0 I J = (1 : Int32) := by unfold F_X3_has; rw [kif_neg h1, kif_neg h2]
      rw [e9]; exact ⟨(by decide), rfl, rfl⟩
noncomputable def F_X3_write (o : Nat) (a0 : Int32) (a1 : Int32) (a2 : Int32) (a3 : Int32) (I : kI) (J : kJ) : kI × kJ := (kif ((400 : Int32) ≤ (I 3 o 4)) (I, J) ((kw (kw (kw (kw (kw I 30 o ((I 3 o 4)).toNatClampNeg a0) 31 o (((kw I 30 o ((I 3 o 4)).toNatClampNeg a0) 3 o 4)).toNatClampNeg a1) 32 o (((kw (kw I 30 o ((I 3 o 4)).toNatClampNeg a0) 31 o (((kw I 30 o ((I 3 o 4)).toNatClampNeg a0) 3 o 4)).toNatClampNeg a1) 3 o 4)).toNatClampNeg a2) 33 o (((kw (kw (kw I 30 o ((I 3 o 4)).toNatClampNeg a0) 31 o (((kw I 30 o ((I 3 o 4)).toNatClampNeg a0) 3 o 4)).toNatClampNeg a1) 32 o (((kw (kw I 30 o ((I 3 o 4)).toNatClampNeg a0) 31 o (((kw I 30 o ((I 3 o 4)).toNatClampNeg a0) 3 o 4)).toNatClampNeg a1) 3 o 4)).toNatClampNeg a2) 3 o 4)).toNatClampNeg a3) 3 o 4 (((kw (kw (kw (kw I 30 o ((I 3 o 4)).toNatClampNeg a0) 31 o (((kw I 30 o ((I 3 o 4)).toNatClampNeg a0) 3 o 4)).toNatClampNeg a1) 32 o (((kw (kw I 30 o ((I 3 o 4)).toNatClampNeg a0) 31 o (((kw I 30 o ((I 3 o 4)).toNatClampNeg a0) 3 o 4)).toNatClampNeg a1) 3 o 4)).toNatClampNeg a2) 33 o (((kw (kw (kw I 30 o ((I 3 o 4)).toNatClampNeg a0) 31 o (((kw I 30 o ((I 3 o 4)).toNatClampNeg a0) 3 o 4)).toNatClampNeg a1) 32 o (((kw (kw I 30 o ((I 3 o 4)).toNatClampNeg a0) 31 o (((kw I 30 o ((I 3 o 4)).toNatClampNeg a0) 3 o 4)).toNatClampNeg a1) 3 o 4)).toNatClampNeg a2) 3 o 4)).toNatClampNeg a3) 3 o 4) + (1 : Int32))), J))
def pre_X3_write (o : Nat) (a0 : Int32) (a1 : Int32) (a2 : Int32) (a3 : Int32) (I : kI) (J : kJ) : Prop := (kif ((400 : Int32) ≤ (I 3 o 4)) True (vp_in (I 3 o 4) 400 ∧ (vp_in ((kw I 30 o ((I 3 o 4)).toNatClampNeg a0) 3 o 4) 400 ∧ (vp_in ((kw (kw I 30 o ((I 3 o 4)).toNatClampNeg a0) 31 o (((kw I 30 o ((I 3 o 4)).toNatClampNeg a0) 3 o 4)).toNatClampNeg a1) 3 o 4) 400 ∧ (vp_in ((kw (kw (kw I 30 o ((I 3 o 4)).toNatClampNeg a0) 31 o (((kw I 30 o ((I 3 o 4)).toNatClampNeg a0) 3 o 4)).toNatClampNeg a1) 32 o (((kw (kw I 30 o ((I 3 o 4)).toNatClampNeg a0) 31 o (((kw I 30 o ((I 3 o 4)).toNatClampNeg a0) 3 o 4)).toNatClampNeg a1) 3 o 4)).toNatClampNeg a2) 3 o 4) 400 ∧ True)))))
set_option maxRecDepth 100000 in
set_option maxHeartbeats 2000000 in
theorem cs_X3_write (o : Nat) (a0 : Int32) (a1 : Int32) (a2 : Int32) (a3 : Int32) (I : kI) (J : kJ) (hp : pre_X3_write o a0 a1 a2 a3 I J) : sp_X3_write [kx_r 3 o, kx_i a0, kx_i a1, kx_i a2, kx_i a3] (I, J, none) (none) ((F_X3_write o a0 a1 a2 a3 I J).1, (F_X3_write o a0 a1 a2 a3 I J).2, none) := by
  refine kx_start [] 37 ?_
  unfold pre_X3_write at hp
  refine ⟨fun h1 => ?_, fun h1 => ?_⟩
  · replace h1 : (400 : Int32) ≤ (I 3 o 4) := h1
    rw [kif_pos h1] at hp
    have e9 : F_X3_write o a0 a1 a2 a3 I J = (I, J) := by unfold F_X3_write; rw [kif_pos h1]
    rw [e9]; exact ⟨rfl, rfl⟩
  · replace h1 : ¬ (400 : Int32) ≤ (I 3 o 4) := h1
    rw [kif_neg h1] at hp
    obtain ⟨hq, hp⟩ := hp
    refine ⟨hq, ?_⟩
    obtain ⟨hq, hp⟩ := hp
    refine ⟨hq, ?_⟩
    obtain ⟨hq, hp⟩ := hp
    refine ⟨hq, ?_⟩
    obtain ⟨hq, hp⟩ := hp
    refine ⟨hq, ?_⟩
    have e9 : F_X3_write o a0 a1 a2 a3 I J = ((kw (kw (kw (kw (kw I 30 o ((I 3 o 4)).toNatClampNeg a0) 31 o (((kw I 30 o ((I 3 o 4)).toNatClampNeg a0) 3 o 4)).toNatClampNeg a1) 32 o (((kw (kw I 30 o ((I 3 o 4)).toNatClampNeg a0) 31 o (((kw I 30 o ((I 3 o 4)).toNatClampNeg a0) 3 o 4)).toNatClampNeg a1) 3 o 4)).toNatClampNeg a2) 33 o (((kw (kw (kw I 30 o ((I 3 o 4)).toNatClampNeg a0) 31 o (((kw I 30 o ((I 3 o 4)).toNatClampNeg a0) 3 o 4)).toNatClampNeg a1) 32 o (((kw (kw I 30 o ((I 3 o 4)).toNatClampNeg a0) 31 o (((kw I 30 o ((I 3 o 4)).toNatClampNeg a0) 3 o 4)).toNatClampNeg a1) 3 o 4)).toNatClampNeg a2) 3 o 4)).toNatClampNeg a3) 3 o 4 (((kw (kw (kw (kw I 30 o ((I 3 o 4)).toNatClampNeg a0) 31 o (((kw I 30 o ((I 3 o 4)).toNatClampNeg a0) 3 o 4)).toNatClampNeg a1) 32 o (((kw (kw I 30 o ((I 3 o 4)).toNatClampNeg a0) 31 o (((kw I 30 o ((I 3 o 4)).toNatClampNeg a0) 3 o 4)).toNatClampNeg a1) 3 o 4)).toNatClampNeg a2) 33 o (((kw (kw (kw I 30 o ((I 3 o 4)).toNatClampNeg a0) 31 o (((kw I 30 o ((I 3 o 4)).toNatClampNeg a0) 3 o 4)).toNatClampNeg a1) 32 o (((kw (kw I 30 o ((I 3 o 4)).toNatClampNeg a0) 31 o (((kw I 30 o ((I 3 o 4)).toNatClampNeg a0) 3 o 4)).toNatClampNeg a1) 3 o 4)).toNatClampNeg a2) 3 o 4)).toNatClampNeg a3) 3 o 4) + (1 : Int32))), J) := by unfold F_X3_write; rw [kif_neg h1]
    rw [e9]; exact ⟨rfl, rfl⟩
noncomputable def F_X3_hourOf (o : Nat) (a0 : Int32) (I : kI) (J : kJ) : Int32 := (kif ((F_X3_has o a0 I J) = 0) (-1 : Int32) (I 30 o (a0).toNatClampNeg))
def pre_X3_hourOf (o : Nat) (a0 : Int32) (I : kI) (J : kJ) : Prop := (kif ((F_X3_has o a0 I J) = 0) True (vp_in a0 400 ∧ True))
set_option maxRecDepth 100000 in
set_option maxHeartbeats 2000000 in
theorem cs_X3_hourOf (o : Nat) (a0 : Int32) (I : kI) (J : kJ) (hp : pre_X3_hourOf o a0 I J) : sp_X3_hourOf [kx_r 3 o, kx_i a0] (I, J, none) (some (kx_i (F_X3_hourOf o a0 I J))) (I, J, none) := by
  refine kx_start [] 13 ?_
  unfold pre_X3_hourOf at hp
  refine ⟨_, _, cs_X3_has o a0 I J, rfl, ?_⟩
  refine ⟨fun h1 => ?_, fun h1 => ?_⟩
  · replace h1 : (F_X3_has o a0 I J) = 0 := h1
    rw [kif_pos h1] at hp
    have e9 : F_X3_hourOf o a0 I J = (-1 : Int32) := by unfold F_X3_hourOf; rw [kif_pos h1]
    rw [e9]; exact ⟨rfl, rfl⟩
  · replace h1 : ¬ (F_X3_has o a0 I J) = 0 := h1
    rw [kif_neg h1] at hp
    obtain ⟨hq, hp⟩ := hp
    refine ⟨hq, ?_⟩
    have e9 : F_X3_hourOf o a0 I J = (I 30 o (a0).toNatClampNeg) := by unfold F_X3_hourOf; rw [kif_neg h1]
    rw [e9]; exact ⟨rfl, rfl⟩
noncomputable def F_X3_sortOf (o : Nat) (a0 : Int32) (I : kI) (J : kJ) : Int32 := (kif ((F_X3_has o a0 I J) = 0) (-1 : Int32) (I 31 o (a0).toNatClampNeg))
def pre_X3_sortOf (o : Nat) (a0 : Int32) (I : kI) (J : kJ) : Prop := (kif ((F_X3_has o a0 I J) = 0) True (vp_in a0 400 ∧ True))
set_option maxRecDepth 100000 in
set_option maxHeartbeats 2000000 in
theorem cs_X3_sortOf (o : Nat) (a0 : Int32) (I : kI) (J : kJ) (hp : pre_X3_sortOf o a0 I J) : sp_X3_sortOf [kx_r 3 o, kx_i a0] (I, J, none) (some (kx_i (F_X3_sortOf o a0 I J))) (I, J, none) := by
  refine kx_start [] 13 ?_
  unfold pre_X3_sortOf at hp
  refine ⟨_, _, cs_X3_has o a0 I J, rfl, ?_⟩
  refine ⟨fun h1 => ?_, fun h1 => ?_⟩
  · replace h1 : (F_X3_has o a0 I J) = 0 := h1
    rw [kif_pos h1] at hp
    have e9 : F_X3_sortOf o a0 I J = (-1 : Int32) := by unfold F_X3_sortOf; rw [kif_pos h1]
    rw [e9]; exact ⟨rfl, rfl⟩
  · replace h1 : ¬ (F_X3_has o a0 I J) = 0 := h1
    rw [kif_neg h1] at hp
    obtain ⟨hq, hp⟩ := hp
    refine ⟨hq, ?_⟩
    have e9 : F_X3_sortOf o a0 I J = (I 31 o (a0).toNatClampNeg) := by unfold F_X3_sortOf; rw [kif_neg h1]
    rw [e9]; exact ⟨rfl, rfl⟩
noncomputable def F_X3_shipOfEntry (o : Nat) (a0 : Int32) (I : kI) (J : kJ) : Int32 := (kif ((F_X3_has o a0 I J) = 0) (-1 : Int32) (I 32 o (a0).toNatClampNeg))
def pre_X3_shipOfEntry (o : Nat) (a0 : Int32) (I : kI) (J : kJ) : Prop := (kif ((F_X3_has o a0 I J) = 0) True (vp_in a0 400 ∧ True))
def sp_X3_shipOfEntry : kx_Sp := fun av0 S0 r0 S1 => ∃ (o : Nat) (a0 : Int32) (I : kI) (J : kJ) (hp : pre_X3_shipOfEntry o a0 I J), av0 = [kx_r 3 o, kx_i a0] ∧ S0 = (I, J, none) ∧ r0 = (some (kx_i (F_X3_shipOfEntry o a0 I J))) ∧ S1 = (I, J, none)
theorem cs_X3_shipOfEntry (o : Nat) (a0 : Int32) (I : kI) (J : kJ) (hp : pre_X3_shipOfEntry o a0 I J) : sp_X3_shipOfEntry [kx_r 3 o, kx_i a0] (I, J, none) (some (kx_i (F_X3_shipOfEntry o a0 I J))) (I, J, none) := ⟨o, a0, I, J, hp, rfl, rfl, rfl, rfl⟩
noncomputable def F_X3_writerOf (o : Nat) (a0 : Int32) (I : kI) (J : kJ) : Int32 := (kif ((F_X3_has o a0 I J) = 0) (-1 : Int32) (I 33 o (a0).toNatClampNeg))
def pre_X3_writerOf (o : Nat) (a0 : Int32) (I : kI) (J : kJ) : Prop := (kif ((F_X3_has o a0 I J) = 0) True (vp_in a0 400 ∧ True))
set_option maxRecDepth 100000 in
set_option maxHeartbeats 2000000 in
theorem cs_X3_writerOf (o : Nat) (a0 : Int32) (I : kI) (J : kJ) (hp : pre_X3_writerOf o a0 I J) : sp_X3_writerOf [kx_r 3 o, kx_i a0] (I, J, none) (some (kx_i (F_X3_writerOf o a0 I J))) (I, J, none) := by
  refine kx_start [] 13 ?_
  unfold pre_X3_writerOf at hp
  refine ⟨_, _, cs_X3_has o a0 I J, rfl, ?_⟩
  refine ⟨fun h1 => ?_, fun h1 => ?_⟩
  · replace h1 : (F_X3_has o a0 I J) = 0 := h1
    rw [kif_pos h1] at hp
    have e9 : F_X3_writerOf o a0 I J = (-1 : Int32) := by unfold F_X3_writerOf; rw [kif_pos h1]
    rw [e9]; exact ⟨rfl, rfl⟩
  · replace h1 : ¬ (F_X3_has o a0 I J) = 0 := h1
    rw [kif_neg h1] at hp
    obtain ⟨hq, hp⟩ := hp
    refine ⟨hq, ?_⟩
    have e9 : F_X3_writerOf o a0 I J = (I 33 o (a0).toNatClampNeg) := by unfold F_X3_writerOf; rw [kif_neg h1]
    rw [e9]; exact ⟨rfl, rfl⟩
noncomputable def F_X3_become (o : Nat) (o0 : Nat) (I : kI) (J : kJ) : kI × kJ := ((kw (kcI (kcI (kcI (kcI I 30 o0 30 o ((0 : Int32)).toNatClampNeg ((0 : Int32)).toNatClampNeg ((400 : Int32)).toNatClampNeg) 31 o0 31 o ((0 : Int32)).toNatClampNeg ((0 : Int32)).toNatClampNeg ((400 : Int32)).toNatClampNeg) 32 o0 32 o ((0 : Int32)).toNatClampNeg ((0 : Int32)).toNatClampNeg ((400 : Int32)).toNatClampNeg) 33 o0 33 o ((0 : Int32)).toNatClampNeg ((0 : Int32)).toNatClampNeg ((400 : Int32)).toNatClampNeg) 3 o 4 ((kcI (kcI (kcI (kcI I 30 o0 30 o ((0 : Int32)).toNatClampNeg ((0 : Int32)).toNatClampNeg ((400 : Int32)).toNatClampNeg) 31 o0 31 o ((0 : Int32)).toNatClampNeg ((0 : Int32)).toNatClampNeg ((400 : Int32)).toNatClampNeg) 32 o0 32 o ((0 : Int32)).toNatClampNeg ((0 : Int32)).toNatClampNeg ((400 : Int32)).toNatClampNeg) 33 o0 33 o ((0 : Int32)).toNatClampNeg ((0 : Int32)).toNatClampNeg ((400 : Int32)).toNatClampNeg) 3 o0 4)), J)
def pre_X3_become (o : Nat) (o0 : Nat) (I : kI) (J : kJ) : Prop := ((¬ (0 : Int32) < 0 ∧ ¬ (0 : Int32) < 0 ∧ ¬ (400 : Int32) < 0 ∧ ((0 : Int32)).toNatClampNeg + ((400 : Int32)).toNatClampNeg ≤ 400 ∧ ((0 : Int32)).toNatClampNeg + ((400 : Int32)).toNatClampNeg ≤ 400) ∧ ((¬ (0 : Int32) < 0 ∧ ¬ (0 : Int32) < 0 ∧ ¬ (400 : Int32) < 0 ∧ ((0 : Int32)).toNatClampNeg + ((400 : Int32)).toNatClampNeg ≤ 400 ∧ ((0 : Int32)).toNatClampNeg + ((400 : Int32)).toNatClampNeg ≤ 400) ∧ ((¬ (0 : Int32) < 0 ∧ ¬ (0 : Int32) < 0 ∧ ¬ (400 : Int32) < 0 ∧ ((0 : Int32)).toNatClampNeg + ((400 : Int32)).toNatClampNeg ≤ 400 ∧ ((0 : Int32)).toNatClampNeg + ((400 : Int32)).toNatClampNeg ≤ 400) ∧ ((¬ (0 : Int32) < 0 ∧ ¬ (0 : Int32) < 0 ∧ ¬ (400 : Int32) < 0 ∧ ((0 : Int32)).toNatClampNeg + ((400 : Int32)).toNatClampNeg ≤ 400 ∧ ((0 : Int32)).toNatClampNeg + ((400 : Int32)).toNatClampNeg ≤ 400) ∧ True))))
def sp_X3_become : kx_Sp := fun av0 S0 r0 S1 => ∃ (o : Nat) (o0 : Nat) (I : kI) (J : kJ) (hp : pre_X3_become o o0 I J), av0 = [kx_r 3 o, kx_r 3 o0] ∧ S0 = (I, J, none) ∧ r0 = (none) ∧ S1 = ((F_X3_become o o0 I J).1, (F_X3_become o o0 I J).2, none)
theorem cs_X3_become (o : Nat) (o0 : Nat) (I : kI) (J : kJ) (hp : pre_X3_become o o0 I J) : sp_X3_become [kx_r 3 o, kx_r 3 o0] (I, J, none) (none) ((F_X3_become o o0 I J).1, (F_X3_become o o0 I J).2, none) := ⟨o, o0, I, J, hp, rfl, rfl, rfl, rfl⟩
noncomputable def F_X4_content (o : Nat) (I : kI) (J : kJ) : Int32 := (I 4 o 2)
def sp_X4_content : kx_Sp := fun av0 S0 r0 S1 => ∃ (o : Nat) (I : kI) (J : kJ), av0 = [kx_r 4 o] ∧ S0 = (I, J, none) ∧ r0 = (some (kx_i (F_X4_content o I J))) ∧ S1 = (I, J, none)
theorem cs_X4_content (o : Nat) (I : kI) (J : kJ) : sp_X4_content [kx_r 4 o] (I, J, none) (some (kx_i (F_X4_content o I J))) (I, J, none) := ⟨o, I, J, rfl, rfl, rfl, rfl⟩
noncomputable def F_X4_isEmpty (o : Nat) (I : kI) (J : kJ) : Int32 := (kif ((I 4 o 2) = (-1 : Int32)) (1 : Int32) (0 : Int32))
set_option maxRecDepth 100000 in
set_option maxHeartbeats 2000000 in
theorem cs_X4_isEmpty (o : Nat) (I : kI) (J : kJ) : sp_X4_isEmpty [kx_r 4 o] (I, J, none) (some (kx_i (F_X4_isEmpty o I J))) (I, J, none) := by
  refine kx_start [] 10 ?_
  refine ⟨fun h1 => ?_, fun h1 => ?_⟩
  · replace h1 : ¬ (I 4 o 2) = (-1 : Int32) := h1
    have e9 : F_X4_isEmpty o I J = (0 : Int32) := by unfold F_X4_isEmpty; rw [kif_neg h1]
    rw [e9]; exact ⟨(by decide), rfl, rfl⟩
  · replace h1 : (I 4 o 2) = (-1 : Int32) := h1
    have e9 : F_X4_isEmpty o I J = (1 : Int32) := by unfold F_X4_isEmpty; rw [kif_pos h1]
    rw [e9]; exact ⟨(by decide), rfl, rfl⟩
noncomputable def F_X4_isShip (o : Nat) (I : kI) (J : kJ) : Int32 := (kif ((I 4 o 2) < (10 : Int32)) (0 : Int32) (1 : Int32))
def sp_X4_isShip : kx_Sp := fun av0 S0 r0 S1 => ∃ (o : Nat) (I : kI) (J : kJ), av0 = [kx_r 4 o] ∧ S0 = (I, J, none) ∧ r0 = (some (kx_i (F_X4_isShip o I J))) ∧ S1 = (I, J, none)
theorem cs_X4_isShip (o : Nat) (I : kI) (J : kJ) : sp_X4_isShip [kx_r 4 o] (I, J, none) (some (kx_i (F_X4_isShip o I J))) (I, J, none) := ⟨o, I, J, rfl, rfl, rfl, rfl⟩
noncomputable def F_X4_isOfSameSort (o : Nat) (o0 : Nat) (I : kI) (J : kJ) : Int32 := (kif ((I 4 o 2) = (I 4 o0 2)) (1 : Int32) (0 : Int32))
def sp_X4_isOfSameSort : kx_Sp := fun av0 S0 r0 S1 => ∃ (o : Nat) (o0 : Nat) (I : kI) (J : kJ), av0 = [kx_r 4 o, kx_r 4 o0] ∧ S0 = (I, J, none) ∧ r0 = (some (kx_i (F_X4_isOfSameSort o o0 I J))) ∧ S1 = (I, J, none)
theorem cs_X4_isOfSameSort (o : Nat) (o0 : Nat) (I : kI) (J : kJ) : sp_X4_isOfSameSort [kx_r 4 o, kx_r 4 o0] (I, J, none) (some (kx_i (F_X4_isOfSameSort o o0 I J))) (I, J, none) := ⟨o, o0, I, J, rfl, rfl, rfl, rfl⟩
noncomputable def F_X4_shipNumber (o : Nat) (I : kI) (J : kJ) : Int32 := (kif ((F_X4_isShip o I J) = 0) (-1 : Int32) ((I 4 o 2) - (10 : Int32)))
def sp_X4_shipNumber : kx_Sp := fun av0 S0 r0 S1 => ∃ (o : Nat) (I : kI) (J : kJ), av0 = [kx_r 4 o] ∧ S0 = (I, J, none) ∧ r0 = (some (kx_i (F_X4_shipNumber o I J))) ∧ S1 = (I, J, none)
theorem cs_X4_shipNumber (o : Nat) (I : kI) (J : kJ) : sp_X4_shipNumber [kx_r 4 o] (I, J, none) (some (kx_i (F_X4_shipNumber o I J))) (I, J, none) := ⟨o, I, J, rfl, rfl, rfl, rfl⟩
noncomputable def F_X4_takeNothing (o : Nat) (I : kI) (J : kJ) : kI × kJ := ((kw (kw I 4 o 2 (-1 : Int32)) 4 o 1 (0 : Int32)), J)
def sp_X4_takeNothing : kx_Sp := fun av0 S0 r0 S1 => ∃ (o : Nat) (I : kI) (J : kJ), av0 = [kx_r 4 o] ∧ S0 = (I, J, none) ∧ r0 = (none) ∧ S1 = ((F_X4_takeNothing o I J).1, (F_X4_takeNothing o I J).2, none)
theorem cs_X4_takeNothing (o : Nat) (I : kI) (J : kJ) : sp_X4_takeNothing [kx_r 4 o] (I, J, none) (none) ((F_X4_takeNothing o I J).1, (F_X4_takeNothing o I J).2, none) := ⟨o, I, J, rfl, rfl, rfl, rfl⟩
noncomputable def F_X4_takeShip (o : Nat) (a0 : Int32) (I : kI) (J : kJ) : kI × kJ := ((kw (kw I 4 o 2 ((10 : Int32) + a0)) 4 o 1 (0 : Int32)), J)
def sp_X4_takeShip : kx_Sp := fun av0 S0 r0 S1 => ∃ (o : Nat) (a0 : Int32) (I : kI) (J : kJ), av0 = [kx_r 4 o, kx_i a0] ∧ S0 = (I, J, none) ∧ r0 = (none) ∧ S1 = ((F_X4_takeShip o a0 I J).1, (F_X4_takeShip o a0 I J).2, none)
theorem cs_X4_takeShip (o : Nat) (a0 : Int32) (I : kI) (J : kJ) : sp_X4_takeShip [kx_r 4 o, kx_i a0] (I, J, none) (none) ((F_X4_takeShip o a0 I J).1, (F_X4_takeShip o a0 I J).2, none) := ⟨o, a0, I, J, rfl, rfl, rfl, rfl⟩
noncomputable def F_X4_hasElement (o : Nat) (a0 : Int32) (I : kI) (J : kJ) : Int32 := (F_X10_isWithin a0 (0 : Int32) ((I 4 o 1) - (1 : Int32)) I J)
def pre_X4_hasElement (o : Nat) (a0 : Int32) (I : kI) (J : kJ) : Prop := ((F_X10_isWithin a0 (0 : Int32) ((I 4 o 1) - (1 : Int32)) I J) = 0 ∨ (F_X10_isWithin a0 (0 : Int32) ((I 4 o 1) - (1 : Int32)) I J) = 1)
def sp_X4_hasElement : kx_Sp := fun av0 S0 r0 S1 => ∃ (o : Nat) (a0 : Int32) (I : kI) (J : kJ) (hp : pre_X4_hasElement o a0 I J), av0 = [kx_r 4 o, kx_i a0] ∧ S0 = (I, J, none) ∧ r0 = (some (kx_i (F_X4_hasElement o a0 I J))) ∧ S1 = (I, J, none)
theorem cs_X4_hasElement (o : Nat) (a0 : Int32) (I : kI) (J : kJ) (hp : pre_X4_hasElement o a0 I J) : sp_X4_hasElement [kx_r 4 o, kx_i a0] (I, J, none) (some (kx_i (F_X4_hasElement o a0 I J))) (I, J, none) := ⟨o, a0, I, J, hp, rfl, rfl, rfl, rfl⟩
noncomputable def F_X4_hasElements (o : Nat) (a0 : Int32) (a1 : Int32) (I : kI) (J : kJ) : Int32 := (kif (a1 < 0) (0 : Int32) (kif ((F_X10_isWithin a0 (0 : Int32) (I 4 o 1) I J) = 0) (0 : Int32) (kif (((I 4 o 1) - a0) < a1) (0 : Int32) (1 : Int32))))
def sp_X4_hasElements : kx_Sp := fun av0 S0 r0 S1 => ∃ (o : Nat) (a0 : Int32) (a1 : Int32) (I : kI) (J : kJ), av0 = [kx_r 4 o, kx_i a0, kx_i a1] ∧ S0 = (I, J, none) ∧ r0 = (some (kx_i (F_X4_hasElements o a0 a1 I J))) ∧ S1 = (I, J, none)
theorem cs_X4_hasElements (o : Nat) (a0 : Int32) (a1 : Int32) (I : kI) (J : kJ) : sp_X4_hasElements [kx_r 4 o, kx_i a0, kx_i a1] (I, J, none) (some (kx_i (F_X4_hasElements o a0 a1 I J))) (I, J, none) := ⟨o, a0, a1, I, J, rfl, rfl, rfl, rfl⟩
noncomputable def F_X4_valueAt (o : Nat) (a0 : Int32) (I : kI) (J : kJ) : Int64 := (kif ((F_X4_hasElement o a0 I J) = 0) (0 : Int64) (J 34 o (a0).toNatClampNeg))
def pre_X4_valueAt (o : Nat) (a0 : Int32) (I : kI) (J : kJ) : Prop := (pre_X4_hasElement o a0 I J ∧ (kif ((F_X4_hasElement o a0 I J) = 0) True (vp_in a0 40 ∧ True)))
def sp_X4_valueAt : kx_Sp := fun av0 S0 r0 S1 => ∃ (o : Nat) (a0 : Int32) (I : kI) (J : kJ) (hp : pre_X4_valueAt o a0 I J), av0 = [kx_r 4 o, kx_i a0] ∧ S0 = (I, J, none) ∧ r0 = (some (kx_l (F_X4_valueAt o a0 I J))) ∧ S1 = (I, J, none)
theorem cs_X4_valueAt (o : Nat) (a0 : Int32) (I : kI) (J : kJ) (hp : pre_X4_valueAt o a0 I J) : sp_X4_valueAt [kx_r 4 o, kx_i a0] (I, J, none) (some (kx_l (F_X4_valueAt o a0 I J))) (I, J, none) := ⟨o, a0, I, J, hp, rfl, rfl, rfl, rfl⟩
noncomputable def F_X4_fitted (o : Nat) (a0 : Int64) (I : kI) (J : kJ) : Int64 := (kif ((I 4 o 2) = (0)) (Int32.toInt64 (Int8.toInt32 (Int32.toInt8 (Int64.toInt32 a0)))) (kif ((I 4 o 2) = (1)) (Int32.toInt64 (Int16.toInt32 (Int32.toInt16 (Int64.toInt32 a0)))) (kif ((I 4 o 2) = (2)) (Int32.toInt64 (Int64.toInt32 a0)) (kif ((I 4 o 2) = (3)) a0 (kif ((I 4 o 2) = (4)) (kif ((lg_cmp a0 (0 : Int64)) = 0) (0 : Int64) (1 : Int64)) a0)))))
def sp_X4_fitted : kx_Sp := fun av0 S0 r0 S1 => ∃ (o : Nat) (a0 : Int64) (I : kI) (J : kJ), av0 = [kx_r 4 o, kx_l a0] ∧ S0 = (I, J, none) ∧ r0 = (some (kx_l (F_X4_fitted o a0 I J))) ∧ S1 = (I, J, none)
theorem cs_X4_fitted (o : Nat) (a0 : Int64) (I : kI) (J : kJ) : sp_X4_fitted [kx_r 4 o, kx_l a0] (I, J, none) (some (kx_l (F_X4_fitted o a0 I J))) (I, J, none) := ⟨o, a0, I, J, rfl, rfl, rfl, rfl⟩
noncomputable def F_X4_put (o : Nat) (a0 : Int32) (a1 : Int64) (I : kI) (J : kJ) : kI × kJ := (kif ((F_X4_hasElement o a0 I J) = 0) (I, J) (I, (kwL J 34 o (a0).toNatClampNeg (F_X4_fitted o a1 I J))))
def pre_X4_put (o : Nat) (a0 : Int32) (a1 : Int64) (I : kI) (J : kJ) : Prop := (pre_X4_hasElement o a0 I J ∧ (kif ((F_X4_hasElement o a0 I J) = 0) True (vp_in a0 40 ∧ True)))
def sp_X4_put : kx_Sp := fun av0 S0 r0 S1 => ∃ (o : Nat) (a0 : Int32) (a1 : Int64) (I : kI) (J : kJ) (hp : pre_X4_put o a0 a1 I J), av0 = [kx_r 4 o, kx_i a0, kx_l a1] ∧ S0 = (I, J, none) ∧ r0 = (none) ∧ S1 = ((F_X4_put o a0 a1 I J).1, (F_X4_put o a0 a1 I J).2, none)
theorem cs_X4_put (o : Nat) (a0 : Int32) (a1 : Int64) (I : kI) (J : kJ) (hp : pre_X4_put o a0 a1 I J) : sp_X4_put [kx_r 4 o, kx_i a0, kx_l a1] (I, J, none) (none) ((F_X4_put o a0 a1 I J).1, (F_X4_put o a0 a1 I J).2, none) := ⟨o, a0, a1, I, J, hp, rfl, rfl, rfl, rfl⟩
noncomputable def F_X4_takeElements (o : Nat) (a0 : Int32) (o1 : Nat) (a2 : Int32) (a3 : Int32) (I : kI) (J : kJ) : kI × kJ := (kif ((F_X4_hasElements o a0 a3 I J) = 0) (I, J) (kif ((F_X4_hasElements o1 a2 a3 I J) = 0) (I, J) (I, (kcL J 34 o1 34 o (a2).toNatClampNeg (a0).toNatClampNeg (a3).toNatClampNeg))))
def pre_X4_takeElements (o : Nat) (a0 : Int32) (o1 : Nat) (a2 : Int32) (a3 : Int32) (I : kI) (J : kJ) : Prop := (kif ((F_X4_hasElements o a0 a3 I J) = 0) True (kif ((F_X4_hasElements o1 a2 a3 I J) = 0) True ((¬ a2 < 0 ∧ ¬ a0 < 0 ∧ ¬ a3 < 0 ∧ (a2).toNatClampNeg + (a3).toNatClampNeg ≤ 40 ∧ (a0).toNatClampNeg + (a3).toNatClampNeg ≤ 40) ∧ True)))
def sp_X4_takeElements : kx_Sp := fun av0 S0 r0 S1 => ∃ (o : Nat) (a0 : Int32) (o1 : Nat) (a2 : Int32) (a3 : Int32) (I : kI) (J : kJ) (hp : pre_X4_takeElements o a0 o1 a2 a3 I J), av0 = [kx_r 4 o, kx_i a0, kx_r 4 o1, kx_i a2, kx_i a3] ∧ S0 = (I, J, none) ∧ r0 = (none) ∧ S1 = ((F_X4_takeElements o a0 o1 a2 a3 I J).1, (F_X4_takeElements o a0 o1 a2 a3 I J).2, none)
theorem cs_X4_takeElements (o : Nat) (a0 : Int32) (o1 : Nat) (a2 : Int32) (a3 : Int32) (I : kI) (J : kJ) (hp : pre_X4_takeElements o a0 o1 a2 a3 I J) : sp_X4_takeElements [kx_r 4 o, kx_i a0, kx_r 4 o1, kx_i a2, kx_i a3] (I, J, none) (none) ((F_X4_takeElements o a0 o1 a2 a3 I J).1, (F_X4_takeElements o a0 o1 a2 a3 I J).2, none) := ⟨o, a0, o1, a2, a3, I, J, hp, rfl, rfl, rfl, rfl⟩
noncomputable def F_X5_isFull (o : Nat) (I : kI) (J : kJ) : Int32 := (kif ((I 5 o 2) < (20 : Int32)) (0 : Int32) (1 : Int32))
set_option maxRecDepth 100000 in
set_option maxHeartbeats 2000000 in
theorem cs_X5_isFull (o : Nat) (I : kI) (J : kJ) : sp_X5_isFull [kx_r 5 o] (I, J, none) (some (kx_i (F_X5_isFull o I J))) (I, J, none) := by
  refine kx_start [] 10 ?_
  refine ⟨fun h1 => ?_, fun h1 => ?_⟩
  · replace h1 : (I 5 o 2) < (20 : Int32) := h1
    have e9 : F_X5_isFull o I J = (0 : Int32) := by unfold F_X5_isFull; rw [kif_pos h1]
    rw [e9]; exact ⟨(by decide), rfl, rfl⟩
  · replace h1 : ¬ (I 5 o 2) < (20 : Int32) := h1
    have e9 : F_X5_isFull o I J = (1 : Int32) := by unfold F_X5_isFull; rw [kif_neg h1]
    rw [e9]; exact ⟨(by decide), rfl, rfl⟩
noncomputable def F_X5_clear (o : Nat) (I : kI) (J : kJ) : kI × kJ := ((kw (kw I 5 o 2 (0 : Int32)) 5 o 3 (0 : Int32)), J)
set_option maxRecDepth 100000 in
set_option maxHeartbeats 2000000 in
theorem cs_X5_clear (o : Nat) (I : kI) (J : kJ) : sp_X5_clear [kx_r 5 o] (I, J, none) (none) ((F_X5_clear o I J).1, (F_X5_clear o I J).2, none) := by
  refine kx_start [] 9 ?_
  have e9 : F_X5_clear o I J = ((kw (kw I 5 o 2 (0 : Int32)) 5 o 3 (0 : Int32)), J) := by unfold F_X5_clear; rfl
  rw [e9]; exact ⟨rfl, rfl⟩
noncomputable def F_X5_append (o : Nat) (a0 : Int32) (a1 : Int32) (I : kI) (J : kJ) : kI × kJ := (kif ((F_X5_isFull o I J) = 0) ((kw (kw (kw (kw I 35 o ((I 5 o 2)).toNatClampNeg a0) 36 o (((kw I 35 o ((I 5 o 2)).toNatClampNeg a0) 5 o 2)).toNatClampNeg a1) 5 o 2 (((kw (kw I 35 o ((I 5 o 2)).toNatClampNeg a0) 36 o (((kw I 35 o ((I 5 o 2)).toNatClampNeg a0) 5 o 2)).toNatClampNeg a1) 5 o 2) + (1 : Int32))) 5 o 3 (((kw (kw (kw I 35 o ((I 5 o 2)).toNatClampNeg a0) 36 o (((kw I 35 o ((I 5 o 2)).toNatClampNeg a0) 5 o 2)).toNatClampNeg a1) 5 o 2 (((kw (kw I 35 o ((I 5 o 2)).toNatClampNeg a0) 36 o (((kw I 35 o ((I 5 o 2)).toNatClampNeg a0) 5 o 2)).toNatClampNeg a1) 5 o 2) + (1 : Int32))) 5 o 3) + a1)), J) (I, J))
def pre_X5_append (o : Nat) (a0 : Int32) (a1 : Int32) (I : kI) (J : kJ) : Prop := (kif ((F_X5_isFull o I J) = 0) (vp_in (I 5 o 2) 20 ∧ (vp_in ((kw I 35 o ((I 5 o 2)).toNatClampNeg a0) 5 o 2) 20 ∧ True)) True)
set_option maxRecDepth 100000 in
set_option maxHeartbeats 2000000 in
theorem cs_X5_append (o : Nat) (a0 : Int32) (a1 : Int32) (I : kI) (J : kJ) (hp : pre_X5_append o a0 a1 I J) : sp_X5_append [kx_r 5 o, kx_i a0, kx_i a1] (I, J, none) (none) ((F_X5_append o a0 a1 I J).1, (F_X5_append o a0 a1 I J).2, none) := by
  refine kx_start [] 30 ?_
  unfold pre_X5_append at hp
  refine ⟨_, _, cs_X5_isFull o I J, rfl, ?_⟩
  refine ⟨fun h1 => ?_, fun h1 => ?_⟩
  · replace h1 : ¬ (F_X5_isFull o I J) = 0 := h1
    rw [kif_neg h1] at hp
    have e9 : F_X5_append o a0 a1 I J = (I, J) := by unfold F_X5_append; rw [kif_neg h1]
    rw [e9]; exact ⟨rfl, rfl⟩
  · replace h1 : (F_X5_isFull o I J) = 0 := h1
    rw [kif_pos h1] at hp
    obtain ⟨hq, hp⟩ := hp
    refine ⟨hq, ?_⟩
    obtain ⟨hq, hp⟩ := hp
    refine ⟨hq, ?_⟩
    have e9 : F_X5_append o a0 a1 I J = ((kw (kw (kw (kw I 35 o ((I 5 o 2)).toNatClampNeg a0) 36 o (((kw I 35 o ((I 5 o 2)).toNatClampNeg a0) 5 o 2)).toNatClampNeg a1) 5 o 2 (((kw (kw I 35 o ((I 5 o 2)).toNatClampNeg a0) 36 o (((kw I 35 o ((I 5 o 2)).toNatClampNeg a0) 5 o 2)).toNatClampNeg a1) 5 o 2) + (1 : Int32))) 5 o 3 (((kw (kw (kw I 35 o ((I 5 o 2)).toNatClampNeg a0) 36 o (((kw I 35 o ((I 5 o 2)).toNatClampNeg a0) 5 o 2)).toNatClampNeg a1) 5 o 2 (((kw (kw I 35 o ((I 5 o 2)).toNatClampNeg a0) 36 o (((kw I 35 o ((I 5 o 2)).toNatClampNeg a0) 5 o 2)).toNatClampNeg a1) 5 o 2) + (1 : Int32))) 5 o 3) + a1)), J) := by unfold F_X5_append; rw [kif_pos h1]
    rw [e9]; exact ⟨rfl, rfl⟩
noncomputable def F_J9_floorMod_7cf53 (a0 : Int32) (a1 : Int32) (I : kI) (J : kJ) : Int32 := (kif (0 ≤ (a0 ^^^ a1)) (a0 - a0 / a1 * a1) (kif ((a0 - a0 / a1 * a1) = 0) (a0 - a0 / a1 * a1) ((a0 - a0 / a1 * a1) + a1)))
def pre_J9_floorMod_7cf53 (a0 : Int32) (a1 : Int32) (I : kI) (J : kJ) : Prop := (¬ a1 = 0 ∧ True)
set_option maxRecDepth 100000 in
set_option maxHeartbeats 2000000 in
theorem cs_J9_floorMod_7cf53 (a0 : Int32) (a1 : Int32) (I : kI) (J : kJ) (hp : pre_J9_floorMod_7cf53 a0 a1 I J) : sp_J9_floorMod_7cf53 [kx_i a0, kx_i a1] (I, J, none) (some (kx_i (F_J9_floorMod_7cf53 a0 a1 I J))) (I, J, none) := by
  refine kx_start [] 18 ?_
  unfold pre_J9_floorMod_7cf53 at hp
  obtain ⟨hq, hp⟩ := hp
  refine ⟨hq, ?_⟩
  refine ⟨fun h1 => ?_, fun h1 => ?_⟩
  · replace h1 : 0 ≤ (a0 ^^^ a1) := h1
    have e9 : F_J9_floorMod_7cf53 a0 a1 I J = (a0 - a0 / a1 * a1) := by unfold F_J9_floorMod_7cf53; rw [kif_pos h1]
    rw [e9]; exact ⟨rfl, rfl⟩
  · replace h1 : ¬ 0 ≤ (a0 ^^^ a1) := h1
    refine ⟨fun h2 => ?_, fun h2 => ?_⟩
    · replace h2 : (a0 - a0 / a1 * a1) = 0 := h2
      have e9 : F_J9_floorMod_7cf53 a0 a1 I J = (a0 - a0 / a1 * a1) := by unfold F_J9_floorMod_7cf53; rw [kif_neg h1, kif_pos h2]
      rw [e9]; exact ⟨rfl, rfl⟩
    · replace h2 : ¬ (a0 - a0 / a1 * a1) = 0 := h2
      have e9 : F_J9_floorMod_7cf53 a0 a1 I J = ((a0 - a0 / a1 * a1) + a1) := by unfold F_J9_floorMod_7cf53; rw [kif_neg h1, kif_neg h2]
      rw [e9]; exact ⟨rfl, rfl⟩
noncomputable def F_X5_become (o : Nat) (o0 : Nat) (I : kI) (J : kJ) : kI × kJ := ((kw (kw (kcI (kcI I 35 o0 35 o ((0 : Int32)).toNatClampNeg ((0 : Int32)).toNatClampNeg ((20 : Int32)).toNatClampNeg) 36 o0 36 o ((0 : Int32)).toNatClampNeg ((0 : Int32)).toNatClampNeg ((20 : Int32)).toNatClampNeg) 5 o 2 ((kcI (kcI I 35 o0 35 o ((0 : Int32)).toNatClampNeg ((0 : Int32)).toNatClampNeg ((20 : Int32)).toNatClampNeg) 36 o0 36 o ((0 : Int32)).toNatClampNeg ((0 : Int32)).toNatClampNeg ((20 : Int32)).toNatClampNeg) 5 o0 2)) 5 o 3 ((kw (kcI (kcI I 35 o0 35 o ((0 : Int32)).toNatClampNeg ((0 : Int32)).toNatClampNeg ((20 : Int32)).toNatClampNeg) 36 o0 36 o ((0 : Int32)).toNatClampNeg ((0 : Int32)).toNatClampNeg ((20 : Int32)).toNatClampNeg) 5 o 2 ((kcI (kcI I 35 o0 35 o ((0 : Int32)).toNatClampNeg ((0 : Int32)).toNatClampNeg ((20 : Int32)).toNatClampNeg) 36 o0 36 o ((0 : Int32)).toNatClampNeg ((0 : Int32)).toNatClampNeg ((20 : Int32)).toNatClampNeg) 5 o0 2)) 5 o0 3)), J)
def pre_X5_become (o : Nat) (o0 : Nat) (I : kI) (J : kJ) : Prop := ((¬ (0 : Int32) < 0 ∧ ¬ (0 : Int32) < 0 ∧ ¬ (20 : Int32) < 0 ∧ ((0 : Int32)).toNatClampNeg + ((20 : Int32)).toNatClampNeg ≤ 20 ∧ ((0 : Int32)).toNatClampNeg + ((20 : Int32)).toNatClampNeg ≤ 20) ∧ ((¬ (0 : Int32) < 0 ∧ ¬ (0 : Int32) < 0 ∧ ¬ (20 : Int32) < 0 ∧ ((0 : Int32)).toNatClampNeg + ((20 : Int32)).toNatClampNeg ≤ 20 ∧ ((0 : Int32)).toNatClampNeg + ((20 : Int32)).toNatClampNeg ≤ 20) ∧ True))
set_option maxRecDepth 100000 in
set_option maxHeartbeats 2000000 in
theorem cs_X5_become (o : Nat) (o0 : Nat) (I : kI) (J : kJ) (hp : pre_X5_become o o0 I J) : sp_X5_become [kx_r 5 o, kx_r 5 o0] (I, J, none) (none) ((F_X5_become o o0 I J).1, (F_X5_become o o0 I J).2, none) := by
  refine kx_start [] 27 ?_
  unfold pre_X5_become at hp
  obtain ⟨hq, hp⟩ := hp
  refine ⟨hq.1, hq.2.1, hq.2.2.1, hq.2.2.2.1, hq.2.2.2.2, ?_⟩
  obtain ⟨hq, hp⟩ := hp
  refine ⟨hq.1, hq.2.1, hq.2.2.1, hq.2.2.2.1, hq.2.2.2.2, ?_⟩
  have e9 : F_X5_become o o0 I J = ((kw (kw (kcI (kcI I 35 o0 35 o ((0 : Int32)).toNatClampNeg ((0 : Int32)).toNatClampNeg ((20 : Int32)).toNatClampNeg) 36 o0 36 o ((0 : Int32)).toNatClampNeg ((0 : Int32)).toNatClampNeg ((20 : Int32)).toNatClampNeg) 5 o 2 ((kcI (kcI I 35 o0 35 o ((0 : Int32)).toNatClampNeg ((0 : Int32)).toNatClampNeg ((20 : Int32)).toNatClampNeg) 36 o0 36 o ((0 : Int32)).toNatClampNeg ((0 : Int32)).toNatClampNeg ((20 : Int32)).toNatClampNeg) 5 o0 2)) 5 o 3 ((kw (kcI (kcI I 35 o0 35 o ((0 : Int32)).toNatClampNeg ((0 : Int32)).toNatClampNeg ((20 : Int32)).toNatClampNeg) 36 o0 36 o ((0 : Int32)).toNatClampNeg ((0 : Int32)).toNatClampNeg ((20 : Int32)).toNatClampNeg) 5 o 2 ((kcI (kcI I 35 o0 35 o ((0 : Int32)).toNatClampNeg ((0 : Int32)).toNatClampNeg ((20 : Int32)).toNatClampNeg) 36 o0 36 o ((0 : Int32)).toNatClampNeg ((0 : Int32)).toNatClampNeg ((20 : Int32)).toNatClampNeg) 5 o0 2)) 5 o0 3)), J) := by unfold F_X5_become; rfl
  rw [e9]; exact ⟨rfl, rfl⟩
noncomputable def F_X6_isDarkAt (o : Nat) (a0 : Int32) (I : kI) (J : kJ) : Int32 := (kif ((F_J9_floorMod_7cf53 a0 (24 : Int32) I J) < (I 6 o 5)) (1 : Int32) (kif ((F_J9_floorMod_7cf53 a0 (24 : Int32) I J) < (I 6 o 6)) (0 : Int32) (1 : Int32)))
def pre_X6_isDarkAt (o : Nat) (a0 : Int32) (I : kI) (J : kJ) : Prop := (pre_J9_floorMod_7cf53 a0 (24 : Int32) I J ∧ True)
set_option maxRecDepth 100000 in
set_option maxHeartbeats 2000000 in
theorem cs_X6_isDarkAt (o : Nat) (a0 : Int32) (I : kI) (J : kJ) (hp : pre_X6_isDarkAt o a0 I J) : sp_X6_isDarkAt [kx_r 6 o, kx_i a0] (I, J, none) (some (kx_i (F_X6_isDarkAt o a0 I J))) (I, J, none) := by
  refine kx_start [] 18 ?_
  unfold pre_X6_isDarkAt at hp
  obtain ⟨hq, hp⟩ := hp
  refine ⟨_, _, cs_J9_floorMod_7cf53 a0 (24 : Int32) I J hq, rfl, ?_⟩
  refine ⟨fun h1 => ?_, fun h1 => ?_⟩
  · replace h1 : (F_J9_floorMod_7cf53 a0 (24 : Int32) I J) < (I 6 o 5) := h1
    have e9 : F_X6_isDarkAt o a0 I J = (1 : Int32) := by unfold F_X6_isDarkAt; rw [kif_pos h1]
    rw [e9]; exact ⟨(by decide), rfl, rfl⟩
  · replace h1 : ¬ (F_J9_floorMod_7cf53 a0 (24 : Int32) I J) < (I 6 o 5) := h1
    refine ⟨fun h2 => ?_, fun h2 => ?_⟩
    · replace h2 : (F_J9_floorMod_7cf53 a0 (24 : Int32) I J) < (I 6 o 6) := h2
      have e9 : F_X6_isDarkAt o a0 I J = (0 : Int32) := by unfold F_X6_isDarkAt; rw [kif_neg h1, kif_pos h2]
      rw [e9]; exact ⟨(by decide), rfl, rfl⟩
    · replace h2 : ¬ (F_J9_floorMod_7cf53 a0 (24 : Int32) I J) < (I 6 o 6) := h2
      have e9 : F_X6_isDarkAt o a0 I J = (1 : Int32) := by unfold F_X6_isDarkAt; rw [kif_neg h1, kif_neg h2]
      rw [e9]; exact ⟨(by decide), rfl, rfl⟩
noncomputable def F_X10_isHourOfDay (a0 : Int32) (I : kI) (J : kJ) : Int32 := (F_X10_isWithin a0 (0 : Int32) (23 : Int32) I J)
def pre_X10_isHourOfDay (a0 : Int32) (I : kI) (J : kJ) : Prop := ((F_X10_isWithin a0 (0 : Int32) (23 : Int32) I J) = 0 ∨ (F_X10_isWithin a0 (0 : Int32) (23 : Int32) I J) = 1)
set_option maxRecDepth 100000 in
set_option maxHeartbeats 2000000 in
theorem cs_X10_isHourOfDay (a0 : Int32) (I : kI) (J : kJ) (hp : pre_X10_isHourOfDay a0 I J) : sp_X10_isHourOfDay [kx_i a0] (I, J, none) (some (kx_i (F_X10_isHourOfDay a0 I J))) (I, J, none) := by
  refine kx_start [] 7 ?_
  unfold pre_X10_isHourOfDay at hp
  refine ⟨_, _, cs_X10_isWithin a0 (0 : Int32) (23 : Int32) I J, rfl, ?_⟩
  have e9 : F_X10_isHourOfDay a0 I J = (F_X10_isWithin a0 (0 : Int32) (23 : Int32) I J) := by unfold F_X10_isHourOfDay; rfl
  rw [e9]; exact ⟨hp, rfl, rfl⟩
noncomputable def F_X6_planned (o : Nat) (a0 : Int32) (I : kI) (J : kJ) : Int32 := (kif ((F_X10_isHourOfDay a0 I J) = 0) (-1 : Int32) (I 37 o (a0).toNatClampNeg))
def pre_X6_planned (o : Nat) (a0 : Int32) (I : kI) (J : kJ) : Prop := (pre_X10_isHourOfDay a0 I J ∧ (kif ((F_X10_isHourOfDay a0 I J) = 0) True (vp_in a0 24 ∧ True)))
set_option maxRecDepth 100000 in
set_option maxHeartbeats 2000000 in
theorem cs_X6_planned (o : Nat) (a0 : Int32) (I : kI) (J : kJ) (hp : pre_X6_planned o a0 I J) : sp_X6_planned [kx_r 6 o, kx_i a0] (I, J, none) (some (kx_i (F_X6_planned o a0 I J))) (I, J, none) := by
  refine kx_start [] 12 ?_
  unfold pre_X6_planned at hp
  obtain ⟨hq, hp⟩ := hp
  refine ⟨_, _, cs_X10_isHourOfDay a0 I J hq, rfl, ?_⟩
  refine ⟨fun h1 => ?_, fun h1 => ?_⟩
  · replace h1 : (F_X10_isHourOfDay a0 I J) = 0 := h1
    rw [kif_pos h1] at hp
    have e9 : F_X6_planned o a0 I J = (-1 : Int32) := by unfold F_X6_planned; rw [kif_pos h1]
    rw [e9]; exact ⟨rfl, rfl⟩
  · replace h1 : ¬ (F_X10_isHourOfDay a0 I J) = 0 := h1
    rw [kif_neg h1] at hp
    obtain ⟨hq, hp⟩ := hp
    refine ⟨hq, ?_⟩
    have e9 : F_X6_planned o a0 I J = (I 37 o (a0).toNatClampNeg) := by unfold F_X6_planned; rw [kif_neg h1]
    rw [e9]; exact ⟨rfl, rfl⟩
noncomputable def F_X6_assign (o : Nat) (a0 : Int32) (a1 : Int32) (I : kI) (J : kJ) : kI × kJ := (kif ((F_X10_isHourOfDay a0 I J) = 0) (I, J) ((kw I 37 o (a0).toNatClampNeg a1), J))
def pre_X6_assign (o : Nat) (a0 : Int32) (a1 : Int32) (I : kI) (J : kJ) : Prop := (pre_X10_isHourOfDay a0 I J ∧ (kif ((F_X10_isHourOfDay a0 I J) = 0) True (vp_in a0 24 ∧ True)))
set_option maxRecDepth 100000 in
set_option maxHeartbeats 2000000 in
theorem cs_X6_assign (o : Nat) (a0 : Int32) (a1 : Int32) (I : kI) (J : kJ) (hp : pre_X6_assign o a0 a1 I J) : sp_X6_assign [kx_r 6 o, kx_i a0, kx_i a1] (I, J, none) (none) ((F_X6_assign o a0 a1 I J).1, (F_X6_assign o a0 a1 I J).2, none) := by
  refine kx_start [] 11 ?_
  unfold pre_X6_assign at hp
  obtain ⟨hq, hp⟩ := hp
  refine ⟨_, _, cs_X10_isHourOfDay a0 I J hq, rfl, ?_⟩
  refine ⟨fun h1 => ?_, fun h1 => ?_⟩
  · replace h1 : (F_X10_isHourOfDay a0 I J) = 0 := h1
    rw [kif_pos h1] at hp
    have e9 : F_X6_assign o a0 a1 I J = (I, J) := by unfold F_X6_assign; rw [kif_pos h1]
    rw [e9]; exact ⟨rfl, rfl⟩
  · replace h1 : ¬ (F_X10_isHourOfDay a0 I J) = 0 := h1
    rw [kif_neg h1] at hp
    obtain ⟨hq, hp⟩ := hp
    refine ⟨hq, ?_⟩
    have e9 : F_X6_assign o a0 a1 I J = ((kw I 37 o (a0).toNatClampNeg a1), J) := by unfold F_X6_assign; rw [kif_neg h1]
    rw [e9]; exact ⟨rfl, rfl⟩
noncomputable def F_X6_isUnlit (o : Nat) (I : kI) (J : kJ) : Int32 := (kif ((I 6 o 13) = 0) (0 : Int32) (kif ((I 6 o 10) = 0) (1 : Int32) (0 : Int32)))
set_option maxRecDepth 100000 in
set_option maxHeartbeats 2000000 in
theorem cs_X6_isUnlit (o : Nat) (I : kI) (J : kJ) : sp_X6_isUnlit [kx_r 6 o] (I, J, none) (some (kx_i (F_X6_isUnlit o I J))) (I, J, none) := by
  refine kx_start [] 12 ?_
  refine ⟨fun h1 => ?_, fun h1 => ?_⟩
  · replace h1 : (I 6 o 13) = 0 := h1
    have e9 : F_X6_isUnlit o I J = (0 : Int32) := by unfold F_X6_isUnlit; rw [kif_pos h1]
    rw [e9]; exact ⟨(by decide), rfl, rfl⟩
  · replace h1 : ¬ (I 6 o 13) = 0 := h1
    refine ⟨fun h2 => ?_, fun h2 => ?_⟩
    · replace h2 : ¬ (I 6 o 10) = 0 := h2
      have e9 : F_X6_isUnlit o I J = (0 : Int32) := by unfold F_X6_isUnlit; rw [kif_neg h1, kif_neg h2]
      rw [e9]; exact ⟨(by decide), rfl, rfl⟩
    · replace h2 : (I 6 o 10) = 0 := h2
      have e9 : F_X6_isUnlit o I J = (1 : Int32) := by unfold F_X6_isUnlit; rw [kif_neg h1, kif_pos h2]
      rw [e9]; exact ⟨(by decide), rfl, rfl⟩
noncomputable def F_X6_isAsleepOnWatch (o : Nat) (I : kI) (J : kJ) : Int32 := (kif ((F_X1_has o (I 6 o 14) I J) = 0) (0 : Int32) (kif ((I 6 o 15) = 0) (1 : Int32) (0 : Int32)))
set_option maxRecDepth 100000 in
set_option maxHeartbeats 2000000 in
theorem cs_X6_isAsleepOnWatch (o : Nat) (I : kI) (J : kJ) : sp_X6_isAsleepOnWatch [kx_r 6 o] (I, J, none) (some (kx_i (F_X6_isAsleepOnWatch o I J))) (I, J, none) := by
  refine kx_start [] 15 ?_
  refine ⟨_, _, cs_X1_has o (I 6 o 14) I J, rfl, ?_⟩
  refine ⟨fun h1 => ?_, fun h1 => ?_⟩
  · replace h1 : (F_X1_has o (I 6 o 14) I J) = 0 := h1
    have e9 : F_X6_isAsleepOnWatch o I J = (0 : Int32) := by unfold F_X6_isAsleepOnWatch; rw [kif_pos h1]
    rw [e9]; exact ⟨(by decide), rfl, rfl⟩
  · replace h1 : ¬ (F_X1_has o (I 6 o 14) I J) = 0 := h1
    refine ⟨fun h2 => ?_, fun h2 => ?_⟩
    · replace h2 : ¬ (I 6 o 15) = 0 := h2
      have e9 : F_X6_isAsleepOnWatch o I J = (0 : Int32) := by unfold F_X6_isAsleepOnWatch; rw [kif_neg h1, kif_neg h2]
      rw [e9]; exact ⟨(by decide), rfl, rfl⟩
    · replace h2 : (I 6 o 15) = 0 := h2
      have e9 : F_X6_isAsleepOnWatch o I J = (1 : Int32) := by unfold F_X6_isAsleepOnWatch; rw [kif_neg h1, kif_pos h2]
      rw [e9]; exact ⟨(by decide), rfl, rfl⟩
noncomputable def F_X6_isBoyAsleepOnWatch (o : Nat) (I : kI) (J : kJ) : Int32 := (kif ((F_X6_isAsleepOnWatch o I J) = 0) (0 : Int32) (kif ((F_X1_rankOf o (I 6 o 14) I J) = (2 : Int32)) (1 : Int32) (0 : Int32)))
def pre_X6_isBoyAsleepOnWatch (o : Nat) (I : kI) (J : kJ) : Prop := (kif ((F_X6_isAsleepOnWatch o I J) = 0) True (pre_X1_rankOf o (I 6 o 14) I J ∧ True))
set_option maxRecDepth 100000 in
set_option maxHeartbeats 2000000 in
theorem cs_X6_isBoyAsleepOnWatch (o : Nat) (I : kI) (J : kJ) (hp : pre_X6_isBoyAsleepOnWatch o I J) : sp_X6_isBoyAsleepOnWatch [kx_r 6 o] (I, J, none) (some (kx_i (F_X6_isBoyAsleepOnWatch o I J))) (I, J, none) := by
  refine kx_start [] 16 ?_
  unfold pre_X6_isBoyAsleepOnWatch at hp
  refine ⟨_, _, cs_X6_isAsleepOnWatch o I J, rfl, ?_⟩
  refine ⟨fun h1 => ?_, fun h1 => ?_⟩
  · replace h1 : (F_X6_isAsleepOnWatch o I J) = 0 := h1
    rw [kif_pos h1] at hp
    have e9 : F_X6_isBoyAsleepOnWatch o I J = (0 : Int32) := by unfold F_X6_isBoyAsleepOnWatch; rw [kif_pos h1]
    rw [e9]; exact ⟨(by decide), rfl, rfl⟩
  · replace h1 : ¬ (F_X6_isAsleepOnWatch o I J) = 0 := h1
    rw [kif_neg h1] at hp
    obtain ⟨hq, hp⟩ := hp
    refine ⟨_, _, cs_X1_rankOf o (I 6 o 14) I J hq, rfl, ?_⟩
    refine ⟨fun h2 => ?_, fun h2 => ?_⟩
    · replace h2 : ¬ (F_X1_rankOf o (I 6 o 14) I J) = (2 : Int32) := h2
      have e9 : F_X6_isBoyAsleepOnWatch o I J = (0 : Int32) := by unfold F_X6_isBoyAsleepOnWatch; rw [kif_neg h1, kif_neg h2]
      rw [e9]; exact ⟨(by decide), rfl, rfl⟩
    · replace h2 : (F_X1_rankOf o (I 6 o 14) I J) = (2 : Int32) := h2
      have e9 : F_X6_isBoyAsleepOnWatch o I J = (1 : Int32) := by unfold F_X6_isBoyAsleepOnWatch; rw [kif_neg h1, kif_pos h2]
      rw [e9]; exact ⟨(by decide), rfl, rfl⟩
noncomputable def F_X7_isFull (o : Nat) (I : kI) (J : kJ) : Int32 := (kif ((I 7 o 1) < (250 : Int32)) (0 : Int32) (1 : Int32))
set_option maxRecDepth 100000 in
set_option maxHeartbeats 2000000 in
theorem cs_X7_isFull (o : Nat) (I : kI) (J : kJ) : sp_X7_isFull [kx_r 7 o] (I, J, none) (some (kx_i (F_X7_isFull o I J))) (I, J, none) := by
  refine kx_start [] 10 ?_
  refine ⟨fun h1 => ?_, fun h1 => ?_⟩
  · replace h1 : (I 7 o 1) < (250 : Int32) := h1
    have e9 : F_X7_isFull o I J = (0 : Int32) := by unfold F_X7_isFull; rw [kif_pos h1]
    rw [e9]; exact ⟨(by decide), rfl, rfl⟩
  · replace h1 : ¬ (I 7 o 1) < (250 : Int32) := h1
    have e9 : F_X7_isFull o I J = (1 : Int32) := by unfold F_X7_isFull; rw [kif_neg h1]
    rw [e9]; exact ⟨(by decide), rfl, rfl⟩
noncomputable def F_X7_append (o : Nat) (a0 : Int32) (I : kI) (J : kJ) : kI × kJ := (kif ((F_X7_isFull o I J) = 0) ((kw (kw I 38 o ((I 7 o 1)).toNatClampNeg a0) 7 o 1 (((kw I 38 o ((I 7 o 1)).toNatClampNeg a0) 7 o 1) + (1 : Int32))), J) (I, J))
def pre_X7_append (o : Nat) (a0 : Int32) (I : kI) (J : kJ) : Prop := (kif ((F_X7_isFull o I J) = 0) (vp_in (I 7 o 1) 250 ∧ True) True)
set_option maxRecDepth 100000 in
set_option maxHeartbeats 2000000 in
theorem cs_X7_append (o : Nat) (a0 : Int32) (I : kI) (J : kJ) (hp : pre_X7_append o a0 I J) : sp_X7_append [kx_r 7 o, kx_i a0] (I, J, none) (none) ((F_X7_append o a0 I J).1, (F_X7_append o a0 I J).2, none) := by
  refine kx_start [] 18 ?_
  unfold pre_X7_append at hp
  refine ⟨_, _, cs_X7_isFull o I J, rfl, ?_⟩
  refine ⟨fun h1 => ?_, fun h1 => ?_⟩
  · replace h1 : ¬ (F_X7_isFull o I J) = 0 := h1
    rw [kif_neg h1] at hp
    have e9 : F_X7_append o a0 I J = (I, J) := by unfold F_X7_append; rw [kif_neg h1]
    rw [e9]; exact ⟨rfl, rfl⟩
  · replace h1 : (F_X7_isFull o I J) = 0 := h1
    rw [kif_pos h1] at hp
    obtain ⟨hq, hp⟩ := hp
    refine ⟨hq, ?_⟩
    have e9 : F_X7_append o a0 I J = ((kw (kw I 38 o ((I 7 o 1)).toNatClampNeg a0) 7 o 1 (((kw I 38 o ((I 7 o 1)).toNatClampNeg a0) 7 o 1) + (1 : Int32))), J) := by unfold F_X7_append; rw [kif_pos h1]
    rw [e9]; exact ⟨rfl, rfl⟩
noncomputable def F_X7_byteAt (o : Nat) (a0 : Int32) (I : kI) (J : kJ) : Int32 := (kif ((F_X10_isWithin a0 (0 : Int32) ((I 7 o 1) - (1 : Int32)) I J) = 0) (-1 : Int32) (I 38 o (a0).toNatClampNeg))
def pre_X7_byteAt (o : Nat) (a0 : Int32) (I : kI) (J : kJ) : Prop := (kif ((F_X10_isWithin a0 (0 : Int32) ((I 7 o 1) - (1 : Int32)) I J) = 0) True (vp_in a0 250 ∧ True))
set_option maxRecDepth 100000 in
set_option maxHeartbeats 2000000 in
theorem cs_X7_byteAt (o : Nat) (a0 : Int32) (I : kI) (J : kJ) (hp : pre_X7_byteAt o a0 I J) : sp_X7_byteAt [kx_r 7 o, kx_i a0] (I, J, none) (some (kx_i (F_X7_byteAt o a0 I J))) (I, J, none) := by
  refine kx_start [] 17 ?_
  unfold pre_X7_byteAt at hp
  refine ⟨_, _, cs_X10_isWithin a0 (0 : Int32) ((I 7 o 1) - (1 : Int32)) I J, rfl, ?_⟩
  refine ⟨fun h1 => ?_, fun h1 => ?_⟩
  · replace h1 : (F_X10_isWithin a0 (0 : Int32) ((I 7 o 1) - (1 : Int32)) I J) = 0 := h1
    rw [kif_pos h1] at hp
    have e9 : F_X7_byteAt o a0 I J = (-1 : Int32) := by unfold F_X7_byteAt; rw [kif_pos h1]
    rw [e9]; exact ⟨rfl, rfl⟩
  · replace h1 : ¬ (F_X10_isWithin a0 (0 : Int32) ((I 7 o 1) - (1 : Int32)) I J) = 0 := h1
    rw [kif_neg h1] at hp
    obtain ⟨hq, hp⟩ := hp
    refine ⟨hq, ?_⟩
    have e9 : F_X7_byteAt o a0 I J = (I 38 o (a0).toNatClampNeg) := by unfold F_X7_byteAt; rw [kif_neg h1]
    rw [e9]; exact ⟨rfl, rfl⟩
noncomputable def F_X7_weatherOf (a0 : Int32) (I : kI) (J : kJ) : Int32 := (kif (a0 = (99)) (0 : Int32) (kif (a0 = (102)) (1 : Int32) (kif (a0 = (115)) (2 : Int32) (-1 : Int32))))
set_option maxRecDepth 100000 in
set_option maxHeartbeats 2000000 in
theorem cs_X7_weatherOf (a0 : Int32) (I : kI) (J : kJ) : sp_X7_weatherOf [kx_i a0] (I, J, none) (some (kx_i (F_X7_weatherOf a0 I J))) (I, J, none) := by
  refine kx_start [] 12 ?_
  refine ⟨fun h1 => ?_, fun h1 => ?_⟩
  · replace h1 : a0 = (99) := h1
    have e9 : F_X7_weatherOf a0 I J = (0 : Int32) := by unfold F_X7_weatherOf; rw [kif_pos h1]
    rw [e9]; exact ⟨rfl, rfl⟩
  · replace h1 : ¬ a0 = (99) := h1
    refine ⟨fun h2 => ?_, fun h2 => ?_⟩
    · replace h2 : a0 = (102) := h2
      have e9 : F_X7_weatherOf a0 I J = (1 : Int32) := by unfold F_X7_weatherOf; rw [kif_neg h1, kif_pos h2]
      rw [e9]; exact ⟨rfl, rfl⟩
    · replace h2 : ¬ a0 = (102) := h2
      refine ⟨fun h3 => ?_, fun h3 => ?_⟩
      · replace h3 : a0 = (115) := h3
        have e9 : F_X7_weatherOf a0 I J = (2 : Int32) := by unfold F_X7_weatherOf; rw [kif_neg h1, kif_neg h2, kif_pos h3]
        rw [e9]; exact ⟨rfl, rfl⟩
      · replace h3 : ¬ a0 = (115) := h3
        have e9 : F_X7_weatherOf a0 I J = (-1 : Int32) := by unfold F_X7_weatherOf; rw [kif_neg h1, kif_neg h2, kif_neg h3]
        rw [e9]; exact ⟨rfl, rfl⟩
noncomputable def F_X7_isDigit (a0 : Int32) (I : kI) (J : kJ) : Int32 := (F_X10_isWithin a0 (48 : Int32) (57 : Int32) I J)
def pre_X7_isDigit (a0 : Int32) (I : kI) (J : kJ) : Prop := ((F_X10_isWithin a0 (48 : Int32) (57 : Int32) I J) = 0 ∨ (F_X10_isWithin a0 (48 : Int32) (57 : Int32) I J) = 1)
set_option maxRecDepth 100000 in
set_option maxHeartbeats 2000000 in
theorem cs_X7_isDigit (a0 : Int32) (I : kI) (J : kJ) (hp : pre_X7_isDigit a0 I J) : sp_X7_isDigit [kx_i a0] (I, J, none) (some (kx_i (F_X7_isDigit a0 I J))) (I, J, none) := by
  refine kx_start [] 7 ?_
  unfold pre_X7_isDigit at hp
  refine ⟨_, _, cs_X10_isWithin a0 (48 : Int32) (57 : Int32) I J, rfl, ?_⟩
  have e9 : F_X7_isDigit a0 I J = (F_X10_isWithin a0 (48 : Int32) (57 : Int32) I J) := by unfold F_X7_isDigit; rfl
  rw [e9]; exact ⟨hp, rfl, rfl⟩
noncomputable def F_X9_enter (o : Nat) (a0 : Int32) (a1 : Int32) (I : kI) (J : kJ) : kI × kJ := ((F_X3_write o (I 6 o 4) a0 a1 (I 6 o 14) I J).1, (F_X3_write o (I 6 o 4) a0 a1 (I 6 o 14) I J).2)
def pre_X9_enter (o : Nat) (a0 : Int32) (a1 : Int32) (I : kI) (J : kJ) : Prop := (pre_X3_write o (I 6 o 4) a0 a1 (I 6 o 14) I J ∧ True)
set_option maxRecDepth 100000 in
set_option maxHeartbeats 2000000 in
theorem cs_X9_enter (o : Nat) (a0 : Int32) (a1 : Int32) (I : kI) (J : kJ) (hp : pre_X9_enter o a0 a1 I J) : sp_X9_enter [kx_r 9 o, kx_i a0, kx_i a1] (I, J, none) (none) ((F_X9_enter o a0 a1 I J).1, (F_X9_enter o a0 a1 I J).2, none) := by
  refine kx_start [] 14 ?_
  unfold pre_X9_enter at hp
  obtain ⟨hq, hp⟩ := hp
  refine ⟨_, _, cs_X3_write o (I 6 o 4) a0 a1 (I 6 o 14) I J hq, rfl, ?_⟩
  have e9 : F_X9_enter o a0 a1 I J = ((F_X3_write o (I 6 o 4) a0 a1 (I 6 o 14) I J).1, (F_X3_write o (I 6 o 4) a0 a1 (I 6 o 14) I J).2) := by unfold F_X9_enter; rfl
  rw [e9]; exact ⟨rfl, rfl⟩
noncomputable def F_X9_draw (o : Nat) (a0 : Int32) (I : kI) (J : kJ) : Int32 × kI × kJ := (kif (a0 ≤ 0) ((0 : Int32), (kw I 9 o 5 (((I 9 o 5) * (1103515245 : Int32)) + (12345 : Int32))), J) ((((((kw I 9 o 5 (((I 9 o 5) * (1103515245 : Int32)) + (12345 : Int32))) 9 o 5)).toUInt32 >>> (((16 : Int32)).toUInt32 &&& Int32.toUInt32 31)).toInt32 - ((((kw I 9 o 5 (((I 9 o 5) * (1103515245 : Int32)) + (12345 : Int32))) 9 o 5)).toUInt32 >>> (((16 : Int32)).toUInt32 &&& Int32.toUInt32 31)).toInt32 / a0 * a0), (kw I 9 o 5 (((I 9 o 5) * (1103515245 : Int32)) + (12345 : Int32))), J))
def pre_X9_draw (o : Nat) (a0 : Int32) (I : kI) (J : kJ) : Prop := (kif (a0 ≤ 0) True (¬ a0 = 0 ∧ True))
def sp_X9_draw : kx_Sp := fun av0 S0 r0 S1 => ∃ (o : Nat) (a0 : Int32) (I : kI) (J : kJ) (hp : pre_X9_draw o a0 I J), av0 = [kx_r 9 o, kx_i a0] ∧ S0 = (I, J, none) ∧ r0 = (some (kx_i (F_X9_draw o a0 I J).1)) ∧ S1 = ((F_X9_draw o a0 I J).2.1, (F_X9_draw o a0 I J).2.2, none)
theorem cs_X9_draw (o : Nat) (a0 : Int32) (I : kI) (J : kJ) (hp : pre_X9_draw o a0 I J) : sp_X9_draw [kx_r 9 o, kx_i a0] (I, J, none) (some (kx_i (F_X9_draw o a0 I J).1)) ((F_X9_draw o a0 I J).2.1, (F_X9_draw o a0 I J).2.2, none) := ⟨o, a0, I, J, hp, rfl, rfl, rfl, rfl⟩
noncomputable def F_X10_refuse (a0 : Int32) (I : kI) (J : kJ) : Int32 × kI × kJ := (kif ((F_X10_isWithin ((-102 : Int32) - a0) (0 : Int32) (4 : Int32) I J) = 0) (a0, I, J) (a0, (kw I 40 0 (((-102 : Int32) - a0)).toNatClampNeg ((I 40 0 (((-102 : Int32) - a0)).toNatClampNeg) + (1 : Int32))), J))
def pre_X10_refuse (a0 : Int32) (I : kI) (J : kJ) : Prop := (kif ((F_X10_isWithin ((-102 : Int32) - a0) (0 : Int32) (4 : Int32) I J) = 0) True (vp_in ((-102 : Int32) - a0) 5 ∧ (vp_in ((-102 : Int32) - a0) 5 ∧ True)))
set_option maxRecDepth 100000 in
set_option maxHeartbeats 2000000 in
theorem cs_X10_refuse (a0 : Int32) (I : kI) (J : kJ) (hp : pre_X10_refuse a0 I J) : sp_X10_refuse [kx_r 10 0, kx_i a0] (I, J, none) (some (kx_i (F_X10_refuse a0 I J).1)) ((F_X10_refuse a0 I J).2.1, (F_X10_refuse a0 I J).2.2, none) := by
  refine kx_start [] 21 ?_
  unfold pre_X10_refuse at hp
  refine ⟨_, _, cs_X10_isWithin ((-102 : Int32) - a0) (0 : Int32) (4 : Int32) I J, rfl, ?_⟩
  refine ⟨fun h1 => ?_, fun h1 => ?_⟩
  · replace h1 : (F_X10_isWithin ((-102 : Int32) - a0) (0 : Int32) (4 : Int32) I J) = 0 := h1
    rw [kif_pos h1] at hp
    have e9 : F_X10_refuse a0 I J = (a0, I, J) := by unfold F_X10_refuse; rw [kif_pos h1]
    rw [e9]; exact ⟨rfl, rfl⟩
  · replace h1 : ¬ (F_X10_isWithin ((-102 : Int32) - a0) (0 : Int32) (4 : Int32) I J) = 0 := h1
    rw [kif_neg h1] at hp
    obtain ⟨hq, hp⟩ := hp
    refine ⟨hq, ?_⟩
    obtain ⟨hq, hp⟩ := hp
    refine ⟨hq, ?_⟩
    have e9 : F_X10_refuse a0 I J = (a0, (kw I 40 0 (((-102 : Int32) - a0)).toNatClampNeg ((I 40 0 (((-102 : Int32) - a0)).toNatClampNeg) + (1 : Int32))), J) := by unfold F_X10_refuse; rw [kif_neg h1]
    rw [e9]; exact ⟨rfl, rfl⟩
noncomputable def F_X10_isKind (a0 : Int32) (I : kI) (J : kJ) : Int32 := (F_X10_isWithin a0 (0 : Int32) (7 : Int32) I J)
def pre_X10_isKind (a0 : Int32) (I : kI) (J : kJ) : Prop := ((F_X10_isWithin a0 (0 : Int32) (7 : Int32) I J) = 0 ∨ (F_X10_isWithin a0 (0 : Int32) (7 : Int32) I J) = 1)
set_option maxRecDepth 100000 in
set_option maxHeartbeats 2000000 in
theorem cs_X10_isKind (a0 : Int32) (I : kI) (J : kJ) (hp : pre_X10_isKind a0 I J) : sp_X10_isKind [kx_i a0] (I, J, none) (some (kx_i (F_X10_isKind a0 I J))) (I, J, none) := by
  refine kx_start [] 7 ?_
  unfold pre_X10_isKind at hp
  refine ⟨_, _, cs_X10_isWithin a0 (0 : Int32) (7 : Int32) I J, rfl, ?_⟩
  have e9 : F_X10_isKind a0 I J = (F_X10_isWithin a0 (0 : Int32) (7 : Int32) I J) := by unfold F_X10_isKind; rfl
  rw [e9]; exact ⟨hp, rfl, rfl⟩
noncomputable def F_X10_feed (a0 : Int32) (I : kI) (J : kJ) : Int32 × kI × kJ := (kif ((F_X10_isWithin a0 (0 : Int32) (255 : Int32) I J) = 0) ((F_X10_refuse (-102 : Int32) I J).1, (F_X10_refuse (-102 : Int32) I J).2.1, (F_X10_refuse (-102 : Int32) I J).2.2) (kif ((F_X7_isFull 0 I J) = 0) (((F_X7_append 0 a0 I J).1 7 0 1), (F_X7_append 0 a0 I J).1, (F_X7_append 0 a0 I J).2) ((F_X10_refuse (-106 : Int32) I J).1, (F_X10_refuse (-106 : Int32) I J).2.1, (F_X10_refuse (-106 : Int32) I J).2.2)))
def pre_X10_feed (a0 : Int32) (I : kI) (J : kJ) : Prop := (kif ((F_X10_isWithin a0 (0 : Int32) (255 : Int32) I J) = 0) (pre_X10_refuse (-102 : Int32) I J ∧ True) (kif ((F_X7_isFull 0 I J) = 0) (pre_X7_append 0 a0 I J ∧ True) (pre_X10_refuse (-106 : Int32) I J ∧ True)))
set_option maxRecDepth 100000 in
set_option maxHeartbeats 2000000 in
theorem cs_X10_feed (a0 : Int32) (I : kI) (J : kJ) (hp : pre_X10_feed a0 I J) : sp_X10_feed [kx_r 10 0, kx_i a0] (I, J, none) (some (kx_i (F_X10_feed a0 I J).1)) ((F_X10_feed a0 I J).2.1, (F_X10_feed a0 I J).2.2, none) := by
  refine kx_start [] 27 ?_
  unfold pre_X10_feed at hp
  refine ⟨_, _, cs_X10_isWithin a0 (0 : Int32) (255 : Int32) I J, rfl, ?_⟩
  refine ⟨fun h1 => ?_, fun h1 => ?_⟩
  · replace h1 : ¬ (F_X10_isWithin a0 (0 : Int32) (255 : Int32) I J) = 0 := h1
    rw [kif_neg h1] at hp
    refine ⟨_, _, cs_X7_isFull 0 I J, rfl, ?_⟩
    refine ⟨fun h2 => ?_, fun h2 => ?_⟩
    · replace h2 : (F_X7_isFull 0 I J) = 0 := h2
      rw [kif_pos h2] at hp
      obtain ⟨hq, hp⟩ := hp
      refine ⟨_, _, cs_X7_append 0 a0 I J hq, rfl, ?_⟩
      have e9 : F_X10_feed a0 I J = (((F_X7_append 0 a0 I J).1 7 0 1), (F_X7_append 0 a0 I J).1, (F_X7_append 0 a0 I J).2) := by unfold F_X10_feed; rw [kif_neg h1, kif_pos h2]
      rw [e9]; exact ⟨rfl, rfl⟩
    · replace h2 : ¬ (F_X7_isFull 0 I J) = 0 := h2
      rw [kif_neg h2] at hp
      obtain ⟨hq, hp⟩ := hp
      refine ⟨_, _, cs_X10_refuse (-106 : Int32) I J hq, rfl, ?_⟩
      have e9 : F_X10_feed a0 I J = ((F_X10_refuse (-106 : Int32) I J).1, (F_X10_refuse (-106 : Int32) I J).2.1, (F_X10_refuse (-106 : Int32) I J).2.2) := by unfold F_X10_feed; rw [kif_neg h1, kif_neg h2]
      rw [e9]; exact ⟨rfl, rfl⟩
  · replace h1 : (F_X10_isWithin a0 (0 : Int32) (255 : Int32) I J) = 0 := h1
    rw [kif_pos h1] at hp
    obtain ⟨hq, hp⟩ := hp
    refine ⟨_, _, cs_X10_refuse (-102 : Int32) I J hq, rfl, ?_⟩
    have e9 : F_X10_feed a0 I J = ((F_X10_refuse (-102 : Int32) I J).1, (F_X10_refuse (-102 : Int32) I J).2.1, (F_X10_refuse (-102 : Int32) I J).2.2) := by unfold F_X10_feed; rw [kif_pos h1]
    rw [e9]; exact ⟨rfl, rfl⟩
noncomputable def F_X10_wipe  (I : kI) (J : kJ) : Int32 × kI × kJ := ((I 7 0 1), (kw I 7 0 1 (0 : Int32)), J)
def sp_X10_wipe : kx_Sp := fun av0 S0 r0 S1 => ∃ (I : kI) (J : kJ), av0 = [kx_r 10 0] ∧ S0 = (I, J, none) ∧ r0 = (some (kx_i (F_X10_wipe  I J).1)) ∧ S1 = ((F_X10_wipe  I J).2.1, (F_X10_wipe  I J).2.2, none)
theorem cs_X10_wipe  (I : kI) (J : kJ) : sp_X10_wipe [kx_r 10 0] (I, J, none) (some (kx_i (F_X10_wipe  I J).1)) ((F_X10_wipe  I J).2.1, (F_X10_wipe  I J).2.2, none) := ⟨I, J, rfl, rfl, rfl, rfl⟩
noncomputable def F_X10_dark (a0 : Int32) (I : kI) (J : kJ) : Int32 × kI × kJ := (kif (0 ≤ a0) (kif ((F_X6_isDarkAt 0 a0 I J) = 0) ((0 : Int32), I, J) ((1 : Int32), I, J)) ((F_X10_refuse (-102 : Int32) I J).1, (F_X10_refuse (-102 : Int32) I J).2.1, (F_X10_refuse (-102 : Int32) I J).2.2))
def pre_X10_dark (a0 : Int32) (I : kI) (J : kJ) : Prop := (kif (0 ≤ a0) (pre_X6_isDarkAt 0 a0 I J ∧ True) (pre_X10_refuse (-102 : Int32) I J ∧ True))
set_option maxRecDepth 100000 in
set_option maxHeartbeats 2000000 in
theorem cs_X10_dark (a0 : Int32) (I : kI) (J : kJ) (hp : pre_X10_dark a0 I J) : sp_X10_dark [kx_r 10 0, kx_i a0] (I, J, none) (some (kx_i (F_X10_dark a0 I J).1)) ((F_X10_dark a0 I J).2.1, (F_X10_dark a0 I J).2.2, none) := by
  refine kx_start [] 18 ?_
  unfold pre_X10_dark at hp
  refine ⟨fun h1 => ?_, fun h1 => ?_⟩
  · replace h1 : 0 ≤ a0 := h1
    rw [kif_pos h1] at hp
    obtain ⟨hq, hp⟩ := hp
    refine ⟨_, _, cs_X6_isDarkAt 0 a0 I J hq, rfl, ?_⟩
    refine ⟨fun h2 => ?_, fun h2 => ?_⟩
    · replace h2 : (F_X6_isDarkAt 0 a0 I J) = 0 := h2
      have e9 : F_X10_dark a0 I J = ((0 : Int32), I, J) := by unfold F_X10_dark; rw [kif_pos h1, kif_pos h2]
      rw [e9]; exact ⟨rfl, rfl⟩
    · replace h2 : ¬ (F_X6_isDarkAt 0 a0 I J) = 0 := h2
      have e9 : F_X10_dark a0 I J = ((1 : Int32), I, J) := by unfold F_X10_dark; rw [kif_pos h1, kif_neg h2]
      rw [e9]; exact ⟨rfl, rfl⟩
  · replace h1 : ¬ 0 ≤ a0 := h1
    rw [kif_neg h1] at hp
    obtain ⟨hq, hp⟩ := hp
    refine ⟨_, _, cs_X10_refuse (-102 : Int32) I J hq, rfl, ?_⟩
    have e9 : F_X10_dark a0 I J = ((F_X10_refuse (-102 : Int32) I J).1, (F_X10_refuse (-102 : Int32) I J).2.1, (F_X10_refuse (-102 : Int32) I J).2.2) := by unfold F_X10_dark; rw [kif_neg h1]
    rw [e9]; exact ⟨rfl, rfl⟩
noncomputable def F_X10_isKeeperOrNone (a0 : Int32) (I : kI) (J : kJ) : Int32 := (kif (a0 = (-1 : Int32)) (1 : Int32) (kif ((F_X1_has 0 a0 I J) = 0) (0 : Int32) (1 : Int32)))
set_option maxRecDepth 100000 in
set_option maxHeartbeats 2000000 in
theorem cs_X10_isKeeperOrNone (a0 : Int32) (I : kI) (J : kJ) : sp_X10_isKeeperOrNone [kx_r 10 0, kx_i a0] (I, J, none) (some (kx_i (F_X10_isKeeperOrNone a0 I J))) (I, J, none) := by
  refine kx_start [] 16 ?_
  refine ⟨fun h1 => ?_, fun h1 => ?_⟩
  · replace h1 : a0 = (-1 : Int32) := h1
    have e9 : F_X10_isKeeperOrNone a0 I J = (1 : Int32) := by unfold F_X10_isKeeperOrNone; rw [kif_pos h1]
    rw [e9]; exact ⟨(by decide), rfl, rfl⟩
  · replace h1 : ¬ a0 = (-1 : Int32) := h1
    refine ⟨_, _, cs_X1_has 0 a0 I J, rfl, ?_⟩
    refine ⟨fun h2 => ?_, fun h2 => ?_⟩
    · replace h2 : (F_X1_has 0 a0 I J) = 0 := h2
      have e9 : F_X10_isKeeperOrNone a0 I J = (0 : Int32) := by unfold F_X10_isKeeperOrNone; rw [kif_neg h1, kif_pos h2]
      rw [e9]; exact ⟨(by decide), rfl, rfl⟩
    · replace h2 : ¬ (F_X1_has 0 a0 I J) = 0 := h2
      have e9 : F_X10_isKeeperOrNone a0 I J = (1 : Int32) := by unfold F_X10_isKeeperOrNone; rw [kif_neg h1, kif_neg h2]
      rw [e9]; exact ⟨(by decide), rfl, rfl⟩
noncomputable def F_X10_plan (a0 : Int32) (a1 : Int32) (I : kI) (J : kJ) : Int32 × kI × kJ := (kif ((F_X10_isHourOfDay a0 I J) = 0) ((F_X10_refuse (-102 : Int32) I J).1, (F_X10_refuse (-102 : Int32) I J).2.1, (F_X10_refuse (-102 : Int32) I J).2.2) (kif ((F_X10_isKeeperOrNone a1 I J) = 0) ((F_X10_refuse (-102 : Int32) I J).1, (F_X10_refuse (-102 : Int32) I J).2.1, (F_X10_refuse (-102 : Int32) I J).2.2) ((F_X6_planned 0 a0 I J), (F_X6_assign 0 a0 a1 I J).1, (F_X6_assign 0 a0 a1 I J).2)))
def pre_X10_plan (a0 : Int32) (a1 : Int32) (I : kI) (J : kJ) : Prop := (pre_X10_isHourOfDay a0 I J ∧ (kif ((F_X10_isHourOfDay a0 I J) = 0) (pre_X10_refuse (-102 : Int32) I J ∧ True) (kif ((F_X10_isKeeperOrNone a1 I J) = 0) (pre_X10_refuse (-102 : Int32) I J ∧ True) (pre_X6_planned 0 a0 I J ∧ (pre_X6_assign 0 a0 a1 I J ∧ True)))))
set_option maxRecDepth 100000 in
set_option maxHeartbeats 2000000 in
theorem cs_X10_plan (a0 : Int32) (a1 : Int32) (I : kI) (J : kJ) (hp : pre_X10_plan a0 a1 I J) : sp_X10_plan [kx_r 10 0, kx_i a0, kx_i a1] (I, J, none) (some (kx_i (F_X10_plan a0 a1 I J).1)) ((F_X10_plan a0 a1 I J).2.1, (F_X10_plan a0 a1 I J).2.2, none) := by
  refine kx_start [] 27 ?_
  unfold pre_X10_plan at hp
  obtain ⟨hq, hp⟩ := hp
  refine ⟨_, _, cs_X10_isHourOfDay a0 I J hq, rfl, ?_⟩
  refine ⟨fun h1 => ?_, fun h1 => ?_⟩
  · replace h1 : (F_X10_isHourOfDay a0 I J) = 0 := h1
    rw [kif_pos h1] at hp
    obtain ⟨hq, hp⟩ := hp
    refine ⟨_, _, cs_X10_refuse (-102 : Int32) I J hq, rfl, ?_⟩
    have e9 : F_X10_plan a0 a1 I J = ((F_X10_refuse (-102 : Int32) I J).1, (F_X10_refuse (-102 : Int32) I J).2.1, (F_X10_refuse (-102 : Int32) I J).2.2) := by unfold F_X10_plan; rw [kif_pos h1]
    rw [e9]; exact ⟨rfl, rfl⟩
  · replace h1 : ¬ (F_X10_isHourOfDay a0 I J) = 0 := h1
    rw [kif_neg h1] at hp
    refine ⟨_, _, cs_X10_isKeeperOrNone a1 I J, rfl, ?_⟩
    refine ⟨fun h2 => ?_, fun h2 => ?_⟩
    · replace h2 : ¬ (F_X10_isKeeperOrNone a1 I J) = 0 := h2
      rw [kif_neg h2] at hp
      obtain ⟨hq, hp⟩ := hp
      refine ⟨_, _, cs_X6_planned 0 a0 I J hq, rfl, ?_⟩
      obtain ⟨hq, hp⟩ := hp
      refine ⟨_, _, cs_X6_assign 0 a0 a1 I J hq, rfl, ?_⟩
      have e9 : F_X10_plan a0 a1 I J = ((F_X6_planned 0 a0 I J), (F_X6_assign 0 a0 a1 I J).1, (F_X6_assign 0 a0 a1 I J).2) := by unfold F_X10_plan; rw [kif_neg h1, kif_neg h2]
      rw [e9]; exact ⟨rfl, rfl⟩
    · replace h2 : (F_X10_isKeeperOrNone a1 I J) = 0 := h2
      rw [kif_pos h2] at hp
      obtain ⟨hq, hp⟩ := hp
      refine ⟨_, _, cs_X10_refuse (-102 : Int32) I J hq, rfl, ?_⟩
      have e9 : F_X10_plan a0 a1 I J = ((F_X10_refuse (-102 : Int32) I J).1, (F_X10_refuse (-102 : Int32) I J).2.1, (F_X10_refuse (-102 : Int32) I J).2.2) := by unfold F_X10_plan; rw [kif_neg h1, kif_pos h2]
      rw [e9]; exact ⟨rfl, rfl⟩
noncomputable def F_X10_mayBeTold (a0 : Int32) (a1 : Int32) (I : kI) (J : kJ) : Int32 := (kif (a0 = (0)) (F_X10_isWithin a1 (0 : Int32) (12 : Int32) I J) (kif (a0 = (1)) (F_X10_isWithin a1 (13 : Int32) (24 : Int32) I J) (kif (a0 = (2)) (F_X10_isWithin a1 (1 : Int32) (4 : Int32) I J) (kif (a0 = (3)) (F_X10_isWithin a1 (0 : Int32) (9999 : Int32) I J) (kif (a0 = (4)) (F_X10_isWithin a1 (0 : Int32) (9999 : Int32) I J) (0 : Int32))))))
def pre_X10_mayBeTold (a0 : Int32) (a1 : Int32) (I : kI) (J : kJ) : Prop := (kif (a0 = (0)) ((F_X10_isWithin a1 (0 : Int32) (12 : Int32) I J) = 0 ∨ (F_X10_isWithin a1 (0 : Int32) (12 : Int32) I J) = 1) (kif (a0 = (1)) ((F_X10_isWithin a1 (13 : Int32) (24 : Int32) I J) = 0 ∨ (F_X10_isWithin a1 (13 : Int32) (24 : Int32) I J) = 1) (kif (a0 = (2)) ((F_X10_isWithin a1 (1 : Int32) (4 : Int32) I J) = 0 ∨ (F_X10_isWithin a1 (1 : Int32) (4 : Int32) I J) = 1) (kif (a0 = (3)) ((F_X10_isWithin a1 (0 : Int32) (9999 : Int32) I J) = 0 ∨ (F_X10_isWithin a1 (0 : Int32) (9999 : Int32) I J) = 1) (kif (a0 = (4)) ((F_X10_isWithin a1 (0 : Int32) (9999 : Int32) I J) = 0 ∨ (F_X10_isWithin a1 (0 : Int32) (9999 : Int32) I J) = 1) True)))))
set_option maxRecDepth 100000 in
set_option maxHeartbeats 2000000 in
theorem cs_X10_mayBeTold (a0 : Int32) (a1 : Int32) (I : kI) (J : kJ) (hp : pre_X10_mayBeTold a0 a1 I J) : sp_X10_mayBeTold [kx_i a0, kx_i a1] (I, J, none) (some (kx_i (F_X10_mayBeTold a0 a1 I J))) (I, J, none) := by
  refine kx_start [] 26 ?_
  unfold pre_X10_mayBeTold at hp
  refine ⟨fun h1 => ?_, fun h1 => ?_⟩
  · replace h1 : a0 = (0) := h1
    rw [kif_pos h1] at hp
    refine ⟨_, _, cs_X10_isWithin a1 (0 : Int32) (12 : Int32) I J, rfl, ?_⟩
    have e9 : F_X10_mayBeTold a0 a1 I J = (F_X10_isWithin a1 (0 : Int32) (12 : Int32) I J) := by unfold F_X10_mayBeTold; rw [kif_pos h1]
    rw [e9]; exact ⟨hp, rfl, rfl⟩
  · replace h1 : ¬ a0 = (0) := h1
    rw [kif_neg h1] at hp
    refine ⟨fun h2 => ?_, fun h2 => ?_⟩
    · replace h2 : a0 = (1) := h2
      rw [kif_pos h2] at hp
      refine ⟨_, _, cs_X10_isWithin a1 (13 : Int32) (24 : Int32) I J, rfl, ?_⟩
      have e9 : F_X10_mayBeTold a0 a1 I J = (F_X10_isWithin a1 (13 : Int32) (24 : Int32) I J) := by unfold F_X10_mayBeTold; rw [kif_neg h1, kif_pos h2]
      rw [e9]; exact ⟨hp, rfl, rfl⟩
    · replace h2 : ¬ a0 = (1) := h2
      rw [kif_neg h2] at hp
      refine ⟨fun h3 => ?_, fun h3 => ?_⟩
      · replace h3 : a0 = (2) := h3
        rw [kif_pos h3] at hp
        refine ⟨_, _, cs_X10_isWithin a1 (1 : Int32) (4 : Int32) I J, rfl, ?_⟩
        have e9 : F_X10_mayBeTold a0 a1 I J = (F_X10_isWithin a1 (1 : Int32) (4 : Int32) I J) := by unfold F_X10_mayBeTold; rw [kif_neg h1, kif_neg h2, kif_pos h3]
        rw [e9]; exact ⟨hp, rfl, rfl⟩
      · replace h3 : ¬ a0 = (2) := h3
        rw [kif_neg h3] at hp
        refine ⟨fun h4 => ?_, fun h4 => ?_⟩
        · replace h4 : a0 = (3) := h4
          rw [kif_pos h4] at hp
          refine ⟨_, _, cs_X10_isWithin a1 (0 : Int32) (9999 : Int32) I J, rfl, ?_⟩
          have e9 : F_X10_mayBeTold a0 a1 I J = (F_X10_isWithin a1 (0 : Int32) (9999 : Int32) I J) := by unfold F_X10_mayBeTold; rw [kif_neg h1, kif_neg h2, kif_neg h3, kif_pos h4]
          rw [e9]; exact ⟨hp, rfl, rfl⟩
        · replace h4 : ¬ a0 = (3) := h4
          rw [kif_neg h4] at hp
          refine ⟨fun h5 => ?_, fun h5 => ?_⟩
          · replace h5 : a0 = (4) := h5
            rw [kif_pos h5] at hp
            refine ⟨_, _, cs_X10_isWithin a1 (0 : Int32) (9999 : Int32) I J, rfl, ?_⟩
            have e9 : F_X10_mayBeTold a0 a1 I J = (F_X10_isWithin a1 (0 : Int32) (9999 : Int32) I J) := by unfold F_X10_mayBeTold; rw [kif_neg h1, kif_neg h2, kif_neg h3, kif_neg h4, kif_pos h5]
            rw [e9]; exact ⟨hp, rfl, rfl⟩
          · replace h5 : ¬ a0 = (4) := h5
            rw [kif_neg h5] at hp
            have e9 : F_X10_mayBeTold a0 a1 I J = (0 : Int32) := by unfold F_X10_mayBeTold; rw [kif_neg h1, kif_neg h2, kif_neg h3, kif_neg h4, kif_neg h5]
            rw [e9]; exact ⟨(by decide), rfl, rfl⟩
noncomputable def F_X10_tell (a0 : Int32) (a1 : Int32) (I : kI) (J : kJ) : Int32 × kI × kJ := (kif ((F_X10_mayBeTold a0 a1 I J) = 0) ((F_X10_refuse (-102 : Int32) I J).1, (F_X10_refuse (-102 : Int32) I J).2.1, (F_X10_refuse (-102 : Int32) I J).2.2) (kif (a0 = (0)) ((I 6 0 5), (kw I 6 0 5 a1), J) (kif (a0 = (1)) ((I 6 0 6), (kw I 6 0 6 a1), J) (kif (a0 = (2)) ((I 6 0 7), (kw I 6 0 7 a1), J) (kif (a0 = (3)) ((I 6 0 8), (kw I 6 0 8 a1), J) ((I 6 0 9), (kw I 6 0 9 a1), J))))))
def pre_X10_tell (a0 : Int32) (a1 : Int32) (I : kI) (J : kJ) : Prop := (pre_X10_mayBeTold a0 a1 I J ∧ (kif ((F_X10_mayBeTold a0 a1 I J) = 0) (pre_X10_refuse (-102 : Int32) I J ∧ True) True))
set_option maxRecDepth 100000 in
set_option maxHeartbeats 2000000 in
theorem cs_X10_tell (a0 : Int32) (a1 : Int32) (I : kI) (J : kJ) (hp : pre_X10_tell a0 a1 I J) : sp_X10_tell [kx_r 10 0, kx_i a0, kx_i a1] (I, J, none) (some (kx_i (F_X10_tell a0 a1 I J).1)) ((F_X10_tell a0 a1 I J).2.1, (F_X10_tell a0 a1 I J).2.2, none) := by
  refine kx_start [] 52 ?_
  unfold pre_X10_tell at hp
  obtain ⟨hq, hp⟩ := hp
  refine ⟨_, _, cs_X10_mayBeTold a0 a1 I J hq, rfl, ?_⟩
  refine ⟨fun h1 => ?_, fun h1 => ?_⟩
  · replace h1 : ¬ (F_X10_mayBeTold a0 a1 I J) = 0 := h1
    rw [kif_neg h1] at hp
    refine ⟨fun h2 => ?_, fun h2 => ?_⟩
    · replace h2 : a0 = (0) := h2
      have e9 : F_X10_tell a0 a1 I J = ((I 6 0 5), (kw I 6 0 5 a1), J) := by unfold F_X10_tell; rw [kif_neg h1, kif_pos h2]
      rw [e9]; exact ⟨rfl, rfl⟩
    · replace h2 : ¬ a0 = (0) := h2
      refine ⟨fun h3 => ?_, fun h3 => ?_⟩
      · replace h3 : a0 = (1) := h3
        have e9 : F_X10_tell a0 a1 I J = ((I 6 0 6), (kw I 6 0 6 a1), J) := by unfold F_X10_tell; rw [kif_neg h1, kif_neg h2, kif_pos h3]
        rw [e9]; exact ⟨rfl, rfl⟩
      · replace h3 : ¬ a0 = (1) := h3
        refine ⟨fun h4 => ?_, fun h4 => ?_⟩
        · replace h4 : a0 = (2) := h4
          have e9 : F_X10_tell a0 a1 I J = ((I 6 0 7), (kw I 6 0 7 a1), J) := by unfold F_X10_tell; rw [kif_neg h1, kif_neg h2, kif_neg h3, kif_pos h4]
          rw [e9]; exact ⟨rfl, rfl⟩
        · replace h4 : ¬ a0 = (2) := h4
          refine ⟨fun h5 => ?_, fun h5 => ?_⟩
          · replace h5 : a0 = (3) := h5
            have e9 : F_X10_tell a0 a1 I J = ((I 6 0 8), (kw I 6 0 8 a1), J) := by unfold F_X10_tell; rw [kif_neg h1, kif_neg h2, kif_neg h3, kif_neg h4, kif_pos h5]
            rw [e9]; exact ⟨rfl, rfl⟩
          · replace h5 : ¬ a0 = (3) := h5
            have e9 : F_X10_tell a0 a1 I J = ((I 6 0 9), (kw I 6 0 9 a1), J) := by unfold F_X10_tell; rw [kif_neg h1, kif_neg h2, kif_neg h3, kif_neg h4, kif_neg h5]
            rw [e9]; exact ⟨rfl, rfl⟩
  · replace h1 : (F_X10_mayBeTold a0 a1 I J) = 0 := h1
    rw [kif_pos h1] at hp
    obtain ⟨hq, hp⟩ := hp
    refine ⟨_, _, cs_X10_refuse (-102 : Int32) I J hq, rfl, ?_⟩
    have e9 : F_X10_tell a0 a1 I J = ((F_X10_refuse (-102 : Int32) I J).1, (F_X10_refuse (-102 : Int32) I J).2.1, (F_X10_refuse (-102 : Int32) I J).2.2) := by unfold F_X10_tell; rw [kif_pos h1]
    rw [e9]; exact ⟨rfl, rfl⟩
noncomputable def F_X10_mayBeOfBoat (a0 : Int32) (a1 : Int32) (I : kI) (J : kJ) : Int32 := (kif (a0 = (0)) (kif (a1 = (-1 : Int32)) (1 : Int32) (kif ((F_X10_isWithin a1 (I 6 0 4) ((I 6 0 4) + (9999 : Int32)) I J) = 0) (0 : Int32) (1 : Int32))) (kif (a0 = (1)) (F_X10_isWithin a1 (1 : Int32) (999 : Int32) I J) (kif (a0 = (2)) (F_X10_isWithin a1 (0 : Int32) (9999 : Int32) I J) (kif (a0 = (3)) (F_X10_isWithin a1 (0 : Int32) (9999 : Int32) I J) (0 : Int32)))))
def pre_X10_mayBeOfBoat (a0 : Int32) (a1 : Int32) (I : kI) (J : kJ) : Prop := (kif (a0 = (0)) True (kif (a0 = (1)) ((F_X10_isWithin a1 (1 : Int32) (999 : Int32) I J) = 0 ∨ (F_X10_isWithin a1 (1 : Int32) (999 : Int32) I J) = 1) (kif (a0 = (2)) ((F_X10_isWithin a1 (0 : Int32) (9999 : Int32) I J) = 0 ∨ (F_X10_isWithin a1 (0 : Int32) (9999 : Int32) I J) = 1) (kif (a0 = (3)) ((F_X10_isWithin a1 (0 : Int32) (9999 : Int32) I J) = 0 ∨ (F_X10_isWithin a1 (0 : Int32) (9999 : Int32) I J) = 1) True))))
def sp_X10_mayBeOfBoat : kx_Sp := fun av0 S0 r0 S1 => ∃ (a0 : Int32) (a1 : Int32) (I : kI) (J : kJ) (hp : pre_X10_mayBeOfBoat a0 a1 I J), av0 = [kx_r 10 0, kx_i a0, kx_i a1] ∧ S0 = (I, J, none) ∧ r0 = (some (kx_i (F_X10_mayBeOfBoat a0 a1 I J))) ∧ S1 = (I, J, none)
theorem cs_X10_mayBeOfBoat (a0 : Int32) (a1 : Int32) (I : kI) (J : kJ) (hp : pre_X10_mayBeOfBoat a0 a1 I J) : sp_X10_mayBeOfBoat [kx_r 10 0, kx_i a0, kx_i a1] (I, J, none) (some (kx_i (F_X10_mayBeOfBoat a0 a1 I J))) (I, J, none) := ⟨a0, a1, I, J, hp, rfl, rfl, rfl, rfl⟩
noncomputable def F_X10_boat (a0 : Int32) (a1 : Int32) (I : kI) (J : kJ) : Int32 × kI × kJ := (kif ((F_X10_mayBeOfBoat a0 a1 I J) = 0) ((F_X10_refuse (-102 : Int32) I J).1, (F_X10_refuse (-102 : Int32) I J).2.1, (F_X10_refuse (-102 : Int32) I J).2.2) (kif (a0 = (0)) ((I 0 0 0), (kw I 0 0 0 a1), J) (kif (a0 = (1)) ((I 0 0 1), (kw I 0 0 1 a1), J) (kif (a0 = (2)) ((I 0 0 2), (kw I 0 0 2 a1), J) ((I 0 0 3), (kw I 0 0 3 a1), J)))))
def pre_X10_boat (a0 : Int32) (a1 : Int32) (I : kI) (J : kJ) : Prop := (pre_X10_mayBeOfBoat a0 a1 I J ∧ (kif ((F_X10_mayBeOfBoat a0 a1 I J) = 0) (pre_X10_refuse (-102 : Int32) I J ∧ True) True))
def sp_X10_boat : kx_Sp := fun av0 S0 r0 S1 => ∃ (a0 : Int32) (a1 : Int32) (I : kI) (J : kJ) (hp : pre_X10_boat a0 a1 I J), av0 = [kx_r 10 0, kx_i a0, kx_i a1] ∧ S0 = (I, J, none) ∧ r0 = (some (kx_i (F_X10_boat a0 a1 I J).1)) ∧ S1 = ((F_X10_boat a0 a1 I J).2.1, (F_X10_boat a0 a1 I J).2.2, none)
theorem cs_X10_boat (a0 : Int32) (a1 : Int32) (I : kI) (J : kJ) (hp : pre_X10_boat a0 a1 I J) : sp_X10_boat [kx_r 10 0, kx_i a0, kx_i a1] (I, J, none) (some (kx_i (F_X10_boat a0 a1 I J).1)) ((F_X10_boat a0 a1 I J).2.1, (F_X10_boat a0 a1 I J).2.2, none) := ⟨a0, a1, I, J, hp, rfl, rfl, rfl, rfl⟩
noncomputable def F_X10_shipOf (a0 : Int32) (a1 : Int32) (I : kI) (J : kJ) : Int32 × kI × kJ := (kif ((F_X2_has 0 a0 I J) = 0) ((F_X10_refuse (-102 : Int32) I J).1, (F_X10_refuse (-102 : Int32) I J).2.1, (F_X10_refuse (-102 : Int32) I J).2.2) (kif (a1 = (0)) ((F_X2_kindOf 0 a0 I J), I, J) (kif (a1 = (1)) ((F_X2_hourOf 0 a0 I J), I, J) (kif (a1 = (2)) ((F_X2_fateOf 0 a0 I J), I, J) (kif (a1 = (3)) ((F_X2_metOf 0 a0 I J), I, J) ((F_X10_refuse (-102 : Int32) I J).1, (F_X10_refuse (-102 : Int32) I J).2.1, (F_X10_refuse (-102 : Int32) I J).2.2))))))
def pre_X10_shipOf (a0 : Int32) (a1 : Int32) (I : kI) (J : kJ) : Prop := (kif ((F_X2_has 0 a0 I J) = 0) (pre_X10_refuse (-102 : Int32) I J ∧ True) (kif (a1 = (0)) (pre_X2_kindOf 0 a0 I J ∧ True) (kif (a1 = (1)) (pre_X2_hourOf 0 a0 I J ∧ True) (kif (a1 = (2)) (pre_X2_fateOf 0 a0 I J ∧ True) (kif (a1 = (3)) (pre_X2_metOf 0 a0 I J ∧ True) (pre_X10_refuse (-102 : Int32) I J ∧ True))))))
set_option maxRecDepth 100000 in
set_option maxHeartbeats 2000000 in
theorem cs_X10_shipOf (a0 : Int32) (a1 : Int32) (I : kI) (J : kJ) (hp : pre_X10_shipOf a0 a1 I J) : sp_X10_shipOf [kx_r 10 0, kx_i a0, kx_i a1] (I, J, none) (some (kx_i (F_X10_shipOf a0 a1 I J).1)) ((F_X10_shipOf a0 a1 I J).2.1, (F_X10_shipOf a0 a1 I J).2.2, none) := by
  refine kx_start [] 36 ?_
  unfold pre_X10_shipOf at hp
  refine ⟨_, _, cs_X2_has 0 a0 I J, rfl, ?_⟩
  refine ⟨fun h1 => ?_, fun h1 => ?_⟩
  · replace h1 : ¬ (F_X2_has 0 a0 I J) = 0 := h1
    rw [kif_neg h1] at hp
    refine ⟨fun h2 => ?_, fun h2 => ?_⟩
    · replace h2 : a1 = (0) := h2
      rw [kif_pos h2] at hp
      obtain ⟨hq, hp⟩ := hp
      refine ⟨_, _, cs_X2_kindOf 0 a0 I J hq, rfl, ?_⟩
      have e9 : F_X10_shipOf a0 a1 I J = ((F_X2_kindOf 0 a0 I J), I, J) := by unfold F_X10_shipOf; rw [kif_neg h1, kif_pos h2]
      rw [e9]; exact ⟨rfl, rfl⟩
    · replace h2 : ¬ a1 = (0) := h2
      rw [kif_neg h2] at hp
      refine ⟨fun h3 => ?_, fun h3 => ?_⟩
      · replace h3 : a1 = (1) := h3
        rw [kif_pos h3] at hp
        obtain ⟨hq, hp⟩ := hp
        refine ⟨_, _, cs_X2_hourOf 0 a0 I J hq, rfl, ?_⟩
        have e9 : F_X10_shipOf a0 a1 I J = ((F_X2_hourOf 0 a0 I J), I, J) := by unfold F_X10_shipOf; rw [kif_neg h1, kif_neg h2, kif_pos h3]
        rw [e9]; exact ⟨rfl, rfl⟩
      · replace h3 : ¬ a1 = (1) := h3
        rw [kif_neg h3] at hp
        refine ⟨fun h4 => ?_, fun h4 => ?_⟩
        · replace h4 : a1 = (2) := h4
          rw [kif_pos h4] at hp
          obtain ⟨hq, hp⟩ := hp
          refine ⟨_, _, cs_X2_fateOf 0 a0 I J hq, rfl, ?_⟩
          have e9 : F_X10_shipOf a0 a1 I J = ((F_X2_fateOf 0 a0 I J), I, J) := by unfold F_X10_shipOf; rw [kif_neg h1, kif_neg h2, kif_neg h3, kif_pos h4]
          rw [e9]; exact ⟨rfl, rfl⟩
        · replace h4 : ¬ a1 = (2) := h4
          rw [kif_neg h4] at hp
          refine ⟨fun h5 => ?_, fun h5 => ?_⟩
          · replace h5 : a1 = (3) := h5
            rw [kif_pos h5] at hp
            obtain ⟨hq, hp⟩ := hp
            refine ⟨_, _, cs_X2_metOf 0 a0 I J hq, rfl, ?_⟩
            have e9 : F_X10_shipOf a0 a1 I J = ((F_X2_metOf 0 a0 I J), I, J) := by unfold F_X10_shipOf; rw [kif_neg h1, kif_neg h2, kif_neg h3, kif_neg h4, kif_pos h5]
            rw [e9]; exact ⟨rfl, rfl⟩
          · replace h5 : ¬ a1 = (3) := h5
            rw [kif_neg h5] at hp
            obtain ⟨hq, hp⟩ := hp
            refine ⟨_, _, cs_X10_refuse (-102 : Int32) I J hq, rfl, ?_⟩
            have e9 : F_X10_shipOf a0 a1 I J = ((F_X10_refuse (-102 : Int32) I J).1, (F_X10_refuse (-102 : Int32) I J).2.1, (F_X10_refuse (-102 : Int32) I J).2.2) := by unfold F_X10_shipOf; rw [kif_neg h1, kif_neg h2, kif_neg h3, kif_neg h4, kif_neg h5]
            rw [e9]; exact ⟨rfl, rfl⟩
  · replace h1 : (F_X2_has 0 a0 I J) = 0 := h1
    rw [kif_pos h1] at hp
    obtain ⟨hq, hp⟩ := hp
    refine ⟨_, _, cs_X10_refuse (-102 : Int32) I J hq, rfl, ?_⟩
    have e9 : F_X10_shipOf a0 a1 I J = ((F_X10_refuse (-102 : Int32) I J).1, (F_X10_refuse (-102 : Int32) I J).2.1, (F_X10_refuse (-102 : Int32) I J).2.2) := by unfold F_X10_shipOf; rw [kif_pos h1]
    rw [e9]; exact ⟨rfl, rfl⟩
noncomputable def F_X10_areHours (a0 : Int32) (I : kI) (J : kJ) : Int32 := (F_X10_isWithin a0 (0 : Int32) (200 : Int32) I J)
def pre_X10_areHours (a0 : Int32) (I : kI) (J : kJ) : Prop := ((F_X10_isWithin a0 (0 : Int32) (200 : Int32) I J) = 0 ∨ (F_X10_isWithin a0 (0 : Int32) (200 : Int32) I J) = 1)
set_option maxRecDepth 100000 in
set_option maxHeartbeats 2000000 in
theorem cs_X10_areHours (a0 : Int32) (I : kI) (J : kJ) (hp : pre_X10_areHours a0 I J) : sp_X10_areHours [kx_i a0] (I, J, none) (some (kx_i (F_X10_areHours a0 I J))) (I, J, none) := by
  refine kx_start [] 7 ?_
  unfold pre_X10_areHours at hp
  refine ⟨_, _, cs_X10_isWithin a0 (0 : Int32) (200 : Int32) I J, rfl, ?_⟩
  have e9 : F_X10_areHours a0 I J = (F_X10_isWithin a0 (0 : Int32) (200 : Int32) I J) := by unfold F_X10_areHours; rfl
  rw [e9]; exact ⟨hp, rfl, rfl⟩
noncomputable def F_X10_seed (a0 : Int32) (I : kI) (J : kJ) : Int32 × kI × kJ := ((I 9 0 5), (kw I 9 0 5 a0), J)
def sp_X10_seed : kx_Sp := fun av0 S0 r0 S1 => ∃ (a0 : Int32) (I : kI) (J : kJ), av0 = [kx_r 10 0, kx_i a0] ∧ S0 = (I, J, none) ∧ r0 = (some (kx_i (F_X10_seed a0 I J).1)) ∧ S1 = ((F_X10_seed a0 I J).2.1, (F_X10_seed a0 I J).2.2, none)
theorem cs_X10_seed (a0 : Int32) (I : kI) (J : kJ) : sp_X10_seed [kx_r 10 0, kx_i a0] (I, J, none) (some (kx_i (F_X10_seed a0 I J).1)) ((F_X10_seed a0 I J).2.1, (F_X10_seed a0 I J).2.2, none) := ⟨a0, I, J, rfl, rfl, rfl, rfl⟩
noncomputable def F_X10_log (a0 : Int32) (a1 : Int32) (I : kI) (J : kJ) : Int32 × kI × kJ := (kif ((F_X3_has 0 a0 I J) = 0) ((F_X10_refuse (-102 : Int32) I J).1, (F_X10_refuse (-102 : Int32) I J).2.1, (F_X10_refuse (-102 : Int32) I J).2.2) (kif (a1 = (0)) ((F_X3_hourOf 0 a0 I J), I, J) (kif (a1 = (1)) ((F_X3_sortOf 0 a0 I J), I, J) (kif (a1 = (2)) ((F_X3_shipOfEntry 0 a0 I J), I, J) (kif (a1 = (3)) ((F_X3_writerOf 0 a0 I J), I, J) ((F_X10_refuse (-102 : Int32) I J).1, (F_X10_refuse (-102 : Int32) I J).2.1, (F_X10_refuse (-102 : Int32) I J).2.2))))))
def pre_X10_log (a0 : Int32) (a1 : Int32) (I : kI) (J : kJ) : Prop := (kif ((F_X3_has 0 a0 I J) = 0) (pre_X10_refuse (-102 : Int32) I J ∧ True) (kif (a1 = (0)) (pre_X3_hourOf 0 a0 I J ∧ True) (kif (a1 = (1)) (pre_X3_sortOf 0 a0 I J ∧ True) (kif (a1 = (2)) (pre_X3_shipOfEntry 0 a0 I J ∧ True) (kif (a1 = (3)) (pre_X3_writerOf 0 a0 I J ∧ True) (pre_X10_refuse (-102 : Int32) I J ∧ True))))))
def sp_X10_log : kx_Sp := fun av0 S0 r0 S1 => ∃ (a0 : Int32) (a1 : Int32) (I : kI) (J : kJ) (hp : pre_X10_log a0 a1 I J), av0 = [kx_r 10 0, kx_i a0, kx_i a1] ∧ S0 = (I, J, none) ∧ r0 = (some (kx_i (F_X10_log a0 a1 I J).1)) ∧ S1 = ((F_X10_log a0 a1 I J).2.1, (F_X10_log a0 a1 I J).2.2, none)
theorem cs_X10_log (a0 : Int32) (a1 : Int32) (I : kI) (J : kJ) (hp : pre_X10_log a0 a1 I J) : sp_X10_log [kx_r 10 0, kx_i a0, kx_i a1] (I, J, none) (some (kx_i (F_X10_log a0 a1 I J).1)) ((F_X10_log a0 a1 I J).2.1, (F_X10_log a0 a1 I J).2.2, none) := ⟨a0, a1, I, J, hp, rfl, rfl, rfl, rfl⟩
noncomputable def F_X10_unlit  (I : kI) (J : kJ) : Int32 := (I 9 0 4)
def sp_X10_unlit : kx_Sp := fun av0 S0 r0 S1 => ∃ (I : kI) (J : kJ), av0 = [kx_r 10 0] ∧ S0 = (I, J, none) ∧ r0 = (some (kx_i (F_X10_unlit  I J))) ∧ S1 = (I, J, none)
theorem cs_X10_unlit  (I : kI) (J : kJ) : sp_X10_unlit [kx_r 10 0] (I, J, none) (some (kx_i (F_X10_unlit  I J))) (I, J, none) := ⟨I, J, rfl, rfl, rfl, rfl⟩
noncomputable def F_X10_isAsTold (a0 : Int32) (a1 : Int32) (o2 : Nat) (I : kI) (J : kJ) : Int32 := (kif ((F_X3_has 0 a0 I J) = 0) (0 : Int32) (kif ((F_X3_has 0 (a0 + a1) I J) = 0) (0 : Int32) (kif ((lg_cmp (F_X4_valueAt o2 ((2 : Int32) * a1) I J) (Int32.toInt64 (F_X3_sortOf 0 (a0 + a1) I J))) = 0) (kif ((lg_cmp (F_X4_valueAt o2 (((2 : Int32) * a1) + (1 : Int32)) I J) (Int32.toInt64 (F_X3_shipOfEntry 0 (a0 + a1) I J))) = 0) (1 : Int32) (0 : Int32)) (0 : Int32))))
def pre_X10_isAsTold (a0 : Int32) (a1 : Int32) (o2 : Nat) (I : kI) (J : kJ) : Prop := (kif ((F_X3_has 0 a0 I J) = 0) True (kif ((F_X3_has 0 (a0 + a1) I J) = 0) True (pre_X4_valueAt o2 ((2 : Int32) * a1) I J ∧ (pre_X3_sortOf 0 (a0 + a1) I J ∧ (kif ((lg_cmp (F_X4_valueAt o2 ((2 : Int32) * a1) I J) (Int32.toInt64 (F_X3_sortOf 0 (a0 + a1) I J))) = 0) (pre_X4_valueAt o2 (((2 : Int32) * a1) + (1 : Int32)) I J ∧ (pre_X3_shipOfEntry 0 (a0 + a1) I J ∧ True)) True)))))
def sp_X10_isAsTold : kx_Sp := fun av0 S0 r0 S1 => ∃ (a0 : Int32) (a1 : Int32) (o2 : Nat) (I : kI) (J : kJ) (hp : pre_X10_isAsTold a0 a1 o2 I J), av0 = [kx_r 10 0, kx_i a0, kx_i a1, kx_r 4 o2] ∧ S0 = (I, J, none) ∧ r0 = (some (kx_i (F_X10_isAsTold a0 a1 o2 I J))) ∧ S1 = (I, J, none)
theorem cs_X10_isAsTold (a0 : Int32) (a1 : Int32) (o2 : Nat) (I : kI) (J : kJ) (hp : pre_X10_isAsTold a0 a1 o2 I J) : sp_X10_isAsTold [kx_r 10 0, kx_i a0, kx_i a1, kx_r 4 o2] (I, J, none) (some (kx_i (F_X10_isAsTold a0 a1 o2 I J))) (I, J, none) := ⟨a0, a1, o2, I, J, hp, rfl, rfl, rfl, rfl⟩
noncomputable def F_X11_in (a0 : Int64) (a1 : Int64) (a2 : Int64) (I : kI) (J : kJ) : Int32 := (kif ((lg_cmp a0 a1) < 0) (0 : Int32) (kif (0 < (lg_cmp a0 a2)) (0 : Int32) (1 : Int32)))
def sp_X11_in : kx_Sp := fun av0 S0 r0 S1 => ∃ (a0 : Int64) (a1 : Int64) (a2 : Int64) (I : kI) (J : kJ), av0 = [kx_l a0, kx_l a1, kx_l a2] ∧ S0 = (I, J, none) ∧ r0 = (some (kx_i (F_X11_in a0 a1 a2 I J))) ∧ S1 = (I, J, none)
theorem cs_X11_in (a0 : Int64) (a1 : Int64) (a2 : Int64) (I : kI) (J : kJ) : sp_X11_in [kx_l a0, kx_l a1, kx_l a2] (I, J, none) (some (kx_i (F_X11_in a0 a1 a2 I J))) (I, J, none) := ⟨a0, a1, a2, I, J, rfl, rfl, rfl, rfl⟩
noncomputable def F_X11_refused (a0 : Int32) (I : kI) (J : kJ) : Int32 × kI × kJ := (a0, (kw I 42 0 (((-a0) - (102 : Int32))).toNatClampNeg ((I 42 0 (((-a0) - (102 : Int32))).toNatClampNeg) + (1 : Int32))), J)
def pre_X11_refused (a0 : Int32) (I : kI) (J : kJ) : Prop := (vp_in ((-a0) - (102 : Int32)) 5 ∧ (vp_in ((-a0) - (102 : Int32)) 5 ∧ True))
def sp_X11_refused : kx_Sp := fun av0 S0 r0 S1 => ∃ (a0 : Int32) (I : kI) (J : kJ) (hp : pre_X11_refused a0 I J), av0 = [kx_r 11 0, kx_i a0] ∧ S0 = (I, J, none) ∧ r0 = (some (kx_i (F_X11_refused a0 I J).1)) ∧ S1 = ((F_X11_refused a0 I J).2.1, (F_X11_refused a0 I J).2.2, none)
theorem cs_X11_refused (a0 : Int32) (I : kI) (J : kJ) (hp : pre_X11_refused a0 I J) : sp_X11_refused [kx_r 11 0, kx_i a0] (I, J, none) (some (kx_i (F_X11_refused a0 I J).1)) ((F_X11_refused a0 I J).2.1, (F_X11_refused a0 I J).2.2, none) := ⟨a0, I, J, hp, rfl, rfl, rfl, rfl⟩
noncomputable def F_X11_isKeeper (a0 : Int32) (I : kI) (J : kJ) : Int32 := (F_X11_in (Int32.toInt64 a0) (0 : Int64) (Int32.toInt64 ((I 41 0 ((13 : Int32)).toNatClampNeg) - (1 : Int32))) I J)
def pre_X11_isKeeper (a0 : Int32) (I : kI) (J : kJ) : Prop := (vp_in (13 : Int32) 2509 ∧ ((F_X11_in (Int32.toInt64 a0) (0 : Int64) (Int32.toInt64 ((I 41 0 ((13 : Int32)).toNatClampNeg) - (1 : Int32))) I J) = 0 ∨ (F_X11_in (Int32.toInt64 a0) (0 : Int64) (Int32.toInt64 ((I 41 0 ((13 : Int32)).toNatClampNeg) - (1 : Int32))) I J) = 1))
def sp_X11_isKeeper : kx_Sp := fun av0 S0 r0 S1 => ∃ (a0 : Int32) (I : kI) (J : kJ) (hp : pre_X11_isKeeper a0 I J), av0 = [kx_r 11 0, kx_i a0] ∧ S0 = (I, J, none) ∧ r0 = (some (kx_i (F_X11_isKeeper a0 I J))) ∧ S1 = (I, J, none)
theorem cs_X11_isKeeper (a0 : Int32) (I : kI) (J : kJ) (hp : pre_X11_isKeeper a0 I J) : sp_X11_isKeeper [kx_r 11 0, kx_i a0] (I, J, none) (some (kx_i (F_X11_isKeeper a0 I J))) (I, J, none) := ⟨a0, I, J, hp, rfl, rfl, rfl, rfl⟩
noncomputable def F_X11_isShip (a0 : Int32) (I : kI) (J : kJ) : Int32 := (F_X11_in (Int32.toInt64 a0) (0 : Int64) (Int32.toInt64 ((I 41 0 ((14 : Int32)).toNatClampNeg) - (1 : Int32))) I J)
def pre_X11_isShip (a0 : Int32) (I : kI) (J : kJ) : Prop := (vp_in (14 : Int32) 2509 ∧ ((F_X11_in (Int32.toInt64 a0) (0 : Int64) (Int32.toInt64 ((I 41 0 ((14 : Int32)).toNatClampNeg) - (1 : Int32))) I J) = 0 ∨ (F_X11_in (Int32.toInt64 a0) (0 : Int64) (Int32.toInt64 ((I 41 0 ((14 : Int32)).toNatClampNeg) - (1 : Int32))) I J) = 1))
def sp_X11_isShip : kx_Sp := fun av0 S0 r0 S1 => ∃ (a0 : Int32) (I : kI) (J : kJ) (hp : pre_X11_isShip a0 I J), av0 = [kx_r 11 0, kx_i a0] ∧ S0 = (I, J, none) ∧ r0 = (some (kx_i (F_X11_isShip a0 I J))) ∧ S1 = (I, J, none)
theorem cs_X11_isShip (a0 : Int32) (I : kI) (J : kJ) (hp : pre_X11_isShip a0 I J) : sp_X11_isShip [kx_r 11 0, kx_i a0] (I, J, none) (some (kx_i (F_X11_isShip a0 I J))) (I, J, none) := ⟨a0, I, J, hp, rfl, rfl, rfl, rfl⟩
noncomputable def F_X11_ofKeeper (a0 : Int32) (a1 : Int32) (I : kI) (J : kJ) : Int32 := (I 41 0 ((((61 : Int32) + ((4 : Int32) * a0)) + a1)).toNatClampNeg)
def pre_X11_ofKeeper (a0 : Int32) (a1 : Int32) (I : kI) (J : kJ) : Prop := (vp_in (((61 : Int32) + ((4 : Int32) * a0)) + a1) 2509 ∧ True)
def sp_X11_ofKeeper : kx_Sp := fun av0 S0 r0 S1 => ∃ (a0 : Int32) (a1 : Int32) (I : kI) (J : kJ) (hp : pre_X11_ofKeeper a0 a1 I J), av0 = [kx_r 11 0, kx_i a0, kx_i a1] ∧ S0 = (I, J, none) ∧ r0 = (some (kx_i (F_X11_ofKeeper a0 a1 I J))) ∧ S1 = (I, J, none)
theorem cs_X11_ofKeeper (a0 : Int32) (a1 : Int32) (I : kI) (J : kJ) (hp : pre_X11_ofKeeper a0 a1 I J) : sp_X11_ofKeeper [kx_r 11 0, kx_i a0, kx_i a1] (I, J, none) (some (kx_i (F_X11_ofKeeper a0 a1 I J))) (I, J, none) := ⟨a0, a1, I, J, hp, rfl, rfl, rfl, rfl⟩
noncomputable def F_X11_ofShip (a0 : Int32) (a1 : Int32) (I : kI) (J : kJ) : Int32 := (I 41 0 ((((109 : Int32) + ((4 : Int32) * a0)) + a1)).toNatClampNeg)
def pre_X11_ofShip (a0 : Int32) (a1 : Int32) (I : kI) (J : kJ) : Prop := (vp_in (((109 : Int32) + ((4 : Int32) * a0)) + a1) 2509 ∧ True)
def sp_X11_ofShip : kx_Sp := fun av0 S0 r0 S1 => ∃ (a0 : Int32) (a1 : Int32) (I : kI) (J : kJ) (hp : pre_X11_ofShip a0 a1 I J), av0 = [kx_r 11 0, kx_i a0, kx_i a1] ∧ S0 = (I, J, none) ∧ r0 = (some (kx_i (F_X11_ofShip a0 a1 I J))) ∧ S1 = (I, J, none)
theorem cs_X11_ofShip (a0 : Int32) (a1 : Int32) (I : kI) (J : kJ) (hp : pre_X11_ofShip a0 a1 I J) : sp_X11_ofShip [kx_r 11 0, kx_i a0, kx_i a1] (I, J, none) (some (kx_i (F_X11_ofShip a0 a1 I J))) (I, J, none) := ⟨a0, a1, I, J, hp, rfl, rfl, rfl, rfl⟩
noncomputable def F_X11_lasts (a0 : Int32) (I : kI) (J : kJ) : Int32 := ((12 : Int32) - ((3 : Int32) * (F_X11_ofKeeper a0 (0 : Int32) I J)))
def pre_X11_lasts (a0 : Int32) (I : kI) (J : kJ) : Prop := (pre_X11_ofKeeper a0 (0 : Int32) I J ∧ True)
def sp_X11_lasts : kx_Sp := fun av0 S0 r0 S1 => ∃ (a0 : Int32) (I : kI) (J : kJ) (hp : pre_X11_lasts a0 I J), av0 = [kx_r 11 0, kx_i a0] ∧ S0 = (I, J, none) ∧ r0 = (some (kx_i (F_X11_lasts a0 I J))) ∧ S1 = (I, J, none)
theorem cs_X11_lasts (a0 : Int32) (I : kI) (J : kJ) (hp : pre_X11_lasts a0 I J) : sp_X11_lasts [kx_r 11 0, kx_i a0] (I, J, none) (some (kx_i (F_X11_lasts a0 I J))) (I, J, none) := ⟨a0, I, J, hp, rfl, rfl, rfl, rfl⟩
noncomputable def F_X11_isDark (a0 : Int32) (I : kI) (J : kJ) : Int32 := (kif ((a0 - a0 / (24 : Int32) * (24 : Int32)) < (I 41 0 ((1 : Int32)).toNatClampNeg)) (1 : Int32) (kif ((a0 - a0 / (24 : Int32) * (24 : Int32)) < (I 41 0 ((2 : Int32)).toNatClampNeg)) (0 : Int32) (1 : Int32)))
def pre_X11_isDark (a0 : Int32) (I : kI) (J : kJ) : Prop := (¬ (24 : Int32) = 0 ∧ (vp_in (1 : Int32) 2509 ∧ (kif ((a0 - a0 / (24 : Int32) * (24 : Int32)) < (I 41 0 ((1 : Int32)).toNatClampNeg)) True (¬ (24 : Int32) = 0 ∧ (vp_in (2 : Int32) 2509 ∧ True)))))
def sp_X11_isDark : kx_Sp := fun av0 S0 r0 S1 => ∃ (a0 : Int32) (I : kI) (J : kJ) (hp : pre_X11_isDark a0 I J), av0 = [kx_r 11 0, kx_i a0] ∧ S0 = (I, J, none) ∧ r0 = (some (kx_i (F_X11_isDark a0 I J))) ∧ S1 = (I, J, none)
theorem cs_X11_isDark (a0 : Int32) (I : kI) (J : kJ) (hp : pre_X11_isDark a0 I J) : sp_X11_isDark [kx_r 11 0, kx_i a0] (I, J, none) (some (kx_i (F_X11_isDark a0 I J))) (I, J, none) := ⟨a0, I, J, hp, rfl, rfl, rfl, rfl⟩
noncomputable def F_X11_logs (a0 : Int32) (a1 : Int32) (a2 : Int32) (I : kI) (J : kJ) : kI × kJ := (kif ((400 : Int32) ≤ (I 41 0 ((15 : Int32)).toNatClampNeg)) (I, J) ((kw (kw (kw (kw (kw I 41 0 (((909 : Int32) + ((4 : Int32) * (I 41 0 ((15 : Int32)).toNatClampNeg)))).toNatClampNeg (I 41 0 ((0 : Int32)).toNatClampNeg)) 41 0 ((((909 : Int32) + ((4 : Int32) * (I 41 0 ((15 : Int32)).toNatClampNeg))) + (1 : Int32))).toNatClampNeg a0) 41 0 ((((909 : Int32) + ((4 : Int32) * (I 41 0 ((15 : Int32)).toNatClampNeg))) + (2 : Int32))).toNatClampNeg a1) 41 0 ((((909 : Int32) + ((4 : Int32) * (I 41 0 ((15 : Int32)).toNatClampNeg))) + (3 : Int32))).toNatClampNeg a2) 41 0 ((15 : Int32)).toNatClampNeg ((I 41 0 ((15 : Int32)).toNatClampNeg) + (1 : Int32))), J))
def pre_X11_logs (a0 : Int32) (a1 : Int32) (a2 : Int32) (I : kI) (J : kJ) : Prop := (vp_in (15 : Int32) 2509 ∧ (kif ((400 : Int32) ≤ (I 41 0 ((15 : Int32)).toNatClampNeg)) True (vp_in (0 : Int32) 2509 ∧ (vp_in ((909 : Int32) + ((4 : Int32) * (I 41 0 ((15 : Int32)).toNatClampNeg))) 2509 ∧ (vp_in (((909 : Int32) + ((4 : Int32) * (I 41 0 ((15 : Int32)).toNatClampNeg))) + (1 : Int32)) 2509 ∧ (vp_in (((909 : Int32) + ((4 : Int32) * (I 41 0 ((15 : Int32)).toNatClampNeg))) + (2 : Int32)) 2509 ∧ (vp_in (((909 : Int32) + ((4 : Int32) * (I 41 0 ((15 : Int32)).toNatClampNeg))) + (3 : Int32)) 2509 ∧ (vp_in (15 : Int32) 2509 ∧ True))))))))
def sp_X11_logs : kx_Sp := fun av0 S0 r0 S1 => ∃ (a0 : Int32) (a1 : Int32) (a2 : Int32) (I : kI) (J : kJ) (hp : pre_X11_logs a0 a1 a2 I J), av0 = [kx_r 11 0, kx_i a0, kx_i a1, kx_i a2] ∧ S0 = (I, J, none) ∧ r0 = (none) ∧ S1 = ((F_X11_logs a0 a1 a2 I J).1, (F_X11_logs a0 a1 a2 I J).2, none)
theorem cs_X11_logs (a0 : Int32) (a1 : Int32) (a2 : Int32) (I : kI) (J : kJ) (hp : pre_X11_logs a0 a1 a2 I J) : sp_X11_logs [kx_r 11 0, kx_i a0, kx_i a1, kx_i a2] (I, J, none) (none) ((F_X11_logs a0 a1 a2 I J).1, (F_X11_logs a0 a1 a2 I J).2, none) := ⟨a0, a1, a2, I, J, hp, rfl, rfl, rfl, rfl⟩
noncomputable def F_X11_isSmall (a0 : Int32) (I : kI) (J : kJ) : Int32 := (kif (a0 = (3 : Int32)) (1 : Int32) (kif (a0 = (4 : Int32)) (1 : Int32) (0 : Int32)))
def sp_X11_isSmall : kx_Sp := fun av0 S0 r0 S1 => ∃ (a0 : Int32) (I : kI) (J : kJ), av0 = [kx_i a0] ∧ S0 = (I, J, none) ∧ r0 = (some (kx_i (F_X11_isSmall a0 I J))) ∧ S1 = (I, J, none)
theorem cs_X11_isSmall (a0 : Int32) (I : kI) (J : kJ) : sp_X11_isSmall [kx_i a0] (I, J, none) (some (kx_i (F_X11_isSmall a0 I J))) (I, J, none) := ⟨a0, I, J, rfl, rfl, rfl, rfl⟩
noncomputable def F_X11_feed (a0 : Int32) (I : kI) (J : kJ) : Int32 × kI × kJ := (kif ((F_X11_in (Int32.toInt64 a0) (0 : Int64) (255 : Int64) I J) = 0) ((F_X11_refused (-102 : Int32) I J).1, (F_X11_refused (-102 : Int32) I J).2.1, (F_X11_refused (-102 : Int32) I J).2.2) (kif ((I 11 0 9) = (250 : Int32)) ((F_X11_refused (-106 : Int32) I J).1, (F_X11_refused (-106 : Int32) I J).2.1, (F_X11_refused (-106 : Int32) I J).2.2) (((kw (kw I 43 0 ((I 11 0 9)).toNatClampNeg a0) 11 0 9 (((kw I 43 0 ((I 11 0 9)).toNatClampNeg a0) 11 0 9) + (1 : Int32))) 11 0 9), (kw (kw I 43 0 ((I 11 0 9)).toNatClampNeg a0) 11 0 9 (((kw I 43 0 ((I 11 0 9)).toNatClampNeg a0) 11 0 9) + (1 : Int32))), J)))
def pre_X11_feed (a0 : Int32) (I : kI) (J : kJ) : Prop := (kif ((F_X11_in (Int32.toInt64 a0) (0 : Int64) (255 : Int64) I J) = 0) (pre_X11_refused (-102 : Int32) I J ∧ True) (kif ((I 11 0 9) = (250 : Int32)) (pre_X11_refused (-106 : Int32) I J ∧ True) (vp_in (I 11 0 9) 250 ∧ True)))
def sp_X11_feed : kx_Sp := fun av0 S0 r0 S1 => ∃ (a0 : Int32) (I : kI) (J : kJ) (hp : pre_X11_feed a0 I J), av0 = [kx_r 11 0, kx_i a0] ∧ S0 = (I, J, none) ∧ r0 = (some (kx_i (F_X11_feed a0 I J).1)) ∧ S1 = ((F_X11_feed a0 I J).2.1, (F_X11_feed a0 I J).2.2, none)
theorem cs_X11_feed (a0 : Int32) (I : kI) (J : kJ) (hp : pre_X11_feed a0 I J) : sp_X11_feed [kx_r 11 0, kx_i a0] (I, J, none) (some (kx_i (F_X11_feed a0 I J).1)) ((F_X11_feed a0 I J).2.1, (F_X11_feed a0 I J).2.2, none) := ⟨a0, I, J, hp, rfl, rfl, rfl, rfl⟩
noncomputable def F_X11_wipe  (I : kI) (J : kJ) : Int32 × kI × kJ := ((I 11 0 9), (kw I 11 0 9 (0 : Int32)), J)
def sp_X11_wipe : kx_Sp := fun av0 S0 r0 S1 => ∃ (I : kI) (J : kJ), av0 = [kx_r 11 0] ∧ S0 = (I, J, none) ∧ r0 = (some (kx_i (F_X11_wipe  I J).1)) ∧ S1 = ((F_X11_wipe  I J).2.1, (F_X11_wipe  I J).2.2, none)
theorem cs_X11_wipe  (I : kI) (J : kJ) : sp_X11_wipe [kx_r 11 0] (I, J, none) (some (kx_i (F_X11_wipe  I J).1)) ((F_X11_wipe  I J).2.1, (F_X11_wipe  I J).2.2, none) := ⟨I, J, rfl, rfl, rfl, rfl⟩
noncomputable def F_X11_byteAt (a0 : Int32) (I : kI) (J : kJ) : Int32 := (kif ((I 11 0 9) ≤ a0) (-1 : Int32) (I 43 0 (a0).toNatClampNeg))
def pre_X11_byteAt (a0 : Int32) (I : kI) (J : kJ) : Prop := (kif ((I 11 0 9) ≤ a0) True (vp_in a0 250 ∧ True))
def sp_X11_byteAt : kx_Sp := fun av0 S0 r0 S1 => ∃ (a0 : Int32) (I : kI) (J : kJ) (hp : pre_X11_byteAt a0 I J), av0 = [kx_r 11 0, kx_i a0] ∧ S0 = (I, J, none) ∧ r0 = (some (kx_i (F_X11_byteAt a0 I J))) ∧ S1 = (I, J, none)
theorem cs_X11_byteAt (a0 : Int32) (I : kI) (J : kJ) (hp : pre_X11_byteAt a0 I J) : sp_X11_byteAt [kx_r 11 0, kx_i a0] (I, J, none) (some (kx_i (F_X11_byteAt a0 I J))) (I, J, none) := ⟨a0, I, J, hp, rfl, rfl, rfl, rfl⟩
noncomputable def F_X11_keeper (a0 : Int32) (I : kI) (J : kJ) : Int32 × kI × kJ := (kif ((F_X11_in (Int32.toInt64 a0) (0 : Int64) (2 : Int64) I J) = 0) ((F_X11_refused (-102 : Int32) I J).1, (F_X11_refused (-102 : Int32) I J).2.1, (F_X11_refused (-102 : Int32) I J).2.2) (kif ((I 41 0 ((13 : Int32)).toNatClampNeg) = (6 : Int32)) ((F_X11_refused (-106 : Int32) I J).1, (F_X11_refused (-106 : Int32) I J).2.1, (F_X11_refused (-106 : Int32) I J).2.2) ((I 41 0 ((13 : Int32)).toNatClampNeg), (kw (kw (kw (kw (kw I 41 0 (((61 : Int32) + ((4 : Int32) * (I 41 0 ((13 : Int32)).toNatClampNeg)))).toNatClampNeg a0) 41 0 ((((61 : Int32) + ((4 : Int32) * (I 41 0 ((13 : Int32)).toNatClampNeg))) + (1 : Int32))).toNatClampNeg (0 : Int32)) 41 0 ((((61 : Int32) + ((4 : Int32) * (I 41 0 ((13 : Int32)).toNatClampNeg))) + (2 : Int32))).toNatClampNeg (0 : Int32)) 41 0 ((((61 : Int32) + ((4 : Int32) * (I 41 0 ((13 : Int32)).toNatClampNeg))) + (3 : Int32))).toNatClampNeg (0 : Int32)) 41 0 ((13 : Int32)).toNatClampNeg ((I 41 0 ((13 : Int32)).toNatClampNeg) + (1 : Int32))), J)))
def pre_X11_keeper (a0 : Int32) (I : kI) (J : kJ) : Prop := (kif ((F_X11_in (Int32.toInt64 a0) (0 : Int64) (2 : Int64) I J) = 0) (pre_X11_refused (-102 : Int32) I J ∧ True) (vp_in (13 : Int32) 2509 ∧ (kif ((I 41 0 ((13 : Int32)).toNatClampNeg) = (6 : Int32)) (pre_X11_refused (-106 : Int32) I J ∧ True) (vp_in ((61 : Int32) + ((4 : Int32) * (I 41 0 ((13 : Int32)).toNatClampNeg))) 2509 ∧ (vp_in (((61 : Int32) + ((4 : Int32) * (I 41 0 ((13 : Int32)).toNatClampNeg))) + (1 : Int32)) 2509 ∧ (vp_in (((61 : Int32) + ((4 : Int32) * (I 41 0 ((13 : Int32)).toNatClampNeg))) + (2 : Int32)) 2509 ∧ (vp_in (((61 : Int32) + ((4 : Int32) * (I 41 0 ((13 : Int32)).toNatClampNeg))) + (3 : Int32)) 2509 ∧ (vp_in (13 : Int32) 2509 ∧ True))))))))
def sp_X11_keeper : kx_Sp := fun av0 S0 r0 S1 => ∃ (a0 : Int32) (I : kI) (J : kJ) (hp : pre_X11_keeper a0 I J), av0 = [kx_r 11 0, kx_i a0] ∧ S0 = (I, J, none) ∧ r0 = (some (kx_i (F_X11_keeper a0 I J).1)) ∧ S1 = ((F_X11_keeper a0 I J).2.1, (F_X11_keeper a0 I J).2.2, none)
theorem cs_X11_keeper (a0 : Int32) (I : kI) (J : kJ) (hp : pre_X11_keeper a0 I J) : sp_X11_keeper [kx_r 11 0, kx_i a0] (I, J, none) (some (kx_i (F_X11_keeper a0 I J).1)) ((F_X11_keeper a0 I J).2.1, (F_X11_keeper a0 I J).2.2, none) := ⟨a0, I, J, hp, rfl, rfl, rfl, rfl⟩
noncomputable def F_X11_plan (a0 : Int32) (a1 : Int32) (I : kI) (J : kJ) : Int32 × kI × kJ := (kif ((F_X11_in (Int32.toInt64 a0) (0 : Int64) (23 : Int64) I J) = 0) ((F_X11_refused (-102 : Int32) I J).1, (F_X11_refused (-102 : Int32) I J).2.1, (F_X11_refused (-102 : Int32) I J).2.2) (kif (a1 = (-1 : Int32)) ((I 41 0 (((85 : Int32) + a0)).toNatClampNeg), (kw I 41 0 (((85 : Int32) + a0)).toNatClampNeg a1), J) (kif ((F_X11_isKeeper a1 I J) = 0) ((F_X11_refused (-102 : Int32) I J).1, (F_X11_refused (-102 : Int32) I J).2.1, (F_X11_refused (-102 : Int32) I J).2.2) ((I 41 0 (((85 : Int32) + a0)).toNatClampNeg), (kw I 41 0 (((85 : Int32) + a0)).toNatClampNeg a1), J))))
def pre_X11_plan (a0 : Int32) (a1 : Int32) (I : kI) (J : kJ) : Prop := (kif ((F_X11_in (Int32.toInt64 a0) (0 : Int64) (23 : Int64) I J) = 0) (pre_X11_refused (-102 : Int32) I J ∧ True) (kif (a1 = (-1 : Int32)) (vp_in ((85 : Int32) + a0) 2509 ∧ (vp_in ((85 : Int32) + a0) 2509 ∧ True)) (pre_X11_isKeeper a1 I J ∧ (kif ((F_X11_isKeeper a1 I J) = 0) (pre_X11_refused (-102 : Int32) I J ∧ True) (vp_in ((85 : Int32) + a0) 2509 ∧ (vp_in ((85 : Int32) + a0) 2509 ∧ True))))))
def sp_X11_plan : kx_Sp := fun av0 S0 r0 S1 => ∃ (a0 : Int32) (a1 : Int32) (I : kI) (J : kJ) (hp : pre_X11_plan a0 a1 I J), av0 = [kx_r 11 0, kx_i a0, kx_i a1] ∧ S0 = (I, J, none) ∧ r0 = (some (kx_i (F_X11_plan a0 a1 I J).1)) ∧ S1 = ((F_X11_plan a0 a1 I J).2.1, (F_X11_plan a0 a1 I J).2.2, none)
theorem cs_X11_plan (a0 : Int32) (a1 : Int32) (I : kI) (J : kJ) (hp : pre_X11_plan a0 a1 I J) : sp_X11_plan [kx_r 11 0, kx_i a0, kx_i a1] (I, J, none) (some (kx_i (F_X11_plan a0 a1 I J).1)) ((F_X11_plan a0 a1 I J).2.1, (F_X11_plan a0 a1 I J).2.2, none) := ⟨a0, a1, I, J, hp, rfl, rfl, rfl, rfl⟩
noncomputable def F_X11_isShelf (a0 : Int32) (I : kI) (J : kJ) : Int32 := (F_X11_in (Int32.toInt64 a0) (0 : Int64) (7 : Int64) I J)
def pre_X11_isShelf (a0 : Int32) (I : kI) (J : kJ) : Prop := ((F_X11_in (Int32.toInt64 a0) (0 : Int64) (7 : Int64) I J) = 0 ∨ (F_X11_in (Int32.toInt64 a0) (0 : Int64) (7 : Int64) I J) = 1)
def sp_X11_isShelf : kx_Sp := fun av0 S0 r0 S1 => ∃ (a0 : Int32) (I : kI) (J : kJ) (hp : pre_X11_isShelf a0 I J), av0 = [kx_i a0] ∧ S0 = (I, J, none) ∧ r0 = (some (kx_i (F_X11_isShelf a0 I J))) ∧ S1 = (I, J, none)
theorem cs_X11_isShelf (a0 : Int32) (I : kI) (J : kJ) (hp : pre_X11_isShelf a0 I J) : sp_X11_isShelf [kx_i a0] (I, J, none) (some (kx_i (F_X11_isShelf a0 I J))) (I, J, none) := ⟨a0, I, J, hp, rfl, rfl, rfl, rfl⟩
noncomputable def F_X11_boat (a0 : Int32) (a1 : Int32) (I : kI) (J : kJ) : Int32 × kI × kJ := (kif (a0 = 0) (kif (a1 = (-1 : Int32)) (kif ((1 : Int32) = 0) ((F_X11_refused (-102 : Int32) I J).1, (F_X11_refused (-102 : Int32) I J).2.1, (F_X11_refused (-102 : Int32) I J).2.2) ((I 41 0 (((8 : Int32) + a0)).toNatClampNeg), (kw I 41 0 (((8 : Int32) + a0)).toNatClampNeg a1), J)) (kif ((F_X11_in (Int32.toInt64 a1) (Int32.toInt64 (I 41 0 ((0 : Int32)).toNatClampNeg)) ((Int32.toInt64 (I 41 0 ((0 : Int32)).toNatClampNeg)) + (9999 : Int64)) I J) = 0) (kif (a0 = (1 : Int32)) (kif ((F_X11_in (Int32.toInt64 a1) (1 : Int64) (999 : Int64) I J) = 0) (kif ((F_X11_in (Int32.toInt64 a0) (2 : Int64) (3 : Int64) I J) = 0) (kif ((0 : Int32) = 0) ((F_X11_refused (-102 : Int32) I J).1, (F_X11_refused (-102 : Int32) I J).2.1, (F_X11_refused (-102 : Int32) I J).2.2) ((I 41 0 (((8 : Int32) + a0)).toNatClampNeg), (kw I 41 0 (((8 : Int32) + a0)).toNatClampNeg a1), J)) (kif ((F_X11_in (Int32.toInt64 a1) (0 : Int64) (9999 : Int64) I J) = 0) (kif ((0 : Int32) = 0) ((F_X11_refused (-102 : Int32) I J).1, (F_X11_refused (-102 : Int32) I J).2.1, (F_X11_refused (-102 : Int32) I J).2.2) ((I 41 0 (((8 : Int32) + a0)).toNatClampNeg), (kw I 41 0 (((8 : Int32) + a0)).toNatClampNeg a1), J)) (kif ((1 : Int32) = 0) ((F_X11_refused (-102 : Int32) I J).1, (F_X11_refused (-102 : Int32) I J).2.1, (F_X11_refused (-102 : Int32) I J).2.2) ((I 41 0 (((8 : Int32) + a0)).toNatClampNeg), (kw I 41 0 (((8 : Int32) + a0)).toNatClampNeg a1), J)))) (kif ((1 : Int32) = 0) ((F_X11_refused (-102 : Int32) I J).1, (F_X11_refused (-102 : Int32) I J).2.1, (F_X11_refused (-102 : Int32) I J).2.2) ((I 41 0 (((8 : Int32) + a0)).toNatClampNeg), (kw I 41 0 (((8 : Int32) + a0)).toNatClampNeg a1), J))) (kif ((F_X11_in (Int32.toInt64 a0) (2 : Int64) (3 : Int64) I J) = 0) (kif ((0 : Int32) = 0) ((F_X11_refused (-102 : Int32) I J).1, (F_X11_refused (-102 : Int32) I J).2.1, (F_X11_refused (-102 : Int32) I J).2.2) ((I 41 0 (((8 : Int32) + a0)).toNatClampNeg), (kw I 41 0 (((8 : Int32) + a0)).toNatClampNeg a1), J)) (kif ((F_X11_in (Int32.toInt64 a1) (0 : Int64) (9999 : Int64) I J) = 0) (kif ((0 : Int32) = 0) ((F_X11_refused (-102 : Int32) I J).1, (F_X11_refused (-102 : Int32) I J).2.1, (F_X11_refused (-102 : Int32) I J).2.2) ((I 41 0 (((8 : Int32) + a0)).toNatClampNeg), (kw I 41 0 (((8 : Int32) + a0)).toNatClampNeg a1), J)) (kif ((1 : Int32) = 0) ((F_X11_refused (-102 : Int32) I J).1, (F_X11_refused (-102 : Int32) I J).2.1, (F_X11_refused (-102 : Int32) I J).2.2) ((I 41 0 (((8 : Int32) + a0)).toNatClampNeg), (kw I 41 0 (((8 : Int32) + a0)).toNatClampNeg a1), J))))) (kif ((1 : Int32) = 0) ((F_X11_refused (-102 : Int32) I J).1, (F_X11_refused (-102 : Int32) I J).2.1, (F_X11_refused (-102 : Int32) I J).2.2) ((I 41 0 (((8 : Int32) + a0)).toNatClampNeg), (kw I 41 0 (((8 : Int32) + a0)).toNatClampNeg a1), J)))) (kif (a0 = (1 : Int32)) (kif ((F_X11_in (Int32.toInt64 a1) (1 : Int64) (999 : Int64) I J) = 0) (kif ((F_X11_in (Int32.toInt64 a0) (2 : Int64) (3 : Int64) I J) = 0) (kif ((0 : Int32) = 0) ((F_X11_refused (-102 : Int32) I J).1, (F_X11_refused (-102 : Int32) I J).2.1, (F_X11_refused (-102 : Int32) I J).2.2) ((I 41 0 (((8 : Int32) + a0)).toNatClampNeg), (kw I 41 0 (((8 : Int32) + a0)).toNatClampNeg a1), J)) (kif ((F_X11_in (Int32.toInt64 a1) (0 : Int64) (9999 : Int64) I J) = 0) (kif ((0 : Int32) = 0) ((F_X11_refused (-102 : Int32) I J).1, (F_X11_refused (-102 : Int32) I J).2.1, (F_X11_refused (-102 : Int32) I J).2.2) ((I 41 0 (((8 : Int32) + a0)).toNatClampNeg), (kw I 41 0 (((8 : Int32) + a0)).toNatClampNeg a1), J)) (kif ((1 : Int32) = 0) ((F_X11_refused (-102 : Int32) I J).1, (F_X11_refused (-102 : Int32) I J).2.1, (F_X11_refused (-102 : Int32) I J).2.2) ((I 41 0 (((8 : Int32) + a0)).toNatClampNeg), (kw I 41 0 (((8 : Int32) + a0)).toNatClampNeg a1), J)))) (kif ((1 : Int32) = 0) ((F_X11_refused (-102 : Int32) I J).1, (F_X11_refused (-102 : Int32) I J).2.1, (F_X11_refused (-102 : Int32) I J).2.2) ((I 41 0 (((8 : Int32) + a0)).toNatClampNeg), (kw I 41 0 (((8 : Int32) + a0)).toNatClampNeg a1), J))) (kif ((F_X11_in (Int32.toInt64 a0) (2 : Int64) (3 : Int64) I J) = 0) (kif ((0 : Int32) = 0) ((F_X11_refused (-102 : Int32) I J).1, (F_X11_refused (-102 : Int32) I J).2.1, (F_X11_refused (-102 : Int32) I J).2.2) ((I 41 0 (((8 : Int32) + a0)).toNatClampNeg), (kw I 41 0 (((8 : Int32) + a0)).toNatClampNeg a1), J)) (kif ((F_X11_in (Int32.toInt64 a1) (0 : Int64) (9999 : Int64) I J) = 0) (kif ((0 : Int32) = 0) ((F_X11_refused (-102 : Int32) I J).1, (F_X11_refused (-102 : Int32) I J).2.1, (F_X11_refused (-102 : Int32) I J).2.2) ((I 41 0 (((8 : Int32) + a0)).toNatClampNeg), (kw I 41 0 (((8 : Int32) + a0)).toNatClampNeg a1), J)) (kif ((1 : Int32) = 0) ((F_X11_refused (-102 : Int32) I J).1, (F_X11_refused (-102 : Int32) I J).2.1, (F_X11_refused (-102 : Int32) I J).2.2) ((I 41 0 (((8 : Int32) + a0)).toNatClampNeg), (kw I 41 0 (((8 : Int32) + a0)).toNatClampNeg a1), J))))))
def pre_X11_boat (a0 : Int32) (a1 : Int32) (I : kI) (J : kJ) : Prop := (kif (a0 = 0) (kif (a1 = (-1 : Int32)) (kif ((1 : Int32) = 0) (pre_X11_refused (-102 : Int32) I J ∧ True) (vp_in ((8 : Int32) + a0) 2509 ∧ (vp_in ((8 : Int32) + a0) 2509 ∧ True))) (vp_in (0 : Int32) 2509 ∧ (vp_in (0 : Int32) 2509 ∧ (kif ((F_X11_in (Int32.toInt64 a1) (Int32.toInt64 (I 41 0 ((0 : Int32)).toNatClampNeg)) ((Int32.toInt64 (I 41 0 ((0 : Int32)).toNatClampNeg)) + (9999 : Int64)) I J) = 0) (kif (a0 = (1 : Int32)) (kif ((F_X11_in (Int32.toInt64 a1) (1 : Int64) (999 : Int64) I J) = 0) (kif ((F_X11_in (Int32.toInt64 a0) (2 : Int64) (3 : Int64) I J) = 0) (kif ((0 : Int32) = 0) (pre_X11_refused (-102 : Int32) I J ∧ True) (vp_in ((8 : Int32) + a0) 2509 ∧ (vp_in ((8 : Int32) + a0) 2509 ∧ True))) (kif ((F_X11_in (Int32.toInt64 a1) (0 : Int64) (9999 : Int64) I J) = 0) (kif ((0 : Int32) = 0) (pre_X11_refused (-102 : Int32) I J ∧ True) (vp_in ((8 : Int32) + a0) 2509 ∧ (vp_in ((8 : Int32) + a0) 2509 ∧ True))) (kif ((1 : Int32) = 0) (pre_X11_refused (-102 : Int32) I J ∧ True) (vp_in ((8 : Int32) + a0) 2509 ∧ (vp_in ((8 : Int32) + a0) 2509 ∧ True))))) (kif ((1 : Int32) = 0) (pre_X11_refused (-102 : Int32) I J ∧ True) (vp_in ((8 : Int32) + a0) 2509 ∧ (vp_in ((8 : Int32) + a0) 2509 ∧ True)))) (kif ((F_X11_in (Int32.toInt64 a0) (2 : Int64) (3 : Int64) I J) = 0) (kif ((0 : Int32) = 0) (pre_X11_refused (-102 : Int32) I J ∧ True) (vp_in ((8 : Int32) + a0) 2509 ∧ (vp_in ((8 : Int32) + a0) 2509 ∧ True))) (kif ((F_X11_in (Int32.toInt64 a1) (0 : Int64) (9999 : Int64) I J) = 0) (kif ((0 : Int32) = 0) (pre_X11_refused (-102 : Int32) I J ∧ True) (vp_in ((8 : Int32) + a0) 2509 ∧ (vp_in ((8 : Int32) + a0) 2509 ∧ True))) (kif ((1 : Int32) = 0) (pre_X11_refused (-102 : Int32) I J ∧ True) (vp_in ((8 : Int32) + a0) 2509 ∧ (vp_in ((8 : Int32) + a0) 2509 ∧ True)))))) (kif ((1 : Int32) = 0) (pre_X11_refused (-102 : Int32) I J ∧ True) (vp_in ((8 : Int32) + a0) 2509 ∧ (vp_in ((8 : Int32) + a0) 2509 ∧ True))))))) (kif (a0 = (1 : Int32)) (kif ((F_X11_in (Int32.toInt64 a1) (1 : Int64) (999 : Int64) I J) = 0) (kif ((F_X11_in (Int32.toInt64 a0) (2 : Int64) (3 : Int64) I J) = 0) (kif ((0 : Int32) = 0) (pre_X11_refused (-102 : Int32) I J ∧ True) (vp_in ((8 : Int32) + a0) 2509 ∧ (vp_in ((8 : Int32) + a0) 2509 ∧ True))) (kif ((F_X11_in (Int32.toInt64 a1) (0 : Int64) (9999 : Int64) I J) = 0) (kif ((0 : Int32) = 0) (pre_X11_refused (-102 : Int32) I J ∧ True) (vp_in ((8 : Int32) + a0) 2509 ∧ (vp_in ((8 : Int32) + a0) 2509 ∧ True))) (kif ((1 : Int32) = 0) (pre_X11_refused (-102 : Int32) I J ∧ True) (vp_in ((8 : Int32) + a0) 2509 ∧ (vp_in ((8 : Int32) + a0) 2509 ∧ True))))) (kif ((1 : Int32) = 0) (pre_X11_refused (-102 : Int32) I J ∧ True) (vp_in ((8 : Int32) + a0) 2509 ∧ (vp_in ((8 : Int32) + a0) 2509 ∧ True)))) (kif ((F_X11_in (Int32.toInt64 a0) (2 : Int64) (3 : Int64) I J) = 0) (kif ((0 : Int32) = 0) (pre_X11_refused (-102 : Int32) I J ∧ True) (vp_in ((8 : Int32) + a0) 2509 ∧ (vp_in ((8 : Int32) + a0) 2509 ∧ True))) (kif ((F_X11_in (Int32.toInt64 a1) (0 : Int64) (9999 : Int64) I J) = 0) (kif ((0 : Int32) = 0) (pre_X11_refused (-102 : Int32) I J ∧ True) (vp_in ((8 : Int32) + a0) 2509 ∧ (vp_in ((8 : Int32) + a0) 2509 ∧ True))) (kif ((1 : Int32) = 0) (pre_X11_refused (-102 : Int32) I J ∧ True) (vp_in ((8 : Int32) + a0) 2509 ∧ (vp_in ((8 : Int32) + a0) 2509 ∧ True)))))))
def sp_X11_boat : kx_Sp := fun av0 S0 r0 S1 => ∃ (a0 : Int32) (a1 : Int32) (I : kI) (J : kJ) (hp : pre_X11_boat a0 a1 I J), av0 = [kx_r 11 0, kx_i a0, kx_i a1] ∧ S0 = (I, J, none) ∧ r0 = (some (kx_i (F_X11_boat a0 a1 I J).1)) ∧ S1 = ((F_X11_boat a0 a1 I J).2.1, (F_X11_boat a0 a1 I J).2.2, none)
theorem cs_X11_boat (a0 : Int32) (a1 : Int32) (I : kI) (J : kJ) (hp : pre_X11_boat a0 a1 I J) : sp_X11_boat [kx_r 11 0, kx_i a0, kx_i a1] (I, J, none) (some (kx_i (F_X11_boat a0 a1 I J).1)) ((F_X11_boat a0 a1 I J).2.1, (F_X11_boat a0 a1 I J).2.2, none) := ⟨a0, a1, I, J, hp, rfl, rfl, rfl, rfl⟩
noncomputable def F_X11_comesShip (a0 : Int32) (a1 : Int32) (I : kI) (J : kJ) : Int32 × kI × kJ := ((I 41 0 ((14 : Int32)).toNatClampNeg), (kw (kw (kw (kw (kw I 41 0 (((109 : Int32) + ((4 : Int32) * (I 41 0 ((14 : Int32)).toNatClampNeg)))).toNatClampNeg a0) 41 0 ((((109 : Int32) + ((4 : Int32) * (I 41 0 ((14 : Int32)).toNatClampNeg))) + (1 : Int32))).toNatClampNeg a1) 41 0 ((((109 : Int32) + ((4 : Int32) * (I 41 0 ((14 : Int32)).toNatClampNeg))) + (2 : Int32))).toNatClampNeg (-1 : Int32)) 41 0 ((((109 : Int32) + ((4 : Int32) * (I 41 0 ((14 : Int32)).toNatClampNeg))) + (3 : Int32))).toNatClampNeg (-1 : Int32)) 41 0 ((14 : Int32)).toNatClampNeg ((I 41 0 ((14 : Int32)).toNatClampNeg) + (1 : Int32))), J)
def pre_X11_comesShip (a0 : Int32) (a1 : Int32) (I : kI) (J : kJ) : Prop := (vp_in (14 : Int32) 2509 ∧ (vp_in ((109 : Int32) + ((4 : Int32) * (I 41 0 ((14 : Int32)).toNatClampNeg))) 2509 ∧ (vp_in (((109 : Int32) + ((4 : Int32) * (I 41 0 ((14 : Int32)).toNatClampNeg))) + (1 : Int32)) 2509 ∧ (vp_in (((109 : Int32) + ((4 : Int32) * (I 41 0 ((14 : Int32)).toNatClampNeg))) + (2 : Int32)) 2509 ∧ (vp_in (((109 : Int32) + ((4 : Int32) * (I 41 0 ((14 : Int32)).toNatClampNeg))) + (3 : Int32)) 2509 ∧ (vp_in (14 : Int32) 2509 ∧ True))))))
def sp_X11_comesShip : kx_Sp := fun av0 S0 r0 S1 => ∃ (a0 : Int32) (a1 : Int32) (I : kI) (J : kJ) (hp : pre_X11_comesShip a0 a1 I J), av0 = [kx_r 11 0, kx_i a0, kx_i a1] ∧ S0 = (I, J, none) ∧ r0 = (some (kx_i (F_X11_comesShip a0 a1 I J).1)) ∧ S1 = ((F_X11_comesShip a0 a1 I J).2.1, (F_X11_comesShip a0 a1 I J).2.2, none)
theorem cs_X11_comesShip (a0 : Int32) (a1 : Int32) (I : kI) (J : kJ) (hp : pre_X11_comesShip a0 a1 I J) : sp_X11_comesShip [kx_r 11 0, kx_i a0, kx_i a1] (I, J, none) (some (kx_i (F_X11_comesShip a0 a1 I J).1)) ((F_X11_comesShip a0 a1 I J).2.1, (F_X11_comesShip a0 a1 I J).2.2, none) := ⟨a0, a1, I, J, hp, rfl, rfl, rfl, rfl⟩
noncomputable def F_X11_ship (a0 : Int32) (a1 : Int32) (I : kI) (J : kJ) : Int32 × kI × kJ := (kif ((F_X11_in (Int32.toInt64 a0) (3 : Int64) (7 : Int64) I J) = 0) ((F_X11_refused (-102 : Int32) I J).1, (F_X11_refused (-102 : Int32) I J).2.1, (F_X11_refused (-102 : Int32) I J).2.2) (kif ((F_X11_in (Int32.toInt64 a1) (Int32.toInt64 (I 41 0 ((0 : Int32)).toNatClampNeg)) ((Int32.toInt64 (I 41 0 ((0 : Int32)).toNatClampNeg)) + (999 : Int64)) I J) = 0) ((F_X11_refused (-102 : Int32) I J).1, (F_X11_refused (-102 : Int32) I J).2.1, (F_X11_refused (-102 : Int32) I J).2.2) (kif ((I 41 0 ((14 : Int32)).toNatClampNeg) = (200 : Int32)) ((F_X11_refused (-106 : Int32) I J).1, (F_X11_refused (-106 : Int32) I J).2.1, (F_X11_refused (-106 : Int32) I J).2.2) ((F_X11_comesShip a0 a1 I J).1, (F_X11_comesShip a0 a1 I J).2.1, (F_X11_comesShip a0 a1 I J).2.2))))
def pre_X11_ship (a0 : Int32) (a1 : Int32) (I : kI) (J : kJ) : Prop := (kif ((F_X11_in (Int32.toInt64 a0) (3 : Int64) (7 : Int64) I J) = 0) (pre_X11_refused (-102 : Int32) I J ∧ True) (vp_in (0 : Int32) 2509 ∧ (vp_in (0 : Int32) 2509 ∧ (kif ((F_X11_in (Int32.toInt64 a1) (Int32.toInt64 (I 41 0 ((0 : Int32)).toNatClampNeg)) ((Int32.toInt64 (I 41 0 ((0 : Int32)).toNatClampNeg)) + (999 : Int64)) I J) = 0) (pre_X11_refused (-102 : Int32) I J ∧ True) (vp_in (14 : Int32) 2509 ∧ (kif ((I 41 0 ((14 : Int32)).toNatClampNeg) = (200 : Int32)) (pre_X11_refused (-106 : Int32) I J ∧ True) (pre_X11_comesShip a0 a1 I J ∧ True)))))))
def sp_X11_ship : kx_Sp := fun av0 S0 r0 S1 => ∃ (a0 : Int32) (a1 : Int32) (I : kI) (J : kJ) (hp : pre_X11_ship a0 a1 I J), av0 = [kx_r 11 0, kx_i a0, kx_i a1] ∧ S0 = (I, J, none) ∧ r0 = (some (kx_i (F_X11_ship a0 a1 I J).1)) ∧ S1 = ((F_X11_ship a0 a1 I J).2.1, (F_X11_ship a0 a1 I J).2.2, none)
theorem cs_X11_ship (a0 : Int32) (a1 : Int32) (I : kI) (J : kJ) (hp : pre_X11_ship a0 a1 I J) : sp_X11_ship [kx_r 11 0, kx_i a0, kx_i a1] (I, J, none) (some (kx_i (F_X11_ship a0 a1 I J).1)) ((F_X11_ship a0 a1 I J).2.1, (F_X11_ship a0 a1 I J).2.2, none) := ⟨a0, a1, I, J, hp, rfl, rfl, rfl, rfl⟩
noncomputable def F_X11_dark (a0 : Int32) (I : kI) (J : kJ) : Int32 × kI × kJ := (kif (0 ≤ a0) (kif ((F_X11_isDark a0 I J) = 0) ((0 : Int32), I, J) ((1 : Int32), I, J)) ((F_X11_refused (-102 : Int32) I J).1, (F_X11_refused (-102 : Int32) I J).2.1, (F_X11_refused (-102 : Int32) I J).2.2))
def pre_X11_dark (a0 : Int32) (I : kI) (J : kJ) : Prop := (kif (0 ≤ a0) (pre_X11_isDark a0 I J ∧ True) (pre_X11_refused (-102 : Int32) I J ∧ True))
def sp_X11_dark : kx_Sp := fun av0 S0 r0 S1 => ∃ (a0 : Int32) (I : kI) (J : kJ) (hp : pre_X11_dark a0 I J), av0 = [kx_r 11 0, kx_i a0] ∧ S0 = (I, J, none) ∧ r0 = (some (kx_i (F_X11_dark a0 I J).1)) ∧ S1 = ((F_X11_dark a0 I J).2.1, (F_X11_dark a0 I J).2.2, none)
theorem cs_X11_dark (a0 : Int32) (I : kI) (J : kJ) (hp : pre_X11_dark a0 I J) : sp_X11_dark [kx_r 11 0, kx_i a0] (I, J, none) (some (kx_i (F_X11_dark a0 I J).1)) ((F_X11_dark a0 I J).2.1, (F_X11_dark a0 I J).2.2, none) := ⟨a0, I, J, hp, rfl, rfl, rfl, rfl⟩
noncomputable def F_X11_shipOf (a0 : Int32) (a1 : Int32) (I : kI) (J : kJ) : Int32 × kI × kJ := (kif ((F_X11_isShip a0 I J) = 0) ((F_X11_refused (-102 : Int32) I J).1, (F_X11_refused (-102 : Int32) I J).2.1, (F_X11_refused (-102 : Int32) I J).2.2) (kif ((F_X11_in (Int32.toInt64 a1) (0 : Int64) (3 : Int64) I J) = 0) ((F_X11_refused (-102 : Int32) I J).1, (F_X11_refused (-102 : Int32) I J).2.1, (F_X11_refused (-102 : Int32) I J).2.2) ((F_X11_ofShip a0 a1 I J), I, J)))
def pre_X11_shipOf (a0 : Int32) (a1 : Int32) (I : kI) (J : kJ) : Prop := (pre_X11_isShip a0 I J ∧ (kif ((F_X11_isShip a0 I J) = 0) (pre_X11_refused (-102 : Int32) I J ∧ True) (kif ((F_X11_in (Int32.toInt64 a1) (0 : Int64) (3 : Int64) I J) = 0) (pre_X11_refused (-102 : Int32) I J ∧ True) (pre_X11_ofShip a0 a1 I J ∧ True))))
def sp_X11_shipOf : kx_Sp := fun av0 S0 r0 S1 => ∃ (a0 : Int32) (a1 : Int32) (I : kI) (J : kJ) (hp : pre_X11_shipOf a0 a1 I J), av0 = [kx_r 11 0, kx_i a0, kx_i a1] ∧ S0 = (I, J, none) ∧ r0 = (some (kx_i (F_X11_shipOf a0 a1 I J).1)) ∧ S1 = ((F_X11_shipOf a0 a1 I J).2.1, (F_X11_shipOf a0 a1 I J).2.2, none)
theorem cs_X11_shipOf (a0 : Int32) (a1 : Int32) (I : kI) (J : kJ) (hp : pre_X11_shipOf a0 a1 I J) : sp_X11_shipOf [kx_r 11 0, kx_i a0, kx_i a1] (I, J, none) (some (kx_i (F_X11_shipOf a0 a1 I J).1)) ((F_X11_shipOf a0 a1 I J).2.1, (F_X11_shipOf a0 a1 I J).2.2, none) := ⟨a0, a1, I, J, hp, rfl, rfl, rfl, rfl⟩
noncomputable def F_X11_isUnder (a0 : Int32) (a1 : Int32) (I : kI) (J : kJ) : Int32 := (kif (a1 = 0) (1 : Int32) (kif (a0 = a1) (1 : Int32) (kif (a1 = (1 : Int32)) (kif ((F_X11_isSmall a0 I J) = 0) (kif (a1 = (2 : Int32)) (kif ((5 : Int32) ≤ a0) (1 : Int32) (kif (a1 = (6 : Int32)) (kif (a0 = (7 : Int32)) (1 : Int32) (0 : Int32)) (0 : Int32))) (kif (a1 = (6 : Int32)) (kif (a0 = (7 : Int32)) (1 : Int32) (0 : Int32)) (0 : Int32))) (1 : Int32)) (kif (a1 = (2 : Int32)) (kif ((5 : Int32) ≤ a0) (1 : Int32) (kif (a1 = (6 : Int32)) (kif (a0 = (7 : Int32)) (1 : Int32) (0 : Int32)) (0 : Int32))) (kif (a1 = (6 : Int32)) (kif (a0 = (7 : Int32)) (1 : Int32) (0 : Int32)) (0 : Int32))))))
def sp_X11_isUnder : kx_Sp := fun av0 S0 r0 S1 => ∃ (a0 : Int32) (a1 : Int32) (I : kI) (J : kJ), av0 = [kx_i a0, kx_i a1] ∧ S0 = (I, J, none) ∧ r0 = (some (kx_i (F_X11_isUnder a0 a1 I J))) ∧ S1 = (I, J, none)
theorem cs_X11_isUnder (a0 : Int32) (a1 : Int32) (I : kI) (J : kJ) : sp_X11_isUnder [kx_i a0, kx_i a1] (I, J, none) (some (kx_i (F_X11_isUnder a0 a1 I J))) (I, J, none) := ⟨a0, a1, I, J, rfl, rfl, rfl, rfl⟩
noncomputable def F_X11_log (a0 : Int32) (a1 : Int32) (I : kI) (J : kJ) : Int32 × kI × kJ := (kif ((F_X11_in (Int32.toInt64 a0) (0 : Int64) (Int32.toInt64 ((I 41 0 ((15 : Int32)).toNatClampNeg) - (1 : Int32))) I J) = 0) ((F_X11_refused (-102 : Int32) I J).1, (F_X11_refused (-102 : Int32) I J).2.1, (F_X11_refused (-102 : Int32) I J).2.2) (kif ((F_X11_in (Int32.toInt64 a1) (0 : Int64) (3 : Int64) I J) = 0) ((F_X11_refused (-102 : Int32) I J).1, (F_X11_refused (-102 : Int32) I J).2.1, (F_X11_refused (-102 : Int32) I J).2.2) ((I 41 0 ((((909 : Int32) + ((4 : Int32) * a0)) + a1)).toNatClampNeg), I, J)))
def pre_X11_log (a0 : Int32) (a1 : Int32) (I : kI) (J : kJ) : Prop := (vp_in (15 : Int32) 2509 ∧ (kif ((F_X11_in (Int32.toInt64 a0) (0 : Int64) (Int32.toInt64 ((I 41 0 ((15 : Int32)).toNatClampNeg) - (1 : Int32))) I J) = 0) (pre_X11_refused (-102 : Int32) I J ∧ True) (kif ((F_X11_in (Int32.toInt64 a1) (0 : Int64) (3 : Int64) I J) = 0) (pre_X11_refused (-102 : Int32) I J ∧ True) (vp_in (((909 : Int32) + ((4 : Int32) * a0)) + a1) 2509 ∧ True))))
def sp_X11_log : kx_Sp := fun av0 S0 r0 S1 => ∃ (a0 : Int32) (a1 : Int32) (I : kI) (J : kJ) (hp : pre_X11_log a0 a1 I J), av0 = [kx_r 11 0, kx_i a0, kx_i a1] ∧ S0 = (I, J, none) ∧ r0 = (some (kx_i (F_X11_log a0 a1 I J).1)) ∧ S1 = ((F_X11_log a0 a1 I J).2.1, (F_X11_log a0 a1 I J).2.2, none)
theorem cs_X11_log (a0 : Int32) (a1 : Int32) (I : kI) (J : kJ) (hp : pre_X11_log a0 a1 I J) : sp_X11_log [kx_r 11 0, kx_i a0, kx_i a1] (I, J, none) (some (kx_i (F_X11_log a0 a1 I J).1)) ((F_X11_log a0 a1 I J).2.1, (F_X11_log a0 a1 I J).2.2, none) := ⟨a0, a1, I, J, hp, rfl, rfl, rfl, rfl⟩
noncomputable def F_X11_unlit  (I : kI) (J : kJ) : Int32 := (I 41 0 ((17 : Int32)).toNatClampNeg)
def pre_X11_unlit  (I : kI) (J : kJ) : Prop := (vp_in (17 : Int32) 2509 ∧ True)
def sp_X11_unlit : kx_Sp := fun av0 S0 r0 S1 => ∃ (I : kI) (J : kJ) (hp : pre_X11_unlit  I J), av0 = [kx_r 11 0] ∧ S0 = (I, J, none) ∧ r0 = (some (kx_i (F_X11_unlit  I J))) ∧ S1 = (I, J, none)
theorem cs_X11_unlit  (I : kI) (J : kJ) (hp : pre_X11_unlit  I J) : sp_X11_unlit [kx_r 11 0] (I, J, none) (some (kx_i (F_X11_unlit  I J))) (I, J, none) := ⟨I, J, hp, rfl, rfl, rfl, rfl⟩
noncomputable def F_X11_lowest (a0 : Int32) (a1 : Int64) (I : kI) (J : kJ) : Int64 := (kif (a0 = (0)) (Int32.toInt64 (Int8.toInt32 (Int32.toInt8 (Int64.toInt32 a1)))) (kif (a0 = (1)) (Int32.toInt64 (Int16.toInt32 (Int32.toInt16 (Int64.toInt32 a1)))) (kif (a0 = (2)) (Int32.toInt64 (Int64.toInt32 a1)) (kif (a0 = (3)) a1 (kif ((lg_cmp a1 (0 : Int64)) = 0) (0 : Int64) (1 : Int64))))))
def sp_X11_lowest : kx_Sp := fun av0 S0 r0 S1 => ∃ (a0 : Int32) (a1 : Int64) (I : kI) (J : kJ), av0 = [kx_i a0, kx_l a1] ∧ S0 = (I, J, none) ∧ r0 = (some (kx_l (F_X11_lowest a0 a1 I J))) ∧ S1 = (I, J, none)
theorem cs_X11_lowest (a0 : Int32) (a1 : Int64) (I : kI) (J : kJ) : sp_X11_lowest [kx_i a0, kx_l a1] (I, J, none) (some (kx_l (F_X11_lowest a0 a1 I J))) (I, J, none) := ⟨a0, a1, I, J, rfl, rfl, rfl, rfl⟩
noncomputable def F_X11_set (a0 : Int32) (a1 : Int32) (a2 : Int64) (I : kI) (J : kJ) : Int32 × kI × kJ := (kif ((F_X11_isShelf a0 I J) = 0) ((F_X11_refused (-102 : Int32) I J).1, (F_X11_refused (-102 : Int32) I J).2.1, (F_X11_refused (-102 : Int32) I J).2.2) (kif ((I 49 0 (a0).toNatClampNeg) ≤ (4 : Int32)) (kif (0 ≤ (I 49 0 (a0).toNatClampNeg)) (kif ((F_X11_in (Int32.toInt64 a1) (0 : Int64) (Int32.toInt64 ((I 50 0 (a0).toNatClampNeg) - (1 : Int32))) I J) = 0) ((F_X11_refused (-102 : Int32) I J).1, (F_X11_refused (-102 : Int32) I J).2.1, (F_X11_refused (-102 : Int32) I J).2.2) ((1 : Int32), I, (kwL J 51 0 ((((40 : Int32) * a0) + a1)).toNatClampNeg (F_X11_lowest (I 49 0 (a0).toNatClampNeg) a2 I J)))) ((F_X11_refused (-104 : Int32) I J).1, (F_X11_refused (-104 : Int32) I J).2.1, (F_X11_refused (-104 : Int32) I J).2.2)) ((F_X11_refused (-103 : Int32) I J).1, (F_X11_refused (-103 : Int32) I J).2.1, (F_X11_refused (-103 : Int32) I J).2.2)))
def pre_X11_set (a0 : Int32) (a1 : Int32) (a2 : Int64) (I : kI) (J : kJ) : Prop := (pre_X11_isShelf a0 I J ∧ (kif ((F_X11_isShelf a0 I J) = 0) (pre_X11_refused (-102 : Int32) I J ∧ True) (vp_in a0 8 ∧ (kif ((I 49 0 (a0).toNatClampNeg) ≤ (4 : Int32)) (vp_in a0 8 ∧ (kif (0 ≤ (I 49 0 (a0).toNatClampNeg)) (vp_in a0 8 ∧ (kif ((F_X11_in (Int32.toInt64 a1) (0 : Int64) (Int32.toInt64 ((I 50 0 (a0).toNatClampNeg) - (1 : Int32))) I J) = 0) (pre_X11_refused (-102 : Int32) I J ∧ True) (vp_in a0 8 ∧ (vp_in (((40 : Int32) * a0) + a1) 320 ∧ True)))) (pre_X11_refused (-104 : Int32) I J ∧ True))) (pre_X11_refused (-103 : Int32) I J ∧ True)))))
def sp_X11_set : kx_Sp := fun av0 S0 r0 S1 => ∃ (a0 : Int32) (a1 : Int32) (a2 : Int64) (I : kI) (J : kJ) (hp : pre_X11_set a0 a1 a2 I J), av0 = [kx_r 11 0, kx_i a0, kx_i a1, kx_l a2] ∧ S0 = (I, J, none) ∧ r0 = (some (kx_i (F_X11_set a0 a1 a2 I J).1)) ∧ S1 = ((F_X11_set a0 a1 a2 I J).2.1, (F_X11_set a0 a1 a2 I J).2.2, none)
theorem cs_X11_set (a0 : Int32) (a1 : Int32) (a2 : Int64) (I : kI) (J : kJ) (hp : pre_X11_set a0 a1 a2 I J) : sp_X11_set [kx_r 11 0, kx_i a0, kx_i a1, kx_l a2] (I, J, none) (some (kx_i (F_X11_set a0 a1 a2 I J).1)) ((F_X11_set a0 a1 a2 I J).2.1, (F_X11_set a0 a1 a2 I J).2.2, none) := ⟨a0, a1, a2, I, J, hp, rfl, rfl, rfl, rfl⟩
noncomputable def F_X11_element (a0 : Int32) (a1 : Int32) (I : kI) (J : kJ) : Int64 := (kif ((F_X11_isShelf a0 I J) = 0) (0 : Int64) (kif ((F_X11_in (Int32.toInt64 (I 49 0 (a0).toNatClampNeg)) (0 : Int64) (4 : Int64) I J) = 0) (0 : Int64) (kif ((F_X11_in (Int32.toInt64 a1) (0 : Int64) (Int32.toInt64 ((I 50 0 (a0).toNatClampNeg) - (1 : Int32))) I J) = 0) (0 : Int64) (J 51 0 ((((40 : Int32) * a0) + a1)).toNatClampNeg))))
def pre_X11_element (a0 : Int32) (a1 : Int32) (I : kI) (J : kJ) : Prop := (pre_X11_isShelf a0 I J ∧ (kif ((F_X11_isShelf a0 I J) = 0) True (vp_in a0 8 ∧ (kif ((F_X11_in (Int32.toInt64 (I 49 0 (a0).toNatClampNeg)) (0 : Int64) (4 : Int64) I J) = 0) True (vp_in a0 8 ∧ (kif ((F_X11_in (Int32.toInt64 a1) (0 : Int64) (Int32.toInt64 ((I 50 0 (a0).toNatClampNeg) - (1 : Int32))) I J) = 0) True (vp_in (((40 : Int32) * a0) + a1) 320 ∧ True)))))))
def sp_X11_element : kx_Sp := fun av0 S0 r0 S1 => ∃ (a0 : Int32) (a1 : Int32) (I : kI) (J : kJ) (hp : pre_X11_element a0 a1 I J), av0 = [kx_r 11 0, kx_i a0, kx_i a1] ∧ S0 = (I, J, none) ∧ r0 = (some (kx_l (F_X11_element a0 a1 I J))) ∧ S1 = (I, J, none)
theorem cs_X11_element (a0 : Int32) (a1 : Int32) (I : kI) (J : kJ) (hp : pre_X11_element a0 a1 I J) : sp_X11_element [kx_r 11 0, kx_i a0, kx_i a1] (I, J, none) (some (kx_l (F_X11_element a0 a1 I J))) (I, J, none) := ⟨a0, a1, I, J, hp, rfl, rfl, rfl, rfl⟩
noncomputable def F_X11_holds (a0 : Int32) (I : kI) (J : kJ) : Int32 := (kif ((F_X11_isShelf a0 I J) = 0) (-1 : Int32) (I 49 0 (a0).toNatClampNeg))
def pre_X11_holds (a0 : Int32) (I : kI) (J : kJ) : Prop := (pre_X11_isShelf a0 I J ∧ (kif ((F_X11_isShelf a0 I J) = 0) True (vp_in a0 8 ∧ True)))
def sp_X11_holds : kx_Sp := fun av0 S0 r0 S1 => ∃ (a0 : Int32) (I : kI) (J : kJ) (hp : pre_X11_holds a0 I J), av0 = [kx_r 11 0, kx_i a0] ∧ S0 = (I, J, none) ∧ r0 = (some (kx_i (F_X11_holds a0 I J))) ∧ S1 = (I, J, none)
theorem cs_X11_holds (a0 : Int32) (I : kI) (J : kJ) (hp : pre_X11_holds a0 I J) : sp_X11_holds [kx_r 11 0, kx_i a0] (I, J, none) (some (kx_i (F_X11_holds a0 I J))) (I, J, none) := ⟨a0, I, J, hp, rfl, rfl, rfl, rfl⟩
noncomputable def F_X11_show (a0 : Int32) (a1 : Int32) (I : kI) (J : kJ) : Int32 × kI × kJ := (kif ((F_X11_isShelf a0 I J) = 0) ((F_X11_refused (-102 : Int32) I J).1, (F_X11_refused (-102 : Int32) I J).2.1, (F_X11_refused (-102 : Int32) I J).2.2) (kif (a1 = (-1 : Int32)) (kif (a1 = (-1 : Int32)) ((1 : Int32), (kw I 49 0 (a0).toNatClampNeg (-1 : Int32)), J) ((1 : Int32), (kw I 49 0 (a0).toNatClampNeg ((10 : Int32) + a1)), J)) (kif ((F_X11_isShip a1 I J) = 0) ((F_X11_refused (-102 : Int32) I J).1, (F_X11_refused (-102 : Int32) I J).2.1, (F_X11_refused (-102 : Int32) I J).2.2) (kif (a1 = (-1 : Int32)) ((1 : Int32), (kw I 49 0 (a0).toNatClampNeg (-1 : Int32)), J) ((1 : Int32), (kw I 49 0 (a0).toNatClampNeg ((10 : Int32) + a1)), J)))))
def pre_X11_show (a0 : Int32) (a1 : Int32) (I : kI) (J : kJ) : Prop := (pre_X11_isShelf a0 I J ∧ (kif ((F_X11_isShelf a0 I J) = 0) (pre_X11_refused (-102 : Int32) I J ∧ True) (kif (a1 = (-1 : Int32)) (kif (a1 = (-1 : Int32)) (vp_in a0 8 ∧ True) (vp_in a0 8 ∧ True)) (pre_X11_isShip a1 I J ∧ (kif ((F_X11_isShip a1 I J) = 0) (pre_X11_refused (-102 : Int32) I J ∧ True) (kif (a1 = (-1 : Int32)) (vp_in a0 8 ∧ True) (vp_in a0 8 ∧ True)))))))
def sp_X11_show : kx_Sp := fun av0 S0 r0 S1 => ∃ (a0 : Int32) (a1 : Int32) (I : kI) (J : kJ) (hp : pre_X11_show a0 a1 I J), av0 = [kx_r 11 0, kx_i a0, kx_i a1] ∧ S0 = (I, J, none) ∧ r0 = (some (kx_i (F_X11_show a0 a1 I J).1)) ∧ S1 = ((F_X11_show a0 a1 I J).2.1, (F_X11_show a0 a1 I J).2.2, none)
theorem cs_X11_show (a0 : Int32) (a1 : Int32) (I : kI) (J : kJ) (hp : pre_X11_show a0 a1 I J) : sp_X11_show [kx_r 11 0, kx_i a0, kx_i a1] (I, J, none) (some (kx_i (F_X11_show a0 a1 I J).1)) ((F_X11_show a0 a1 I J).2.1, (F_X11_show a0 a1 I J).2.2, none) := ⟨a0, a1, I, J, hp, rfl, rfl, rfl, rfl⟩
noncomputable def F_X11_draw (a0 : Int32) (I : kI) (J : kJ) : Int32 × kI × kJ := ((((((kw I 41 0 ((19 : Int32)).toNatClampNeg (((I 41 0 ((19 : Int32)).toNatClampNeg) * (1103515245 : Int32)) + (12345 : Int32))) 41 0 ((19 : Int32)).toNatClampNeg)).toUInt32 >>> (((16 : Int32)).toUInt32 &&& Int32.toUInt32 31)).toInt32 - ((((kw I 41 0 ((19 : Int32)).toNatClampNeg (((I 41 0 ((19 : Int32)).toNatClampNeg) * (1103515245 : Int32)) + (12345 : Int32))) 41 0 ((19 : Int32)).toNatClampNeg)).toUInt32 >>> (((16 : Int32)).toUInt32 &&& Int32.toUInt32 31)).toInt32 / a0 * a0), (kw I 41 0 ((19 : Int32)).toNatClampNeg (((I 41 0 ((19 : Int32)).toNatClampNeg) * (1103515245 : Int32)) + (12345 : Int32))), J)
def pre_X11_draw (a0 : Int32) (I : kI) (J : kJ) : Prop := (vp_in (19 : Int32) 2509 ∧ (vp_in (19 : Int32) 2509 ∧ (vp_in (19 : Int32) 2509 ∧ (¬ a0 = 0 ∧ True))))
def sp_X11_draw : kx_Sp := fun av0 S0 r0 S1 => ∃ (a0 : Int32) (I : kI) (J : kJ) (hp : pre_X11_draw a0 I J), av0 = [kx_r 11 0, kx_i a0] ∧ S0 = (I, J, none) ∧ r0 = (some (kx_i (F_X11_draw a0 I J).1)) ∧ S1 = ((F_X11_draw a0 I J).2.1, (F_X11_draw a0 I J).2.2, none)
theorem cs_X11_draw (a0 : Int32) (I : kI) (J : kJ) (hp : pre_X11_draw a0 I J) : sp_X11_draw [kx_r 11 0, kx_i a0] (I, J, none) (some (kx_i (F_X11_draw a0 I J).1)) ((F_X11_draw a0 I J).2.1, (F_X11_draw a0 I J).2.2, none) := ⟨a0, I, J, hp, rfl, rfl, rfl, rfl⟩
noncomputable def F_X11_seed (a0 : Int32) (I : kI) (J : kJ) : Int32 × kI × kJ := ((I 41 0 ((19 : Int32)).toNatClampNeg), (kw I 41 0 ((19 : Int32)).toNatClampNeg a0), J)
def pre_X11_seed (a0 : Int32) (I : kI) (J : kJ) : Prop := (vp_in (19 : Int32) 2509 ∧ (vp_in (19 : Int32) 2509 ∧ True))
def sp_X11_seed : kx_Sp := fun av0 S0 r0 S1 => ∃ (a0 : Int32) (I : kI) (J : kJ) (hp : pre_X11_seed a0 I J), av0 = [kx_r 11 0, kx_i a0] ∧ S0 = (I, J, none) ∧ r0 = (some (kx_i (F_X11_seed a0 I J).1)) ∧ S1 = ((F_X11_seed a0 I J).2.1, (F_X11_seed a0 I J).2.2, none)
theorem cs_X11_seed (a0 : Int32) (I : kI) (J : kJ) (hp : pre_X11_seed a0 I J) : sp_X11_seed [kx_r 11 0, kx_i a0] (I, J, none) (some (kx_i (F_X11_seed a0 I J).1)) ((F_X11_seed a0 I J).2.1, (F_X11_seed a0 I J).2.2, none) := ⟨a0, I, J, hp, rfl, rfl, rfl, rfl⟩
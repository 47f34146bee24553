noncomputable def G_X1_hire (o : Nat) (a0 : Int32) : Nat → Nat → kI → kJ → Option (Int32 × kI × kJ)
  | 0, _, _, _ => none
  | n + 1, pc, I, J => (bif Nat.beq pc 52 then (kif (vp_in (I 1 o 5) 6) (some ((((kw (kw I 24 o ((I 1 o 5)).toNatClampNeg (0 : Int32)) 1 o 5 (((kw I 24 o ((I 1 o 5)).toNatClampNeg (0 : Int32)) 1 o 5) + (1 : Int32))) 1 o 5) - (1 : Int32)), (kw (kw I 24 o ((I 1 o 5)).toNatClampNeg (0 : Int32)) 1 o 5 (((kw I 24 o ((I 1 o 5)).toNatClampNeg (0 : Int32)) 1 o 5) + (1 : Int32))), J)) none) else none)
theorem G_X1_hire_52 (o : Nat) (a0 : Int32) (n : Nat)  (I : kI) (J : kJ) : G_X1_hire o a0 (n + 1) 52  I J = (kif (vp_in (I 1 o 5) 6) (some ((((kw (kw I 24 o ((I 1 o 5)).toNatClampNeg (0 : Int32)) 1 o 5 (((kw I 24 o ((I 1 o 5)).toNatClampNeg (0 : Int32)) 1 o 5) + (1 : Int32))) 1 o 5) - (1 : Int32)), (kw (kw I 24 o ((I 1 o 5)).toNatClampNeg (0 : Int32)) 1 o 5 (((kw I 24 o ((I 1 o 5)).toNatClampNeg (0 : Int32)) 1 o 5) + (1 : Int32))), J)) none) := rfl
noncomputable def E_X1_hire (o : Nat) (a0 : Int32) (I : kI) (J : kJ) : Option (Int32 × kI × kJ) := (kif ((F_X1_isFull (o) I J) = 0) (kif (vp_in (I 1 o 5) 6) (kif (vp_in ((kw I 20 o ((I 1 o 5)).toNatClampNeg a0) 1 o 5) 6) (kif (vp_in ((kw (kw I 20 o ((I 1 o 5)).toNatClampNeg a0) 21 o (((kw I 20 o ((I 1 o 5)).toNatClampNeg a0) 1 o 5)).toNatClampNeg (F_X1_lastsIn a0 (kw I 20 o ((I 1 o 5)).toNatClampNeg a0) J)) 1 o 5) 6) (kif (vp_in ((kw (kw (kw I 20 o ((I 1 o 5)).toNatClampNeg a0) 21 o (((kw I 20 o ((I 1 o 5)).toNatClampNeg a0) 1 o 5)).toNatClampNeg (F_X1_lastsIn a0 (kw I 20 o ((I 1 o 5)).toNatClampNeg a0) J)) 22 o (((kw (kw I 20 o ((I 1 o 5)).toNatClampNeg a0) 21 o (((kw I 20 o ((I 1 o 5)).toNatClampNeg a0) 1 o 5)).toNatClampNeg (F_X1_lastsIn a0 (kw I 20 o ((I 1 o 5)).toNatClampNeg a0) J)) 1 o 5)).toNatClampNeg (0 : Int32)) 1 o 5) 6) ((G_X1_hire o a0 kfu) 52  (kw (kw (kw (kw I 20 o ((I 1 o 5)).toNatClampNeg a0) 21 o (((kw I 20 o ((I 1 o 5)).toNatClampNeg a0) 1 o 5)).toNatClampNeg (F_X1_lastsIn a0 (kw I 20 o ((I 1 o 5)).toNatClampNeg a0) J)) 22 o (((kw (kw I 20 o ((I 1 o 5)).toNatClampNeg a0) 21 o (((kw I 20 o ((I 1 o 5)).toNatClampNeg a0) 1 o 5)).toNatClampNeg (F_X1_lastsIn a0 (kw I 20 o ((I 1 o 5)).toNatClampNeg a0) J)) 1 o 5)).toNatClampNeg (0 : Int32)) 23 o (((kw (kw (kw I 20 o ((I 1 o 5)).toNatClampNeg a0) 21 o (((kw I 20 o ((I 1 o 5)).toNatClampNeg a0) 1 o 5)).toNatClampNeg (F_X1_lastsIn a0 (kw I 20 o ((I 1 o 5)).toNatClampNeg a0) J)) 22 o (((kw (kw I 20 o ((I 1 o 5)).toNatClampNeg a0) 21 o (((kw I 20 o ((I 1 o 5)).toNatClampNeg a0) 1 o 5)).toNatClampNeg (F_X1_lastsIn a0 (kw I 20 o ((I 1 o 5)).toNatClampNeg a0) J)) 1 o 5)).toNatClampNeg (0 : Int32)) 1 o 5)).toNatClampNeg (0 : Int32)) J) none) none) none) none) (some ((-1 : Int32), I, J)))
set_option maxRecDepth 100000 in
set_option maxHeartbeats 4000000 in
theorem cl_X1_hire (o : Nat) (a0 : Int32) : ∀ n : Nat, (∀ (x1 : Option kx_V) (I : kI) (J : kJ) (q : Int32 × kI × kJ), G_X1_hire o a0 n 52  I J = some q → kx_Run tb_X1_hire (kx_NC, fun r' S'' => r' = some (kx_i q.1) ∧ S'' = (q.2.1, q.2.2, none)) 52 [some (kx_r 1 (o)), x1] [] (I, J, none)) := by
  intro n
  induction n with
  | zero => (intros; rename_i h; have h2 : (none : Option _) = some _ := h; cases h2)
  | succ n ih =>
    intro x1  I J q hG
    rw [G_X1_hire_52] at hG
    refine kx_start [52] 50 ?_
    obtain ⟨hq, hG⟩ := kif_some hG
    refine ⟨hq, ?_⟩
    replace hG := Option.some.inj hG
    subst hG
    exact ⟨rfl, rfl⟩
set_option maxRecDepth 100000 in
set_option maxHeartbeats 4000000 in
theorem cs_X1_hire (o : Nat) (a0 : Int32) (I : kI) (J : kJ) (q : Int32 × kI × kJ) (hG : E_X1_hire o a0 I J = some q) : sp_X1_hire [kx_r 1 o, kx_i a0] (I, J, none) (some (kx_i q.1)) (q.2.1, q.2.2, none) := by
  unfold E_X1_hire at hG
  refine kx_start [52] 50 ?_
  refine ⟨_, _, cs_X1_isFull (o) I J, rfl, ?_⟩
  refine ⟨fun h1 => ?_, fun h1 => ?_⟩
  · replace h1 : (F_X1_isFull (o) I J) = 0 := h1
    rw [kif_pos h1] at hG
    obtain ⟨hq, hG⟩ := kif_some hG
    refine ⟨hq, ?_⟩
    refine ⟨_, _, cs_X1_lastsIn a0 (kw I 20 o ((I 1 o 5)).toNatClampNeg a0) J, rfl, ?_⟩
    obtain ⟨hq, hG⟩ := kif_some hG
    refine ⟨hq, ?_⟩
    obtain ⟨hq, hG⟩ := kif_some hG
    refine ⟨hq, ?_⟩
    obtain ⟨hq, hG⟩ := kif_some hG
    refine ⟨hq, ?_⟩
    exact ((cl_X1_hire o a0 kfu)) _ _ _ q hG
  · replace h1 : ¬ (F_X1_isFull (o) I J) = 0 := h1
    rw [kif_neg h1] at hG
    replace hG := Option.some.inj hG
    subst hG
    exact ⟨rfl, rfl⟩
noncomputable def G_X2_expect (o : Nat) (a0 : Int32) (a1 : Int32) : Nat → Nat → Int32 → kI → kJ → Option (Int32 × kI × kJ)
  | 0, _, _, _, _ => none
  | n + 1, pc, v3, I, J => (bif Nat.beq pc 14 then (kif (v3 ≤ 0) (kif (vp_in v3 200) (kif (vp_in ((kw I 29 o (v3).toNatClampNeg (I 2 o 5)) 2 o 5) 200) (kif (vp_in ((kw (kw I 29 o (v3).toNatClampNeg (I 2 o 5)) 25 o (((kw I 29 o (v3).toNatClampNeg (I 2 o 5)) 2 o 5)).toNatClampNeg a0) 2 o 5) 200) (kif (vp_in ((kw (kw (kw I 29 o (v3).toNatClampNeg (I 2 o 5)) 25 o (((kw I 29 o (v3).toNatClampNeg (I 2 o 5)) 2 o 5)).toNatClampNeg a0) 26 o (((kw (kw I 29 o (v3).toNatClampNeg (I 2 o 5)) 25 o (((kw I 29 o (v3).toNatClampNeg (I 2 o 5)) 2 o 5)).toNatClampNeg a0) 2 o 5)).toNatClampNeg a1) 2 o 5) 200) ((G_X2_expect o a0 a1 n) 94 0 (kw (kw (kw (kw I 29 o (v3).toNatClampNeg (I 2 o 5)) 25 o (((kw I 29 o (v3).toNatClampNeg (I 2 o 5)) 2 o 5)).toNatClampNeg a0) 26 o (((kw (kw I 29 o (v3).toNatClampNeg (I 2 o 5)) 25 o (((kw I 29 o (v3).toNatClampNeg (I 2 o 5)) 2 o 5)).toNatClampNeg a0) 2 o 5)).toNatClampNeg a1) 27 o (((kw (kw (kw I 29 o (v3).toNatClampNeg (I 2 o 5)) 25 o (((kw I 29 o (v3).toNatClampNeg (I 2 o 5)) 2 o 5)).toNatClampNeg a0) 26 o (((kw (kw I 29 o (v3).toNatClampNeg (I 2 o 5)) 25 o (((kw I 29 o (v3).toNatClampNeg (I 2 o 5)) 2 o 5)).toNatClampNeg a0) 2 o 5)).toNatClampNeg a1) 2 o 5)).toNatClampNeg (-1 : Int32)) J) none) none) none) none) (kif (pre_X2_shipInPlace (o) (v3 - (1 : Int32)) I J) (kif (pre_X2_isBehind (o) (F_X2_shipInPlace (o) (v3 - (1 : Int32)) I J) a0 a1 I J) (kif ((F_X2_isBehind (o) (F_X2_shipInPlace (o) (v3 - (1 : Int32)) I J) a0 a1 I J) = 0) (kif (vp_in v3 200) (kif (vp_in ((kw I 29 o (v3).toNatClampNeg (I 2 o 5)) 2 o 5) 200) (kif (vp_in ((kw (kw I 29 o (v3).toNatClampNeg (I 2 o 5)) 25 o (((kw I 29 o (v3).toNatClampNeg (I 2 o 5)) 2 o 5)).toNatClampNeg a0) 2 o 5) 200) (kif (vp_in ((kw (kw (kw I 29 o (v3).toNatClampNeg (I 2 o 5)) 25 o (((kw I 29 o (v3).toNatClampNeg (I 2 o 5)) 2 o 5)).toNatClampNeg a0) 26 o (((kw (kw I 29 o (v3).toNatClampNeg (I 2 o 5)) 25 o (((kw I 29 o (v3).toNatClampNeg (I 2 o 5)) 2 o 5)).toNatClampNeg a0) 2 o 5)).toNatClampNeg a1) 2 o 5) 200) ((G_X2_expect o a0 a1 n) 94 0 (kw (kw (kw (kw I 29 o (v3).toNatClampNeg (I 2 o 5)) 25 o (((kw I 29 o (v3).toNatClampNeg (I 2 o 5)) 2 o 5)).toNatClampNeg a0) 26 o (((kw (kw I 29 o (v3).toNatClampNeg (I 2 o 5)) 25 o (((kw I 29 o (v3).toNatClampNeg (I 2 o 5)) 2 o 5)).toNatClampNeg a0) 2 o 5)).toNatClampNeg a1) 27 o (((kw (kw (kw I 29 o (v3).toNatClampNeg (I 2 o 5)) 25 o (((kw I 29 o (v3).toNatClampNeg (I 2 o 5)) 2 o 5)).toNatClampNeg a0) 26 o (((kw (kw I 29 o (v3).toNatClampNeg (I 2 o 5)) 25 o (((kw I 29 o (v3).toNatClampNeg (I 2 o 5)) 2 o 5)).toNatClampNeg a0) 2 o 5)).toNatClampNeg a1) 2 o 5)).toNatClampNeg (-1 : Int32)) J) none) none) none) none) (kif (vp_in (v3 - (1 : Int32)) 200) (kif (vp_in v3 200) ((G_X2_expect o a0 a1 n) 14 (v3 + (-1)) (kw I 29 o (v3).toNatClampNeg (I 29 o ((v3 - (1 : Int32))).toNatClampNeg)) J) none) none)) none) none)) else (bif Nat.beq pc 94 then (kif (vp_in (I 2 o 5) 200) (some ((((kw (kw I 28 o ((I 2 o 5)).toNatClampNeg (-1 : Int32)) 2 o 5 (((kw I 28 o ((I 2 o 5)).toNatClampNeg (-1 : Int32)) 2 o 5) + (1 : Int32))) 2 o 5) - (1 : Int32)), (kw (kw I 28 o ((I 2 o 5)).toNatClampNeg (-1 : Int32)) 2 o 5 (((kw I 28 o ((I 2 o 5)).toNatClampNeg (-1 : Int32)) 2 o 5) + (1 : Int32))), J)) none) else none))
theorem G_X2_expect_14 (o : Nat) (a0 : Int32) (a1 : Int32) (n : Nat) (v3 : Int32) (I : kI) (J : kJ) : G_X2_expect o a0 a1 (n + 1) 14 v3 I J = (kif (v3 ≤ 0) (kif (vp_in v3 200) (kif (vp_in ((kw I 29 o (v3).toNatClampNeg (I 2 o 5)) 2 o 5) 200) (kif (vp_in ((kw (kw I 29 o (v3).toNatClampNeg (I 2 o 5)) 25 o (((kw I 29 o (v3).toNatClampNeg (I 2 o 5)) 2 o 5)).toNatClampNeg a0) 2 o 5) 200) (kif (vp_in ((kw (kw (kw I 29 o (v3).toNatClampNeg (I 2 o 5)) 25 o (((kw I 29 o (v3).toNatClampNeg (I 2 o 5)) 2 o 5)).toNatClampNeg a0) 26 o (((kw (kw I 29 o (v3).toNatClampNeg (I 2 o 5)) 25 o (((kw I 29 o (v3).toNatClampNeg (I 2 o 5)) 2 o 5)).toNatClampNeg a0) 2 o 5)).toNatClampNeg a1) 2 o 5) 200) ((G_X2_expect o a0 a1 n) 94 0 (kw (kw (kw (kw I 29 o (v3).toNatClampNeg (I 2 o 5)) 25 o (((kw I 29 o (v3).toNatClampNeg (I 2 o 5)) 2 o 5)).toNatClampNeg a0) 26 o (((kw (kw I 29 o (v3).toNatClampNeg (I 2 o 5)) 25 o (((kw I 29 o (v3).toNatClampNeg (I 2 o 5)) 2 o 5)).toNatClampNeg a0) 2 o 5)).toNatClampNeg a1) 27 o (((kw (kw (kw I 29 o (v3).toNatClampNeg (I 2 o 5)) 25 o (((kw I 29 o (v3).toNatClampNeg (I 2 o 5)) 2 o 5)).toNatClampNeg a0) 26 o (((kw (kw I 29 o (v3).toNatClampNeg (I 2 o 5)) 25 o (((kw I 29 o (v3).toNatClampNeg (I 2 o 5)) 2 o 5)).toNatClampNeg a0) 2 o 5)).toNatClampNeg a1) 2 o 5)).toNatClampNeg (-1 : Int32)) J) none) none) none) none) (kif (pre_X2_shipInPlace (o) (v3 - (1 : Int32)) I J) (kif (pre_X2_isBehind (o) (F_X2_shipInPlace (o) (v3 - (1 : Int32)) I J) a0 a1 I J) (kif ((F_X2_isBehind (o) (F_X2_shipInPlace (o) (v3 - (1 : Int32)) I J) a0 a1 I J) = 0) (kif (vp_in v3 200) (kif (vp_in ((kw I 29 o (v3).toNatClampNeg (I 2 o 5)) 2 o 5) 200) (kif (vp_in ((kw (kw I 29 o (v3).toNatClampNeg (I 2 o 5)) 25 o (((kw I 29 o (v3).toNatClampNeg (I 2 o 5)) 2 o 5)).toNatClampNeg a0) 2 o 5) 200) (kif (vp_in ((kw (kw (kw I 29 o (v3).toNatClampNeg (I 2 o 5)) 25 o (((kw I 29 o (v3).toNatClampNeg (I 2 o 5)) 2 o 5)).toNatClampNeg a0) 26 o (((kw (kw I 29 o (v3).toNatClampNeg (I 2 o 5)) 25 o (((kw I 29 o (v3).toNatClampNeg (I 2 o 5)) 2 o 5)).toNatClampNeg a0) 2 o 5)).toNatClampNeg a1) 2 o 5) 200) ((G_X2_expect o a0 a1 n) 94 0 (kw (kw (kw (kw I 29 o (v3).toNatClampNeg (I 2 o 5)) 25 o (((kw I 29 o (v3).toNatClampNeg (I 2 o 5)) 2 o 5)).toNatClampNeg a0) 26 o (((kw (kw I 29 o (v3).toNatClampNeg (I 2 o 5)) 25 o (((kw I 29 o (v3).toNatClampNeg (I 2 o 5)) 2 o 5)).toNatClampNeg a0) 2 o 5)).toNatClampNeg a1) 27 o (((kw (kw (kw I 29 o (v3).toNatClampNeg (I 2 o 5)) 25 o (((kw I 29 o (v3).toNatClampNeg (I 2 o 5)) 2 o 5)).toNatClampNeg a0) 26 o (((kw (kw I 29 o (v3).toNatClampNeg (I 2 o 5)) 25 o (((kw I 29 o (v3).toNatClampNeg (I 2 o 5)) 2 o 5)).toNatClampNeg a0) 2 o 5)).toNatClampNeg a1) 2 o 5)).toNatClampNeg (-1 : Int32)) J) none) none) none) none) (kif (vp_in (v3 - (1 : Int32)) 200) (kif (vp_in v3 200) ((G_X2_expect o a0 a1 n) 14 (v3 + (-1)) (kw I 29 o (v3).toNatClampNeg (I 29 o ((v3 - (1 : Int32))).toNatClampNeg)) J) none) none)) none) none)) := rfl
theorem G_X2_expect_94 (o : Nat) (a0 : Int32) (a1 : Int32) (n : Nat) (v3 : Int32) (I : kI) (J : kJ) : G_X2_expect o a0 a1 (n + 1) 94 v3 I J = (kif (vp_in (I 2 o 5) 200) (some ((((kw (kw I 28 o ((I 2 o 5)).toNatClampNeg (-1 : Int32)) 2 o 5 (((kw I 28 o ((I 2 o 5)).toNatClampNeg (-1 : Int32)) 2 o 5) + (1 : Int32))) 2 o 5) - (1 : Int32)), (kw (kw I 28 o ((I 2 o 5)).toNatClampNeg (-1 : Int32)) 2 o 5 (((kw I 28 o ((I 2 o 5)).toNatClampNeg (-1 : Int32)) 2 o 5) + (1 : Int32))), J)) none) := rfl
noncomputable def E_X2_expect (o : Nat) (a0 : Int32) (a1 : Int32) (I : kI) (J : kJ) : Option (Int32 × kI × kJ) := (kif ((F_X2_isFull (o) I J) = 0) ((G_X2_expect o a0 a1 kfu) 14 (I 2 o 5) I J) (some ((-1 : Int32), I, J)))
set_option maxRecDepth 100000 in
set_option maxHeartbeats 4000000 in
theorem cl_X2_expect (o : Nat) (a0 : Int32) (a1 : Int32) : ∀ n : Nat, (∀ (v3 : Int32) (I : kI) (J : kJ) (q : Int32 × kI × kJ), G_X2_expect o a0 a1 n 14 v3 I J = some q → kx_Run tb_X2_expect (kx_NC, fun r' S'' => r' = some (kx_i q.1) ∧ S'' = (q.2.1, q.2.2, none)) 14 [some (kx_r 2 (o)), some (kx_i a0), some (kx_i a1), some (kx_i v3)] [] (I, J, none)) ∧ (∀ (v3 : Int32) (x1 x2 x3 : Option kx_V) (I : kI) (J : kJ) (q : Int32 × kI × kJ), G_X2_expect o a0 a1 n 94 v3 I J = some q → kx_Run tb_X2_expect (kx_NC, fun r' S'' => r' = some (kx_i q.1) ∧ S'' = (q.2.1, q.2.2, none)) 94 [some (kx_r 2 (o)), x1, x2, x3] [] (I, J, none)) := by
  intro n
  induction n with
  | zero => refine ⟨?_, ?_⟩ <;> (intros; rename_i h; have h2 : (none : Option _) = some _ := h; cases h2)
  | succ n ih =>
    refine ⟨?_, ?_⟩
    · intro v3  I J q hG
      rw [G_X2_expect_14] at hG
      refine kx_start [14, 94] 76 ?_
      refine ⟨fun h1 => ?_, fun h1 => ?_⟩
      · replace h1 : v3 ≤ 0 := h1
        rw [kif_pos h1] at hG
        obtain ⟨hq, hG⟩ := kif_some hG
        refine ⟨hq, ?_⟩
        obtain ⟨hq, hG⟩ := kif_some hG
        refine ⟨hq, ?_⟩
        obtain ⟨hq, hG⟩ := kif_some hG
        refine ⟨hq, ?_⟩
        obtain ⟨hq, hG⟩ := kif_some hG
        refine ⟨hq, ?_⟩
        exact (ih.2) _ _ _ _ _ _ q hG
      · replace h1 : ¬ v3 ≤ 0 := h1
        rw [kif_neg h1] at hG
        obtain ⟨hq, hG⟩ := kif_some hG
        refine ⟨_, _, cs_X2_shipInPlace (o) (v3 - (1 : Int32)) I J hq, rfl, ?_⟩
        obtain ⟨hq, hG⟩ := kif_some hG
        refine ⟨_, _, cs_X2_isBehind (o) (F_X2_shipInPlace (o) (v3 - (1 : Int32)) I J) a0 a1 I J hq, rfl, ?_⟩
        refine ⟨fun h2 => ?_, fun h2 => ?_⟩
        · replace h2 : (F_X2_isBehind (o) (F_X2_shipInPlace (o) (v3 - (1 : Int32)) I J) a0 a1 I J) = 0 := h2
          rw [kif_pos h2] at hG
          obtain ⟨hq, hG⟩ := kif_some hG
          refine ⟨hq, ?_⟩
          obtain ⟨hq, hG⟩ := kif_some hG
          refine ⟨hq, ?_⟩
          obtain ⟨hq, hG⟩ := kif_some hG
          refine ⟨hq, ?_⟩
          obtain ⟨hq, hG⟩ := kif_some hG
          refine ⟨hq, ?_⟩
          exact (ih.2) _ _ _ _ _ _ q hG
        · replace h2 : ¬ (F_X2_isBehind (o) (F_X2_shipInPlace (o) (v3 - (1 : Int32)) I J) a0 a1 I J) = 0 := h2
          rw [kif_neg h2] at hG
          obtain ⟨hq, hG⟩ := kif_some hG
          refine ⟨hq, ?_⟩
          obtain ⟨hq, hG⟩ := kif_some hG
          refine ⟨hq, ?_⟩
          exact (ih.1) _ _ _ q hG
    · intro v3 x1 x2 x3  I J q hG
      rw [G_X2_expect_94] at hG
      refine kx_start [14, 94] 76 ?_
      obtain ⟨hq, hG⟩ := kif_some hG
      refine ⟨hq, ?_⟩
      replace hG := Option.some.inj hG
      subst hG
      exact ⟨rfl, rfl⟩
set_option maxRecDepth 100000 in
set_option maxHeartbeats 4000000 in
theorem cs_X2_expect (o : Nat) (a0 : Int32) (a1 : Int32) (I : kI) (J : kJ) (q : Int32 × kI × kJ) (hG : E_X2_expect o a0 a1 I J = some q) : sp_X2_expect [kx_r 2 o, kx_i a0, kx_i a1] (I, J, none) (some (kx_i q.1)) (q.2.1, q.2.2, none) := by
  unfold E_X2_expect at hG
  refine kx_start [14, 94] 76 ?_
  refine ⟨_, _, cs_X2_isFull (o) I J, rfl, ?_⟩
  refine ⟨fun h1 => ?_, fun h1 => ?_⟩
  · replace h1 : (F_X2_isFull (o) I J) = 0 := h1
    rw [kif_pos h1] at hG
    exact ((cl_X2_expect o a0 a1 kfu).1) _ _ _ q hG
  · replace h1 : ¬ (F_X2_isFull (o) I J) = 0 := h1
    rw [kif_neg h1] at hG
    replace hG := Option.some.inj hG
    subst hG
    exact ⟨rfl, rfl⟩
noncomputable def G_X2_firstPlaceOf (o : Nat) (a0 : Int32) : Nat → Nat → Int32 → Int32 → Int32 → kI → kJ → Option (Int32)
  | 0, _, _, _, _, _, _ => none
  | n + 1, pc, v2, v3, v4, I, J => (bif Nat.beq pc 10 then (kif ((32 : Int32) ≤ v4) (some v2) (kif (v3 ≤ v2) (some v2) (kif (¬ (2 : Int32) = 0) (kif (pre_X2_shipInPlace (o) ((v2 + v3) / (2 : Int32)) I J) (kif (pre_X2_hourOf (o) (F_X2_shipInPlace (o) ((v2 + v3) / (2 : Int32)) I J) I J) (kif (a0 ≤ (F_X2_hourOf (o) (F_X2_shipInPlace (o) ((v2 + v3) / (2 : Int32)) I J) I J)) ((G_X2_firstPlaceOf o a0 n) 10 v2 ((v2 + v3) / (2 : Int32)) (v4 + (1)) I J) ((G_X2_firstPlaceOf o a0 n) 10 (((v2 + v3) / (2 : Int32)) + (1 : Int32)) v3 (v4 + (1)) I J)) none) none) none))) else none)
theorem G_X2_firstPlaceOf_10 (o : Nat) (a0 : Int32) (n : Nat) (v2 : Int32) (v3 : Int32) (v4 : Int32) (I : kI) (J : kJ) : G_X2_firstPlaceOf o a0 (n + 1) 10 v2 v3 v4 I J = (kif ((32 : Int32) ≤ v4) (some v2) (kif (v3 ≤ v2) (some v2) (kif (¬ (2 : Int32) = 0) (kif (pre_X2_shipInPlace (o) ((v2 + v3) / (2 : Int32)) I J) (kif (pre_X2_hourOf (o) (F_X2_shipInPlace (o) ((v2 + v3) / (2 : Int32)) I J) I J) (kif (a0 ≤ (F_X2_hourOf (o) (F_X2_shipInPlace (o) ((v2 + v3) / (2 : Int32)) I J) I J)) ((G_X2_firstPlaceOf o a0 n) 10 v2 ((v2 + v3) / (2 : Int32)) (v4 + (1)) I J) ((G_X2_firstPlaceOf o a0 n) 10 (((v2 + v3) / (2 : Int32)) + (1 : Int32)) v3 (v4 + (1)) I J)) none) none) none))) := rfl
noncomputable def E_X2_firstPlaceOf (o : Nat) (a0 : Int32) (I : kI) (J : kJ) : Option (Int32) := ((G_X2_firstPlaceOf o a0 kfu) 10 (0 : Int32) (I 2 o 5) (0 : Int32) I J)
set_option maxRecDepth 100000 in
set_option maxHeartbeats 4000000 in
theorem cl_X2_firstPlaceOf (o : Nat) (a0 : Int32) (I0 : kI) (J0 : kJ) : ∀ n : Nat, (∀ (v2 : Int32) (v3 : Int32) (v4 : Int32) (x5 : Option kx_V) (I : kI) (J : kJ) (q : Int32), I = I0 → J = J0 → G_X2_firstPlaceOf o a0 n 10 v2 v3 v4 I J = some q → kx_Run tb_X2_firstPlaceOf (kx_NC, fun r' S'' => r' = some (kx_i q) ∧ S'' = (I0, J0, none)) 10 [some (kx_r 2 (o)), some (kx_i a0), some (kx_i v2), some (kx_i v3), some (kx_i v4), x5] [] (I, J, none)) := by
  intro n
  induction n with
  | zero => (intros; rename_i h; have h2 : (none : Option _) = some _ := h; cases h2)
  | succ n ih =>
    intro v2 v3 v4 x5  I J q hI0 hJ0 hG
    subst hI0 hJ0
    rw [G_X2_firstPlaceOf_10] at hG
    refine kx_start [10] 40 ?_
    refine ⟨fun h1 => ?_, fun h1 => ?_⟩
    · replace h1 : (32 : Int32) ≤ v4 := h1
      rw [kif_pos h1] at hG
      replace hG := Option.some.inj hG
      subst hG
      exact ⟨rfl, rfl⟩
    · replace h1 : ¬ (32 : Int32) ≤ v4 := h1
      rw [kif_neg h1] at hG
      refine ⟨fun h2 => ?_, fun h2 => ?_⟩
      · replace h2 : v3 ≤ v2 := h2
        rw [kif_pos h2] at hG
        replace hG := Option.some.inj hG
        subst hG
        exact ⟨rfl, rfl⟩
      · replace h2 : ¬ v3 ≤ v2 := h2
        rw [kif_neg h2] at hG
        obtain ⟨hq, hG⟩ := kif_some hG
        refine ⟨hq, ?_⟩
        obtain ⟨hq, hG⟩ := kif_some hG
        refine ⟨_, _, cs_X2_shipInPlace (o) ((v2 + v3) / (2 : Int32)) I J hq, rfl, ?_⟩
        obtain ⟨hq, hG⟩ := kif_some hG
        refine ⟨_, _, cs_X2_hourOf (o) (F_X2_shipInPlace (o) ((v2 + v3) / (2 : Int32)) I J) I J hq, rfl, ?_⟩
        refine ⟨fun h3 => ?_, fun h3 => ?_⟩
        · replace h3 : a0 ≤ (F_X2_hourOf (o) (F_X2_shipInPlace (o) ((v2 + v3) / (2 : Int32)) I J) I J) := h3
          rw [kif_pos h3] at hG
          exact (ih) _ _ _ _ _ _ q rfl rfl hG
        · replace h3 : ¬ a0 ≤ (F_X2_hourOf (o) (F_X2_shipInPlace (o) ((v2 + v3) / (2 : Int32)) I J) I J) := h3
          rw [kif_neg h3] at hG
          exact (ih) _ _ _ _ _ _ q rfl rfl hG
set_option maxRecDepth 100000 in
set_option maxHeartbeats 4000000 in
theorem cs_X2_firstPlaceOf (o : Nat) (a0 : Int32) (I : kI) (J : kJ) (q : Int32) (hG : E_X2_firstPlaceOf o a0 I J = some q) : sp_X2_firstPlaceOf [kx_r 2 o, kx_i a0] (I, J, none) (some (kx_i q)) (I, J, none) := by
  unfold E_X2_firstPlaceOf at hG
  refine kx_start [10] 40 ?_
  exact ((cl_X2_firstPlaceOf o a0 I J kfu)) _ _ _ _ _ _ q rfl rfl hG
noncomputable def E_X4_takeRow (o : Nat) (a0 : Int32) (a1 : Int32) (I : kI) (J : kJ) : Option (kI × kJ) := (some ((F_J7_fill_d0a16 (o) (0 : Int64) (kw (kw I 4 o 2 a0) 4 o 1 a1) J).1, (F_J7_fill_d0a16 (o) (0 : Int64) (kw (kw I 4 o 2 a0) 4 o 1 a1) J).2))
def sp_X4_takeRow : kx_Sp := fun av0 S0 r0 S1 => ∃ (o : Nat) (a0 : Int32) (a1 : Int32) (I : kI) (J : kJ) (q : kI × kJ) (hG : E_X4_takeRow o a0 a1 I J = some q), av0 = [kx_r 4 o, kx_i a0, kx_i a1] ∧ S0 = (I, J, none) ∧ r0 = (none) ∧ S1 = (q.1, q.2, none)
theorem cs_X4_takeRow (o : Nat) (a0 : Int32) (a1 : Int32) (I : kI) (J : kJ) (q : kI × kJ) (hG : E_X4_takeRow o a0 a1 I J = some q) : sp_X4_takeRow [kx_r 4 o, kx_i a0, kx_i a1] (I, J, none) (none) (q.1, q.2, none) := ⟨o, a0, a1, I, J, q, hG, rfl, rfl, rfl, rfl⟩
noncomputable def G_X6_tendLamp (o : Nat) : Nat → Nat → Int32 → Int32 → kI → kJ → Option (kI × kJ)
  | 0, _, _, _, _, _ => none
  | n + 1, pc, s0, s1, I, J => (bif Nat.beq pc 21 then ((G_X6_tendLamp o n) 26 (1 : Int32) 0 I J) else (bif Nat.beq pc 25 then ((G_X6_tendLamp o n) 26 (0 : Int32) 0 I J) else (bif Nat.beq pc 26 then (kif ((I 6 o 13) = 0) ((G_X6_tendLamp o n) 54 0 0 I J) (kif (s0 = 0) ((G_X6_tendLamp o n) 54 0 0 I J) (kif ((I 6 o 8) < (I 6 o 7)) ((G_X6_tendLamp o n) 54 0 0 I J) ((G_X6_tendLamp o n) 55 0 (1 : Int32) I J)))) else (bif Nat.beq pc 54 then ((G_X6_tendLamp o n) 55 0 (0 : Int32) I J) else (bif Nat.beq pc 55 then (kif ((s1 = 0 ∨ s1 = 1)) (kif (((kw I 6 o 10 s1) 6 o 10) = 0) ((G_X6_tendLamp o n) 77 0 0 (kw I 6 o 10 s1) J) (kif (((kw I 6 o 10 s1) 6 o 15) = 0) ((G_X6_tendLamp o n) 78 0 (1 : Int32) (kw I 6 o 10 s1) J) ((G_X6_tendLamp o n) 77 0 0 (kw I 6 o 10 s1) J))) none) else (bif Nat.beq pc 77 then ((G_X6_tendLamp o n) 78 0 (0 : Int32) I J) else (bif Nat.beq pc 78 then (kif (((kw I 6 o 11 s1) 6 o 10) = 0) ((G_X6_tendLamp o n) 101 0 0 (kw I 6 o 11 s1) J) ((G_X6_tendLamp o n) 101 0 0 (kw (kw I 6 o 11 s1) 6 o 8 (((kw I 6 o 11 s1) 6 o 8) - ((kw I 6 o 11 s1) 6 o 7))) J)) else (bif Nat.beq pc 101 then (some (I, J)) else none))))))))
theorem G_X6_tendLamp_21 (o : Nat) (n : Nat) (s0 : Int32) (s1 : Int32) (I : kI) (J : kJ) : G_X6_tendLamp o (n + 1) 21 s0 s1 I J = ((G_X6_tendLamp o n) 26 (1 : Int32) 0 I J) := rfl
theorem G_X6_tendLamp_25 (o : Nat) (n : Nat) (s0 : Int32) (s1 : Int32) (I : kI) (J : kJ) : G_X6_tendLamp o (n + 1) 25 s0 s1 I J = ((G_X6_tendLamp o n) 26 (0 : Int32) 0 I J) := rfl
theorem G_X6_tendLamp_26 (o : Nat) (n : Nat) (s0 : Int32) (s1 : Int32) (I : kI) (J : kJ) : G_X6_tendLamp o (n + 1) 26 s0 s1 I J = (kif ((I 6 o 13) = 0) ((G_X6_tendLamp o n) 54 0 0 I J) (kif (s0 = 0) ((G_X6_tendLamp o n) 54 0 0 I J) (kif ((I 6 o 8) < (I 6 o 7)) ((G_X6_tendLamp o n) 54 0 0 I J) ((G_X6_tendLamp o n) 55 0 (1 : Int32) I J)))) := rfl
theorem G_X6_tendLamp_54 (o : Nat) (n : Nat) (s0 : Int32) (s1 : Int32) (I : kI) (J : kJ) : G_X6_tendLamp o (n + 1) 54 s0 s1 I J = ((G_X6_tendLamp o n) 55 0 (0 : Int32) I J) := rfl
theorem G_X6_tendLamp_55 (o : Nat) (n : Nat) (s0 : Int32) (s1 : Int32) (I : kI) (J : kJ) : G_X6_tendLamp o (n + 1) 55 s0 s1 I J = (kif ((s1 = 0 ∨ s1 = 1)) (kif (((kw I 6 o 10 s1) 6 o 10) = 0) ((G_X6_tendLamp o n) 77 0 0 (kw I 6 o 10 s1) J) (kif (((kw I 6 o 10 s1) 6 o 15) = 0) ((G_X6_tendLamp o n) 78 0 (1 : Int32) (kw I 6 o 10 s1) J) ((G_X6_tendLamp o n) 77 0 0 (kw I 6 o 10 s1) J))) none) := rfl
theorem G_X6_tendLamp_77 (o : Nat) (n : Nat) (s0 : Int32) (s1 : Int32) (I : kI) (J : kJ) : G_X6_tendLamp o (n + 1) 77 s0 s1 I J = ((G_X6_tendLamp o n) 78 0 (0 : Int32) I J) := rfl
theorem G_X6_tendLamp_78 (o : Nat) (n : Nat) (s0 : Int32) (s1 : Int32) (I : kI) (J : kJ) : G_X6_tendLamp o (n + 1) 78 s0 s1 I J = (kif (((kw I 6 o 11 s1) 6 o 10) = 0) ((G_X6_tendLamp o n) 101 0 0 (kw I 6 o 11 s1) J) ((G_X6_tendLamp o n) 101 0 0 (kw (kw I 6 o 11 s1) 6 o 8 (((kw I 6 o 11 s1) 6 o 8) - ((kw I 6 o 11 s1) 6 o 7))) J)) := rfl
theorem G_X6_tendLamp_101 (o : Nat) (n : Nat) (s0 : Int32) (s1 : Int32) (I : kI) (J : kJ) : G_X6_tendLamp o (n + 1) 101 s0 s1 I J = (some (I, J)) := rfl
noncomputable def E_X6_tendLamp (o : Nat) (I : kI) (J : kJ) : Option (kI × kJ) := (kif ((I 6 o 15) = 0) (kif ((I 6 o 10) = 0) ((G_X6_tendLamp o kfu) 25 0 0 I J) (kif ((I 6 o 11) = 0) ((G_X6_tendLamp o kfu) 21 0 0 I J) ((G_X6_tendLamp o kfu) 25 0 0 I J))) ((G_X6_tendLamp o kfu) 21 0 0 I J))
set_option maxRecDepth 100000 in
set_option maxHeartbeats 4000000 in
theorem cl_X6_tendLamp (o : Nat) : ∀ n : Nat, (∀ (s0 : Int32) (s1 : Int32) (x1 : Option kx_V) (I : kI) (J : kJ) (q : kI × kJ), G_X6_tendLamp o n 21 s0 s1 I J = some q → kx_Run tb_X6_tendLamp (kx_NC, fun r' S'' => r' = none ∧ S'' = (q.1, q.2, none)) 21 [some (kx_r 6 (o)), x1] [] (I, J, none)) ∧ (∀ (s0 : Int32) (s1 : Int32) (x1 : Option kx_V) (I : kI) (J : kJ) (q : kI × kJ), G_X6_tendLamp o n 25 s0 s1 I J = some q → kx_Run tb_X6_tendLamp (kx_NC, fun r' S'' => r' = none ∧ S'' = (q.1, q.2, none)) 25 [some (kx_r 6 (o)), x1] [] (I, J, none)) ∧ (∀ (s0 : Int32) (s1 : Int32) (x1 : Option kx_V) (I : kI) (J : kJ) (q : kI × kJ), G_X6_tendLamp o n 26 s0 s1 I J = some q → kx_Run tb_X6_tendLamp (kx_NC, fun r' S'' => r' = none ∧ S'' = (q.1, q.2, none)) 26 [some (kx_r 6 (o)), x1] [kx_i s0] (I, J, none)) ∧ (∀ (s0 : Int32) (s1 : Int32) (x1 : Option kx_V) (I : kI) (J : kJ) (q : kI × kJ), G_X6_tendLamp o n 54 s0 s1 I J = some q → kx_Run tb_X6_tendLamp (kx_NC, fun r' S'' => r' = none ∧ S'' = (q.1, q.2, none)) 54 [some (kx_r 6 (o)), x1] [kx_r 6 (o)] (I, J, none)) ∧ (∀ (s0 : Int32) (s1 : Int32) (x1 : Option kx_V) (I : kI) (J : kJ) (q : kI × kJ), G_X6_tendLamp o n 55 s0 s1 I J = some q → kx_Run tb_X6_tendLamp (kx_NC, fun r' S'' => r' = none ∧ S'' = (q.1, q.2, none)) 55 [some (kx_r 6 (o)), x1] [kx_i s1, kx_r 6 (o)] (I, J, none)) ∧ (∀ (s0 : Int32) (s1 : Int32) (x1 : Option kx_V) (I : kI) (J : kJ) (q : kI × kJ), G_X6_tendLamp o n 77 s0 s1 I J = some q → kx_Run tb_X6_tendLamp (kx_NC, fun r' S'' => r' = none ∧ S'' = (q.1, q.2, none)) 77 [some (kx_r 6 (o)), x1] [kx_r 6 (o)] (I, J, none)) ∧ (∀ (s0 : Int32) (s1 : Int32) (x1 : Option kx_V) (I : kI) (J : kJ) (q : kI × kJ), G_X6_tendLamp o n 78 s0 s1 I J = some q → kx_Run tb_X6_tendLamp (kx_NC, fun r' S'' => r' = none ∧ S'' = (q.1, q.2, none)) 78 [some (kx_r 6 (o)), x1] [kx_i s1, kx_r 6 (o)] (I, J, none)) ∧ (∀ (s0 : Int32) (s1 : Int32) (x0 x1 : Option kx_V) (I : kI) (J : kJ) (q : kI × kJ), G_X6_tendLamp o n 101 s0 s1 I J = some q → kx_Run tb_X6_tendLamp (kx_NC, fun r' S'' => r' = none ∧ S'' = (q.1, q.2, none)) 101 [x0, x1] [] (I, J, none)) := by
  intro n
  induction n with
  | zero => refine ⟨?_, ?_, ?_, ?_, ?_, ?_, ?_, ?_⟩ <;> (intros; rename_i h; have h2 : (none : Option _) = some _ := h; cases h2)
  | succ n ih =>
    refine ⟨?_, ?_, ?_, ?_, ?_, ?_, ?_, ?_⟩
    · intro s0 s1 x1  I J q hG
      rw [G_X6_tendLamp_21] at hG
      refine kx_start [21, 25, 26, 54, 55, 77, 78, 101] 53 ?_
      exact (ih.2.2.1) _ _ _ _ _ q hG
    · intro s0 s1 x1  I J q hG
      rw [G_X6_tendLamp_25] at hG
      refine kx_start [21, 25, 26, 54, 55, 77, 78, 101] 53 ?_
      exact (ih.2.2.1) _ _ _ _ _ q hG
    · intro s0 s1 x1  I J q hG
      rw [G_X6_tendLamp_26] at hG
      refine kx_start [21, 25, 26, 54, 55, 77, 78, 101] 53 ?_
      refine ⟨fun h1 => ?_, fun h1 => ?_⟩
      · replace h1 : (I 6 o 13) = 0 := h1
        rw [kif_pos h1] at hG
        exact (ih.2.2.2.1) _ _ _ _ _ q hG
      · replace h1 : ¬ (I 6 o 13) = 0 := h1
        rw [kif_neg h1] at hG
        refine ⟨fun h2 => ?_, fun h2 => ?_⟩
        · replace h2 : s0 = 0 := h2
          rw [kif_pos h2] at hG
          exact (ih.2.2.2.1) _ _ _ _ _ q hG
        · replace h2 : ¬ s0 = 0 := h2
          rw [kif_neg h2] at hG
          refine ⟨fun h3 => ?_, fun h3 => ?_⟩
          · replace h3 : (I 6 o 8) < (I 6 o 7) := h3
            rw [kif_pos h3] at hG
            exact (ih.2.2.2.1) _ _ _ _ _ q hG
          · replace h3 : ¬ (I 6 o 8) < (I 6 o 7) := h3
            rw [kif_neg h3] at hG
            exact (ih.2.2.2.2.1) _ _ _ _ _ q hG
    · intro s0 s1 x1  I J q hG
      rw [G_X6_tendLamp_54] at hG
      refine kx_start [21, 25, 26, 54, 55, 77, 78, 101] 53 ?_
      exact (ih.2.2.2.2.1) _ _ _ _ _ q hG
    · intro s0 s1 x1  I J q hG
      rw [G_X6_tendLamp_55] at hG
      refine kx_start [21, 25, 26, 54, 55, 77, 78, 101] 53 ?_
      obtain ⟨hq, hG⟩ := kif_some hG
      refine ⟨hq, ?_⟩
      refine ⟨fun h4 => ?_, fun h4 => ?_⟩
      · replace h4 : ((kw I 6 o 10 s1) 6 o 10) = 0 := h4
        rw [kif_pos h4] at hG
        exact (ih.2.2.2.2.2.1) _ _ _ _ _ q hG
      · replace h4 : ¬ ((kw I 6 o 10 s1) 6 o 10) = 0 := h4
        rw [kif_neg h4] at hG
        refine ⟨fun h5 => ?_, fun h5 => ?_⟩
        · replace h5 : ¬ ((kw I 6 o 10 s1) 6 o 15) = 0 := h5
          rw [kif_neg h5] at hG
          exact (ih.2.2.2.2.2.1) _ _ _ _ _ q hG
        · replace h5 : ((kw I 6 o 10 s1) 6 o 15) = 0 := h5
          rw [kif_pos h5] at hG
          exact (ih.2.2.2.2.2.2.1) _ _ _ _ _ q hG
    · intro s0 s1 x1  I J q hG
      rw [G_X6_tendLamp_77] at hG
      refine kx_start [21, 25, 26, 54, 55, 77, 78, 101] 53 ?_
      exact (ih.2.2.2.2.2.2.1) _ _ _ _ _ q hG
    · intro s0 s1 x1  I J q hG
      rw [G_X6_tendLamp_78] at hG
      refine kx_start [21, 25, 26, 54, 55, 77, 78, 101] 53 ?_
      refine ⟨fun h6 => ?_, fun h6 => ?_⟩
      · replace h6 : ((kw I 6 o 11 s1) 6 o 10) = 0 := h6
        rw [kif_pos h6] at hG
        exact (ih.2.2.2.2.2.2.2) _ _ _ _ _ _ q hG
      · replace h6 : ¬ ((kw I 6 o 11 s1) 6 o 10) = 0 := h6
        rw [kif_neg h6] at hG
        exact (ih.2.2.2.2.2.2.2) _ _ _ _ _ _ q hG
    · intro s0 s1 x0 x1  I J q hG
      rw [G_X6_tendLamp_101] at hG
      refine kx_start [21, 25, 26, 54, 55, 77, 78, 101] 53 ?_
      replace hG := Option.some.inj hG
      subst hG
      exact ⟨rfl, rfl⟩
set_option maxRecDepth 100000 in
set_option maxHeartbeats 4000000 in
theorem cs_X6_tendLamp (o : Nat) (I : kI) (J : kJ) (q : kI × kJ) (hG : E_X6_tendLamp o I J = some q) : sp_X6_tendLamp [kx_r 6 o] (I, J, none) (none) (q.1, q.2, none) := by
  unfold E_X6_tendLamp at hG
  refine kx_start [21, 25, 26, 54, 55, 77, 78, 101] 53 ?_
  refine ⟨fun h1 => ?_, fun h1 => ?_⟩
  · replace h1 : ¬ (I 6 o 15) = 0 := h1
    rw [kif_neg h1] at hG
    exact ((cl_X6_tendLamp o kfu).1) _ _ _ _ _ q hG
  · replace h1 : (I 6 o 15) = 0 := h1
    rw [kif_pos h1] at hG
    refine ⟨fun h2 => ?_, fun h2 => ?_⟩
    · replace h2 : (I 6 o 10) = 0 := h2
      rw [kif_pos h2] at hG
      exact ((cl_X6_tendLamp o kfu).2.1) _ _ _ _ _ q hG
    · replace h2 : ¬ (I 6 o 10) = 0 := h2
      rw [kif_neg h2] at hG
      refine ⟨fun h3 => ?_, fun h3 => ?_⟩
      · replace h3 : ¬ (I 6 o 11) = 0 := h3
        rw [kif_neg h3] at hG
        exact ((cl_X6_tendLamp o kfu).2.1) _ _ _ _ _ q hG
      · replace h3 : (I 6 o 11) = 0 := h3
        rw [kif_pos h3] at hG
        exact ((cl_X6_tendLamp o kfu).1) _ _ _ _ _ q hG
noncomputable def G_X6_keepWatch (o : Nat) : Nat → Nat → kI → kJ → Option (kI × kJ)
  | 0, _, _, _ => none
  | n + 1, pc, I, J => (bif Nat.beq pc 44 then (kif (pre_X1_isAwake (o) (I 6 o 14) I J) (kif (((F_X1_isAwake (o) (I 6 o 14) I J) = 0 ∨ (F_X1_isAwake (o) (I 6 o 14) I J) = 1)) (kbd (E_X6_tendLamp (o) (kw I 6 o 15 (F_X1_isAwake (o) (I 6 o 14) I J)) J) (fun q1 => (kif ((q1.1 6 o 12) = (1 : Int32)) (kif ((q1.1 6 o 15) = 0) (kif (((kw q1.1 6 o 16 (0 : Int32)) 6 o 16) = 0) (some ((kw q1.1 6 o 16 (0 : Int32)), q1.2)) (some ((kw (kw q1.1 6 o 16 (0 : Int32)) 6 o 9 (((kw q1.1 6 o 16 (0 : Int32)) 6 o 9) - (1 : Int32))), q1.2))) (kif ((q1.1 6 o 9) < (1 : Int32)) (kif (((kw q1.1 6 o 16 (0 : Int32)) 6 o 16) = 0) (some ((kw q1.1 6 o 16 (0 : Int32)), q1.2)) (some ((kw (kw q1.1 6 o 16 (0 : Int32)) 6 o 9 (((kw q1.1 6 o 16 (0 : Int32)) 6 o 9) - (1 : Int32))), q1.2))) (kif (((kw q1.1 6 o 16 (1 : Int32)) 6 o 16) = 0) (some ((kw q1.1 6 o 16 (1 : Int32)), q1.2)) (some ((kw (kw q1.1 6 o 16 (1 : Int32)) 6 o 9 (((kw q1.1 6 o 16 (1 : Int32)) 6 o 9) - (1 : Int32))), q1.2))))) (kif (((kw q1.1 6 o 16 (0 : Int32)) 6 o 16) = 0) (some ((kw q1.1 6 o 16 (0 : Int32)), q1.2)) (some ((kw (kw q1.1 6 o 16 (0 : Int32)) 6 o 9 (((kw q1.1 6 o 16 (0 : Int32)) 6 o 9) - (1 : Int32))), q1.2)))))) none) none) else none)
theorem G_X6_keepWatch_44 (o : Nat) (n : Nat)  (I : kI) (J : kJ) : G_X6_keepWatch o (n + 1) 44  I J = (kif (pre_X1_isAwake (o) (I 6 o 14) I J) (kif (((F_X1_isAwake (o) (I 6 o 14) I J) = 0 ∨ (F_X1_isAwake (o) (I 6 o 14) I J) = 1)) (kbd (E_X6_tendLamp (o) (kw I 6 o 15 (F_X1_isAwake (o) (I 6 o 14) I J)) J) (fun q1 => (kif ((q1.1 6 o 12) = (1 : Int32)) (kif ((q1.1 6 o 15) = 0) (kif (((kw q1.1 6 o 16 (0 : Int32)) 6 o 16) = 0) (some ((kw q1.1 6 o 16 (0 : Int32)), q1.2)) (some ((kw (kw q1.1 6 o 16 (0 : Int32)) 6 o 9 (((kw q1.1 6 o 16 (0 : Int32)) 6 o 9) - (1 : Int32))), q1.2))) (kif ((q1.1 6 o 9) < (1 : Int32)) (kif (((kw q1.1 6 o 16 (0 : Int32)) 6 o 16) = 0) (some ((kw q1.1 6 o 16 (0 : Int32)), q1.2)) (some ((kw (kw q1.1 6 o 16 (0 : Int32)) 6 o 9 (((kw q1.1 6 o 16 (0 : Int32)) 6 o 9) - (1 : Int32))), q1.2))) (kif (((kw q1.1 6 o 16 (1 : Int32)) 6 o 16) = 0) (some ((kw q1.1 6 o 16 (1 : Int32)), q1.2)) (some ((kw (kw q1.1 6 o 16 (1 : Int32)) 6 o 9 (((kw q1.1 6 o 16 (1 : Int32)) 6 o 9) - (1 : Int32))), q1.2))))) (kif (((kw q1.1 6 o 16 (0 : Int32)) 6 o 16) = 0) (some ((kw q1.1 6 o 16 (0 : Int32)), q1.2)) (some ((kw (kw q1.1 6 o 16 (0 : Int32)) 6 o 9 (((kw q1.1 6 o 16 (0 : Int32)) 6 o 9) - (1 : Int32))), q1.2)))))) none) none) := rfl
noncomputable def E_X6_keepWatch (o : Nat) (I : kI) (J : kJ) : Option (kI × kJ) := (kif (pre_X5_weatherAt (o) (I 6 o 4) I J) (kif (pre_X6_isDarkAt (o) ((kw I 6 o 12 (F_X5_weatherAt (o) (I 6 o 4) I J)) 6 o 4) (kw I 6 o 12 (F_X5_weatherAt (o) (I 6 o 4) I J)) J) (kif (((F_X6_isDarkAt (o) ((kw I 6 o 12 (F_X5_weatherAt (o) (I 6 o 4) I J)) 6 o 4) (kw I 6 o 12 (F_X5_weatherAt (o) (I 6 o 4) I J)) J) = 0 ∨ (F_X6_isDarkAt (o) ((kw I 6 o 12 (F_X5_weatherAt (o) (I 6 o 4) I J)) 6 o 4) (kw I 6 o 12 (F_X5_weatherAt (o) (I 6 o 4) I J)) J) = 1)) (kif (pre_J9_floorMod_7cf53 ((kw (kw I 6 o 12 (F_X5_weatherAt (o) (I 6 o 4) I J)) 6 o 13 (F_X6_isDarkAt (o) ((kw I 6 o 12 (F_X5_weatherAt (o) (I 6 o 4) I J)) 6 o 4) (kw I 6 o 12 (F_X5_weatherAt (o) (I 6 o 4) I J)) J)) 6 o 4) (24 : Int32) (kw (kw I 6 o 12 (F_X5_weatherAt (o) (I 6 o 4) I J)) 6 o 13 (F_X6_isDarkAt (o) ((kw I 6 o 12 (F_X5_weatherAt (o) (I 6 o 4) I J)) 6 o 4) (kw I 6 o 12 (F_X5_weatherAt (o) (I 6 o 4) I J)) J)) J) (kif (pre_X6_planned (o) (F_J9_floorMod_7cf53 ((kw (kw I 6 o 12 (F_X5_weatherAt (o) (I 6 o 4) I J)) 6 o 13 (F_X6_isDarkAt (o) ((kw I 6 o 12 (F_X5_weatherAt (o) (I 6 o 4) I J)) 6 o 4) (kw I 6 o 12 (F_X5_weatherAt (o) (I 6 o 4) I J)) J)) 6 o 4) (24 : Int32) (kw (kw I 6 o 12 (F_X5_weatherAt (o) (I 6 o 4) I J)) 6 o 13 (F_X6_isDarkAt (o) ((kw I 6 o 12 (F_X5_weatherAt (o) (I 6 o 4) I J)) 6 o 4) (kw I 6 o 12 (F_X5_weatherAt (o) (I 6 o 4) I J)) J)) J) (kw (kw I 6 o 12 (F_X5_weatherAt (o) (I 6 o 4) I J)) 6 o 13 (F_X6_isDarkAt (o) ((kw I 6 o 12 (F_X5_weatherAt (o) (I 6 o 4) I J)) 6 o 4) (kw I 6 o 12 (F_X5_weatherAt (o) (I 6 o 4) I J)) J)) J) ((G_X6_keepWatch o kfu) 44  (kw (kw (kw I 6 o 12 (F_X5_weatherAt (o) (I 6 o 4) I J)) 6 o 13 (F_X6_isDarkAt (o) ((kw I 6 o 12 (F_X5_weatherAt (o) (I 6 o 4) I J)) 6 o 4) (kw I 6 o 12 (F_X5_weatherAt (o) (I 6 o 4) I J)) J)) 6 o 14 (F_X6_planned (o) (F_J9_floorMod_7cf53 ((kw (kw I 6 o 12 (F_X5_weatherAt (o) (I 6 o 4) I J)) 6 o 13 (F_X6_isDarkAt (o) ((kw I 6 o 12 (F_X5_weatherAt (o) (I 6 o 4) I J)) 6 o 4) (kw I 6 o 12 (F_X5_weatherAt (o) (I 6 o 4) I J)) J)) 6 o 4) (24 : Int32) (kw (kw I 6 o 12 (F_X5_weatherAt (o) (I 6 o 4) I J)) 6 o 13 (F_X6_isDarkAt (o) ((kw I 6 o 12 (F_X5_weatherAt (o) (I 6 o 4) I J)) 6 o 4) (kw I 6 o 12 (F_X5_weatherAt (o) (I 6 o 4) I J)) J)) J) (kw (kw I 6 o 12 (F_X5_weatherAt (o) (I 6 o 4) I J)) 6 o 13 (F_X6_isDarkAt (o) ((kw I 6 o 12 (F_X5_weatherAt (o) (I 6 o 4) I J)) 6 o 4) (kw I 6 o 12 (F_X5_weatherAt (o) (I 6 o 4) I J)) J)) J)) J) none) none) none) none) none)
set_option maxRecDepth 100000 in
set_option maxHeartbeats 4000000 in
theorem cl_X6_keepWatch (o : Nat) : ∀ n : Nat, (∀ (I : kI) (J : kJ) (q : kI × kJ), G_X6_keepWatch o n 44  I J = some q → kx_Run tb_X6_keepWatch (kx_NC, fun r' S'' => r' = none ∧ S'' = (q.1, q.2, none)) 44 [some (kx_r 6 (o))] [] (I, J, none)) := by
  intro n
  induction n with
  | zero => (intros; rename_i h; have h2 : (none : Option _) = some _ := h; cases h2)
  | succ n ih =>
    intro  I J q hG
    rw [G_X6_keepWatch_44] at hG
    refine kx_start [44] 59 ?_
    obtain ⟨hq, hG⟩ := kif_some hG
    refine ⟨_, _, cs_X1_isAwake (o) (I 6 o 14) I J hq, rfl, ?_⟩
    obtain ⟨hq, hG⟩ := kif_some hG
    refine ⟨hq, ?_⟩
    obtain ⟨q1, hq, hG⟩ := kbd_some hG
    refine ⟨_, _, cs_X6_tendLamp (o) (kw I 6 o 15 (F_X1_isAwake (o) (I 6 o 14) I J)) J q1 hq, rfl, ?_⟩
    refine ⟨fun h1 => ?_, fun h1 => ?_⟩
    · replace h1 : ¬ (q1.1 6 o 12) = (1 : Int32) := h1
      rw [kif_neg h1] at hG
      refine ⟨by decide, ?_⟩
      refine ⟨fun h2 => ?_, fun h2 => ?_⟩
      · replace h2 : ((kw q1.1 6 o 16 (0 : Int32)) 6 o 16) = 0 := h2
        rw [kif_pos h2] at hG
        replace hG := Option.some.inj hG
        subst hG
        exact ⟨rfl, rfl⟩
      · replace h2 : ¬ ((kw q1.1 6 o 16 (0 : Int32)) 6 o 16) = 0 := h2
        rw [kif_neg h2] at hG
        replace hG := Option.some.inj hG
        subst hG
        exact ⟨rfl, rfl⟩
    · replace h1 : (q1.1 6 o 12) = (1 : Int32) := h1
      rw [kif_pos h1] at hG
      refine ⟨fun h3 => ?_, fun h3 => ?_⟩
      · replace h3 : (q1.1 6 o 15) = 0 := h3
        rw [kif_pos h3] at hG
        refine ⟨by decide, ?_⟩
        refine ⟨fun h4 => ?_, fun h4 => ?_⟩
        · replace h4 : ((kw q1.1 6 o 16 (0 : Int32)) 6 o 16) = 0 := h4
          rw [kif_pos h4] at hG
          replace hG := Option.some.inj hG
          subst hG
          exact ⟨rfl, rfl⟩
        · replace h4 : ¬ ((kw q1.1 6 o 16 (0 : Int32)) 6 o 16) = 0 := h4
          rw [kif_neg h4] at hG
          replace hG := Option.some.inj hG
          subst hG
          exact ⟨rfl, rfl⟩
      · replace h3 : ¬ (q1.1 6 o 15) = 0 := h3
        rw [kif_neg h3] at hG
        refine ⟨fun h5 => ?_, fun h5 => ?_⟩
        · replace h5 : (q1.1 6 o 9) < (1 : Int32) := h5
          rw [kif_pos h5] at hG
          refine ⟨by decide, ?_⟩
          refine ⟨fun h6 => ?_, fun h6 => ?_⟩
          · replace h6 : ((kw q1.1 6 o 16 (0 : Int32)) 6 o 16) = 0 := h6
            rw [kif_pos h6] at hG
            replace hG := Option.some.inj hG
            subst hG
            exact ⟨rfl, rfl⟩
          · replace h6 : ¬ ((kw q1.1 6 o 16 (0 : Int32)) 6 o 16) = 0 := h6
            rw [kif_neg h6] at hG
            replace hG := Option.some.inj hG
            subst hG
            exact ⟨rfl, rfl⟩
        · replace h5 : ¬ (q1.1 6 o 9) < (1 : Int32) := h5
          rw [kif_neg h5] at hG
          refine ⟨by decide, ?_⟩
          refine ⟨fun h7 => ?_, fun h7 => ?_⟩
          · replace h7 : ((kw q1.1 6 o 16 (1 : Int32)) 6 o 16) = 0 := h7
            rw [kif_pos h7] at hG
            replace hG := Option.some.inj hG
            subst hG
            exact ⟨rfl, rfl⟩
          · replace h7 : ¬ ((kw q1.1 6 o 16 (1 : Int32)) 6 o 16) = 0 := h7
            rw [kif_neg h7] at hG
            replace hG := Option.some.inj hG
            subst hG
            exact ⟨rfl, rfl⟩
set_option maxRecDepth 100000 in
set_option maxHeartbeats 4000000 in
theorem cs_X6_keepWatch (o : Nat) (I : kI) (J : kJ) (q : kI × kJ) (hG : E_X6_keepWatch o I J = some q) : sp_X6_keepWatch [kx_r 6 o] (I, J, none) (none) (q.1, q.2, none) := by
  unfold E_X6_keepWatch at hG
  refine kx_start [44] 59 ?_
  obtain ⟨hq, hG⟩ := kif_some hG
  refine ⟨_, _, ct_X5_weatherAt (o) (I 6 o 4) I J hq, rfl, ?_⟩
  obtain ⟨hq, hG⟩ := kif_some hG
  refine ⟨_, _, cs_X6_isDarkAt (o) ((kw I 6 o 12 (F_X5_weatherAt (o) (I 6 o 4) I J)) 6 o 4) (kw I 6 o 12 (F_X5_weatherAt (o) (I 6 o 4) I J)) J hq, rfl, ?_⟩
  obtain ⟨hq, hG⟩ := kif_some hG
  refine ⟨hq, ?_⟩
  obtain ⟨hq, hG⟩ := kif_some hG
  refine ⟨_, _, cs_J9_floorMod_7cf53 ((kw (kw I 6 o 12 (F_X5_weatherAt (o) (I 6 o 4) I J)) 6 o 13 (F_X6_isDarkAt (o) ((kw I 6 o 12 (F_X5_weatherAt (o) (I 6 o 4) I J)) 6 o 4) (kw I 6 o 12 (F_X5_weatherAt (o) (I 6 o 4) I J)) J)) 6 o 4) (24 : Int32) (kw (kw I 6 o 12 (F_X5_weatherAt (o) (I 6 o 4) I J)) 6 o 13 (F_X6_isDarkAt (o) ((kw I 6 o 12 (F_X5_weatherAt (o) (I 6 o 4) I J)) 6 o 4) (kw I 6 o 12 (F_X5_weatherAt (o) (I 6 o 4) I J)) J)) J hq, rfl, ?_⟩
  obtain ⟨hq, hG⟩ := kif_some hG
  refine ⟨_, _, cs_X6_planned (o) (F_J9_floorMod_7cf53 ((kw (kw I 6 o 12 (F_X5_weatherAt (o) (I 6 o 4) I J)) 6 o 13 (F_X6_isDarkAt (o) ((kw I 6 o 12 (F_X5_weatherAt (o) (I 6 o 4) I J)) 6 o 4) (kw I 6 o 12 (F_X5_weatherAt (o) (I 6 o 4) I J)) J)) 6 o 4) (24 : Int32) (kw (kw I 6 o 12 (F_X5_weatherAt (o) (I 6 o 4) I J)) 6 o 13 (F_X6_isDarkAt (o) ((kw I 6 o 12 (F_X5_weatherAt (o) (I 6 o 4) I J)) 6 o 4) (kw I 6 o 12 (F_X5_weatherAt (o) (I 6 o 4) I J)) J)) J) (kw (kw I 6 o 12 (F_X5_weatherAt (o) (I 6 o 4) I J)) 6 o 13 (F_X6_isDarkAt (o) ((kw I 6 o 12 (F_X5_weatherAt (o) (I 6 o 4) I J)) 6 o 4) (kw I 6 o 12 (F_X5_weatherAt (o) (I 6 o 4) I J)) J)) J hq, rfl, ?_⟩
  exact ((cl_X6_keepWatch o kfu))  _ _ q hG
noncomputable def G_X6_meetBoat (o : Nat) : Nat → Nat → kI → kJ → Option (kI × kJ)
  | 0, _, _, _ => none
  | n + 1, pc, I, J => (bif Nat.beq pc 44 then (kif (pre_X1_restAll (o) I J) (some ((kw (kw (F_X1_restAll (o) I J).1 0 o 0 (((F_X1_restAll (o) I J).1 6 o 4) + ((F_X1_restAll (o) I J).1 0 o 1))) 0 o 4 (((kw (F_X1_restAll (o) I J).1 0 o 0 (((F_X1_restAll (o) I J).1 6 o 4) + ((F_X1_restAll (o) I J).1 0 o 1))) 0 o 4) + (1 : Int32))), (F_X1_restAll (o) I J).2)) none) else none)
theorem G_X6_meetBoat_44 (o : Nat) (n : Nat)  (I : kI) (J : kJ) : G_X6_meetBoat o (n + 1) 44  I J = (kif (pre_X1_restAll (o) I J) (some ((kw (kw (F_X1_restAll (o) I J).1 0 o 0 (((F_X1_restAll (o) I J).1 6 o 4) + ((F_X1_restAll (o) I J).1 0 o 1))) 0 o 4 (((kw (F_X1_restAll (o) I J).1 0 o 0 (((F_X1_restAll (o) I J).1 6 o 4) + ((F_X1_restAll (o) I J).1 0 o 1))) 0 o 4) + (1 : Int32))), (F_X1_restAll (o) I J).2)) none) := rfl
noncomputable def E_X6_meetBoat (o : Nat) (I : kI) (J : kJ) : Option (kI × kJ) := ((G_X6_meetBoat o kfu) 44  (kw (kw I 6 o 8 (if ((I 6 o 8) + (I 0 o 2)) < (9999 : Int32) then ((I 6 o 8) + (I 0 o 2)) else (9999 : Int32))) 6 o 9 (if (((kw I 6 o 8 (if ((I 6 o 8) + (I 0 o 2)) < (9999 : Int32) then ((I 6 o 8) + (I 0 o 2)) else (9999 : Int32))) 6 o 9) + ((kw I 6 o 8 (if ((I 6 o 8) + (I 0 o 2)) < (9999 : Int32) then ((I 6 o 8) + (I 0 o 2)) else (9999 : Int32))) 0 o 3)) < (9999 : Int32) then (((kw I 6 o 8 (if ((I 6 o 8) + (I 0 o 2)) < (9999 : Int32) then ((I 6 o 8) + (I 0 o 2)) else (9999 : Int32))) 6 o 9) + ((kw I 6 o 8 (if ((I 6 o 8) + (I 0 o 2)) < (9999 : Int32) then ((I 6 o 8) + (I 0 o 2)) else (9999 : Int32))) 0 o 3)) else (9999 : Int32))) J)
set_option maxRecDepth 100000 in
set_option maxHeartbeats 4000000 in
theorem cl_X6_meetBoat (o : Nat) : ∀ n : Nat, (∀ (I : kI) (J : kJ) (q : kI × kJ), G_X6_meetBoat o n 44  I J = some q → kx_Run tb_X6_meetBoat (kx_NC, fun r' S'' => r' = none ∧ S'' = (q.1, q.2, none)) 44 [some (kx_r 6 (o))] [] (I, J, none)) := by
  intro n
  induction n with
  | zero => (intros; rename_i h; have h2 : (none : Option _) = some _ := h; cases h2)
  | succ n ih =>
    intro  I J q hG
    rw [G_X6_meetBoat_44] at hG
    refine kx_start [44] 43 ?_
    obtain ⟨hq, hG⟩ := kif_some hG
    refine ⟨_, _, ct_X1_restAll (o) I J hq, rfl, ?_⟩
    replace hG := Option.some.inj hG
    subst hG
    exact ⟨rfl, rfl⟩
set_option maxRecDepth 100000 in
set_option maxHeartbeats 4000000 in
theorem cs_X6_meetBoat (o : Nat) (I : kI) (J : kJ) (q : kI × kJ) (hG : E_X6_meetBoat o I J = some q) : sp_X6_meetBoat [kx_r 6 o] (I, J, none) (none) (q.1, q.2, none) := by
  unfold E_X6_meetBoat at hG
  refine kx_start [44] 43 ?_
  exact ((cl_X6_meetBoat o kfu))  _ _ q hG
noncomputable def E_X6_endHour (o : Nat) (I : kI) (J : kJ) : Option (kI × kJ) := (kif ((I 6 o 12) = (2 : Int32)) (kif (pre_X1_spendHour (o) (I 6 o 14) (I 6 o 15) (2 : Int32) I J) (kif ((F_X0_isDueAt (o) ((F_X1_spendHour (o) (I 6 o 14) (I 6 o 15) (2 : Int32) I J).1 6 o 4) (F_X1_spendHour (o) (I 6 o 14) (I 6 o 15) (2 : Int32) I J).1 (F_X1_spendHour (o) (I 6 o 14) (I 6 o 15) (2 : Int32) I J).2) = 0) (some ((kw (F_X1_spendHour (o) (I 6 o 14) (I 6 o 15) (2 : Int32) I J).1 6 o 4 (((F_X1_spendHour (o) (I 6 o 14) (I 6 o 15) (2 : Int32) I J).1 6 o 4) + (1 : Int32))), (F_X1_spendHour (o) (I 6 o 14) (I 6 o 15) (2 : Int32) I J).2)) (kif (((F_X1_spendHour (o) (I 6 o 14) (I 6 o 15) (2 : Int32) I J).1 6 o 12) = (2 : Int32)) (some ((kw (F_X1_spendHour (o) (I 6 o 14) (I 6 o 15) (2 : Int32) I J).1 6 o 4 (((F_X1_spendHour (o) (I 6 o 14) (I 6 o 15) (2 : Int32) I J).1 6 o 4) + (1 : Int32))), (F_X1_spendHour (o) (I 6 o 14) (I 6 o 15) (2 : Int32) I J).2)) (kif (((F_X1_spendHour (o) (I 6 o 14) (I 6 o 15) (2 : Int32) I J).1 6 o 13) = 0) (kbd (E_X6_meetBoat (o) (F_X1_spendHour (o) (I 6 o 14) (I 6 o 15) (2 : Int32) I J).1 (F_X1_spendHour (o) (I 6 o 14) (I 6 o 15) (2 : Int32) I J).2) (fun q2 => (some ((kw q2.1 6 o 4 ((q2.1 6 o 4) + (1 : Int32))), q2.2)))) (some ((kw (F_X1_spendHour (o) (I 6 o 14) (I 6 o 15) (2 : Int32) I J).1 6 o 4 (((F_X1_spendHour (o) (I 6 o 14) (I 6 o 15) (2 : Int32) I J).1 6 o 4) + (1 : Int32))), (F_X1_spendHour (o) (I 6 o 14) (I 6 o 15) (2 : Int32) I J).2))))) none) (kif (pre_X1_spendHour (o) (I 6 o 14) (I 6 o 15) (1 : Int32) I J) (kif ((F_X0_isDueAt (o) ((F_X1_spendHour (o) (I 6 o 14) (I 6 o 15) (1 : Int32) I J).1 6 o 4) (F_X1_spendHour (o) (I 6 o 14) (I 6 o 15) (1 : Int32) I J).1 (F_X1_spendHour (o) (I 6 o 14) (I 6 o 15) (1 : Int32) I J).2) = 0) (some ((kw (F_X1_spendHour (o) (I 6 o 14) (I 6 o 15) (1 : Int32) I J).1 6 o 4 (((F_X1_spendHour (o) (I 6 o 14) (I 6 o 15) (1 : Int32) I J).1 6 o 4) + (1 : Int32))), (F_X1_spendHour (o) (I 6 o 14) (I 6 o 15) (1 : Int32) I J).2)) (kif (((F_X1_spendHour (o) (I 6 o 14) (I 6 o 15) (1 : Int32) I J).1 6 o 12) = (2 : Int32)) (some ((kw (F_X1_spendHour (o) (I 6 o 14) (I 6 o 15) (1 : Int32) I J).1 6 o 4 (((F_X1_spendHour (o) (I 6 o 14) (I 6 o 15) (1 : Int32) I J).1 6 o 4) + (1 : Int32))), (F_X1_spendHour (o) (I 6 o 14) (I 6 o 15) (1 : Int32) I J).2)) (kif (((F_X1_spendHour (o) (I 6 o 14) (I 6 o 15) (1 : Int32) I J).1 6 o 13) = 0) (kbd (E_X6_meetBoat (o) (F_X1_spendHour (o) (I 6 o 14) (I 6 o 15) (1 : Int32) I J).1 (F_X1_spendHour (o) (I 6 o 14) (I 6 o 15) (1 : Int32) I J).2) (fun q1 => (some ((kw q1.1 6 o 4 ((q1.1 6 o 4) + (1 : Int32))), q1.2)))) (some ((kw (F_X1_spendHour (o) (I 6 o 14) (I 6 o 15) (1 : Int32) I J).1 6 o 4 (((F_X1_spendHour (o) (I 6 o 14) (I 6 o 15) (1 : Int32) I J).1 6 o 4) + (1 : Int32))), (F_X1_spendHour (o) (I 6 o 14) (I 6 o 15) (1 : Int32) I J).2))))) none))
set_option maxRecDepth 100000 in
set_option maxHeartbeats 4000000 in
theorem cs_X6_endHour (o : Nat) (I : kI) (J : kJ) (q : kI × kJ) (hG : E_X6_endHour o I J = some q) : sp_X6_endHour [kx_r 6 o] (I, J, none) (none) (q.1, q.2, none) := by
  unfold E_X6_endHour at hG
  refine kx_start [] 39 ?_
  refine ⟨fun h1 => ?_, fun h1 => ?_⟩
  · replace h1 : ¬ (I 6 o 12) = (2 : Int32) := h1
    rw [kif_neg h1] at hG
    obtain ⟨hq, hG⟩ := kif_some hG
    refine ⟨_, _, ct_X1_spendHour (o) (I 6 o 14) (I 6 o 15) (1 : Int32) I J hq, rfl, ?_⟩
    refine ⟨_, _, cs_X0_isDueAt (o) ((F_X1_spendHour (o) (I 6 o 14) (I 6 o 15) (1 : Int32) I J).1 6 o 4) (F_X1_spendHour (o) (I 6 o 14) (I 6 o 15) (1 : Int32) I J).1 (F_X1_spendHour (o) (I 6 o 14) (I 6 o 15) (1 : Int32) I J).2, rfl, ?_⟩
    refine ⟨fun h2 => ?_, fun h2 => ?_⟩
    · replace h2 : (F_X0_isDueAt (o) ((F_X1_spendHour (o) (I 6 o 14) (I 6 o 15) (1 : Int32) I J).1 6 o 4) (F_X1_spendHour (o) (I 6 o 14) (I 6 o 15) (1 : Int32) I J).1 (F_X1_spendHour (o) (I 6 o 14) (I 6 o 15) (1 : Int32) I J).2) = 0 := h2
      rw [kif_pos h2] at hG
      replace hG := Option.some.inj hG
      subst hG
      exact ⟨rfl, rfl⟩
    · replace h2 : ¬ (F_X0_isDueAt (o) ((F_X1_spendHour (o) (I 6 o 14) (I 6 o 15) (1 : Int32) I J).1 6 o 4) (F_X1_spendHour (o) (I 6 o 14) (I 6 o 15) (1 : Int32) I J).1 (F_X1_spendHour (o) (I 6 o 14) (I 6 o 15) (1 : Int32) I J).2) = 0 := h2
      rw [kif_neg h2] at hG
      refine ⟨fun h3 => ?_, fun h3 => ?_⟩
      · replace h3 : ((F_X1_spendHour (o) (I 6 o 14) (I 6 o 15) (1 : Int32) I J).1 6 o 12) = (2 : Int32) := h3
        rw [kif_pos h3] at hG
        replace hG := Option.some.inj hG
        subst hG
        exact ⟨rfl, rfl⟩
      · replace h3 : ¬ ((F_X1_spendHour (o) (I 6 o 14) (I 6 o 15) (1 : Int32) I J).1 6 o 12) = (2 : Int32) := h3
        rw [kif_neg h3] at hG
        refine ⟨fun h4 => ?_, fun h4 => ?_⟩
        · replace h4 : ¬ ((F_X1_spendHour (o) (I 6 o 14) (I 6 o 15) (1 : Int32) I J).1 6 o 13) = 0 := h4
          rw [kif_neg h4] at hG
          replace hG := Option.some.inj hG
          subst hG
          exact ⟨rfl, rfl⟩
        · replace h4 : ((F_X1_spendHour (o) (I 6 o 14) (I 6 o 15) (1 : Int32) I J).1 6 o 13) = 0 := h4
          rw [kif_pos h4] at hG
          obtain ⟨q1, hq, hG⟩ := kbd_some hG
          refine ⟨_, _, cs_X6_meetBoat (o) (F_X1_spendHour (o) (I 6 o 14) (I 6 o 15) (1 : Int32) I J).1 (F_X1_spendHour (o) (I 6 o 14) (I 6 o 15) (1 : Int32) I J).2 q1 hq, rfl, ?_⟩
          replace hG := Option.some.inj hG
          subst hG
          exact ⟨rfl, rfl⟩
  · replace h1 : (I 6 o 12) = (2 : Int32) := h1
    rw [kif_pos h1] at hG
    obtain ⟨hq, hG⟩ := kif_some hG
    refine ⟨_, _, ct_X1_spendHour (o) (I 6 o 14) (I 6 o 15) (2 : Int32) I J hq, rfl, ?_⟩
    refine ⟨_, _, cs_X0_isDueAt (o) ((F_X1_spendHour (o) (I 6 o 14) (I 6 o 15) (2 : Int32) I J).1 6 o 4) (F_X1_spendHour (o) (I 6 o 14) (I 6 o 15) (2 : Int32) I J).1 (F_X1_spendHour (o) (I 6 o 14) (I 6 o 15) (2 : Int32) I J).2, rfl, ?_⟩
    refine ⟨fun h5 => ?_, fun h5 => ?_⟩
    · replace h5 : (F_X0_isDueAt (o) ((F_X1_spendHour (o) (I 6 o 14) (I 6 o 15) (2 : Int32) I J).1 6 o 4) (F_X1_spendHour (o) (I 6 o 14) (I 6 o 15) (2 : Int32) I J).1 (F_X1_spendHour (o) (I 6 o 14) (I 6 o 15) (2 : Int32) I J).2) = 0 := h5
      rw [kif_pos h5] at hG
      replace hG := Option.some.inj hG
      subst hG
      exact ⟨rfl, rfl⟩
    · replace h5 : ¬ (F_X0_isDueAt (o) ((F_X1_spendHour (o) (I 6 o 14) (I 6 o 15) (2 : Int32) I J).1 6 o 4) (F_X1_spendHour (o) (I 6 o 14) (I 6 o 15) (2 : Int32) I J).1 (F_X1_spendHour (o) (I 6 o 14) (I 6 o 15) (2 : Int32) I J).2) = 0 := h5
      rw [kif_neg h5] at hG
      refine ⟨fun h6 => ?_, fun h6 => ?_⟩
      · replace h6 : ((F_X1_spendHour (o) (I 6 o 14) (I 6 o 15) (2 : Int32) I J).1 6 o 12) = (2 : Int32) := h6
        rw [kif_pos h6] at hG
        replace hG := Option.some.inj hG
        subst hG
        exact ⟨rfl, rfl⟩
      · replace h6 : ¬ ((F_X1_spendHour (o) (I 6 o 14) (I 6 o 15) (2 : Int32) I J).1 6 o 12) = (2 : Int32) := h6
        rw [kif_neg h6] at hG
        refine ⟨fun h7 => ?_, fun h7 => ?_⟩
        · replace h7 : ¬ ((F_X1_spendHour (o) (I 6 o 14) (I 6 o 15) (2 : Int32) I J).1 6 o 13) = 0 := h7
          rw [kif_neg h7] at hG
          replace hG := Option.some.inj hG
          subst hG
          exact ⟨rfl, rfl⟩
        · replace h7 : ((F_X1_spendHour (o) (I 6 o 14) (I 6 o 15) (2 : Int32) I J).1 6 o 13) = 0 := h7
          rw [kif_pos h7] at hG
          obtain ⟨q2, hq, hG⟩ := kbd_some hG
          refine ⟨_, _, cs_X6_meetBoat (o) (F_X1_spendHour (o) (I 6 o 14) (I 6 o 15) (2 : Int32) I J).1 (F_X1_spendHour (o) (I 6 o 14) (I 6 o 15) (2 : Int32) I J).2 q2 hq, rfl, ?_⟩
          replace hG := Option.some.inj hG
          subst hG
          exact ⟨rfl, rfl⟩
noncomputable def G_X6_become (o : Nat) (o0 : Nat) : Nat → Nat → kI → kJ → Option (kI × kJ)
  | 0, _, _, _ => none
  | n + 1, pc, I, J => (bif Nat.beq pc 56 then ((G_X6_become o o0 n) 96  (kw (kw (kw (kw (kw I 6 o 5 (I 6 o0 5)) 6 o 6 ((kw I 6 o 5 (I 6 o0 5)) 6 o0 6)) 6 o 7 ((kw (kw I 6 o 5 (I 6 o0 5)) 6 o 6 ((kw I 6 o 5 (I 6 o0 5)) 6 o0 6)) 6 o0 7)) 6 o 8 ((kw (kw (kw I 6 o 5 (I 6 o0 5)) 6 o 6 ((kw I 6 o 5 (I 6 o0 5)) 6 o0 6)) 6 o 7 ((kw (kw I 6 o 5 (I 6 o0 5)) 6 o 6 ((kw I 6 o 5 (I 6 o0 5)) 6 o0 6)) 6 o0 7)) 6 o0 8)) 6 o 9 ((kw (kw (kw (kw I 6 o 5 (I 6 o0 5)) 6 o 6 ((kw I 6 o 5 (I 6 o0 5)) 6 o0 6)) 6 o 7 ((kw (kw I 6 o 5 (I 6 o0 5)) 6 o 6 ((kw I 6 o 5 (I 6 o0 5)) 6 o0 6)) 6 o0 7)) 6 o 8 ((kw (kw (kw I 6 o 5 (I 6 o0 5)) 6 o 6 ((kw I 6 o 5 (I 6 o0 5)) 6 o0 6)) 6 o 7 ((kw (kw I 6 o 5 (I 6 o0 5)) 6 o 6 ((kw I 6 o 5 (I 6 o0 5)) 6 o0 6)) 6 o0 7)) 6 o0 8)) 6 o0 9)) J) else (bif Nat.beq pc 96 then (kif (((I 6 o0 10) = 0 ∨ (I 6 o0 10) = 1)) (some ((kw (kw I 6 o 10 (I 6 o0 10)) 6 o 11 ((kw I 6 o 10 (I 6 o0 10)) 6 o0 11)), J)) none) else none))
theorem G_X6_become_56 (o : Nat) (o0 : Nat) (n : Nat)  (I : kI) (J : kJ) : G_X6_become o o0 (n + 1) 56  I J = ((G_X6_become o o0 n) 96  (kw (kw (kw (kw (kw I 6 o 5 (I 6 o0 5)) 6 o 6 ((kw I 6 o 5 (I 6 o0 5)) 6 o0 6)) 6 o 7 ((kw (kw I 6 o 5 (I 6 o0 5)) 6 o 6 ((kw I 6 o 5 (I 6 o0 5)) 6 o0 6)) 6 o0 7)) 6 o 8 ((kw (kw (kw I 6 o 5 (I 6 o0 5)) 6 o 6 ((kw I 6 o 5 (I 6 o0 5)) 6 o0 6)) 6 o 7 ((kw (kw I 6 o 5 (I 6 o0 5)) 6 o 6 ((kw I 6 o 5 (I 6 o0 5)) 6 o0 6)) 6 o0 7)) 6 o0 8)) 6 o 9 ((kw (kw (kw (kw I 6 o 5 (I 6 o0 5)) 6 o 6 ((kw I 6 o 5 (I 6 o0 5)) 6 o0 6)) 6 o 7 ((kw (kw I 6 o 5 (I 6 o0 5)) 6 o 6 ((kw I 6 o 5 (I 6 o0 5)) 6 o0 6)) 6 o0 7)) 6 o 8 ((kw (kw (kw I 6 o 5 (I 6 o0 5)) 6 o 6 ((kw I 6 o 5 (I 6 o0 5)) 6 o0 6)) 6 o 7 ((kw (kw I 6 o 5 (I 6 o0 5)) 6 o 6 ((kw I 6 o 5 (I 6 o0 5)) 6 o0 6)) 6 o0 7)) 6 o0 8)) 6 o0 9)) J) := rfl
theorem G_X6_become_96 (o : Nat) (o0 : Nat) (n : Nat)  (I : kI) (J : kJ) : G_X6_become o o0 (n + 1) 96  I J = (kif (((I 6 o0 10) = 0 ∨ (I 6 o0 10) = 1)) (some ((kw (kw I 6 o 10 (I 6 o0 10)) 6 o 11 ((kw I 6 o 10 (I 6 o0 10)) 6 o0 11)), J)) none) := rfl
noncomputable def E_X6_become (o : Nat) (o0 : Nat) (I : kI) (J : kJ) : Option (kI × kJ) := (kif (pre_X5_become (o) (o0) I J) (kif (pre_X1_become (o) (o0) (F_X5_become (o) (o0) I J).1 (F_X5_become (o) (o0) I J).2) (kif ((¬ (0 : Int32) < 0 ∧ ¬ (0 : Int32) < 0 ∧ ¬ (24 : Int32) < 0 ∧ ((0 : Int32)).toNatClampNeg + ((24 : Int32)).toNatClampNeg ≤ 24 ∧ ((0 : Int32)).toNatClampNeg + ((24 : Int32)).toNatClampNeg ≤ 24)) ((G_X6_become o o0 kfu) 56  (kw (kcI (F_X0_become (o) (o0) (F_X1_become (o) (o0) (F_X5_become (o) (o0) I J).1 (F_X5_become (o) (o0) I J).2).1 (F_X1_become (o) (o0) (F_X5_become (o) (o0) I J).1 (F_X5_become (o) (o0) I J).2).2).1 37 o0 37 o ((0 : Int32)).toNatClampNeg ((0 : Int32)).toNatClampNeg ((24 : Int32)).toNatClampNeg) 6 o 4 ((kcI (F_X0_become (o) (o0) (F_X1_become (o) (o0) (F_X5_become (o) (o0) I J).1 (F_X5_become (o) (o0) I J).2).1 (F_X1_become (o) (o0) (F_X5_become (o) (o0) I J).1 (F_X5_become (o) (o0) I J).2).2).1 37 o0 37 o ((0 : Int32)).toNatClampNeg ((0 : Int32)).toNatClampNeg ((24 : Int32)).toNatClampNeg) 6 o0 4)) (F_X0_become (o) (o0) (F_X1_become (o) (o0) (F_X5_become (o) (o0) I J).1 (F_X5_become (o) (o0) I J).2).1 (F_X1_become (o) (o0) (F_X5_become (o) (o0) I J).1 (F_X5_become (o) (o0) I J).2).2).2) none) none) none)
set_option maxRecDepth 100000 in
set_option maxHeartbeats 4000000 in
theorem cl_X6_become (o : Nat) (o0 : Nat) : ∀ n : Nat, (∀ (I : kI) (J : kJ) (q : kI × kJ), G_X6_become o o0 n 56  I J = some q → kx_Run tb_X6_become (kx_NC, fun r' S'' => r' = none ∧ S'' = (q.1, q.2, none)) 56 [some (kx_r 6 (o)), some (kx_r 6 (o0))] [] (I, J, none)) ∧ (∀ (I : kI) (J : kJ) (q : kI × kJ), G_X6_become o o0 n 96  I J = some q → kx_Run tb_X6_become (kx_NC, fun r' S'' => r' = none ∧ S'' = (q.1, q.2, none)) 96 [some (kx_r 6 (o)), some (kx_r 6 (o0))] [] (I, J, none)) := by
  intro n
  induction n with
  | zero => refine ⟨?_, ?_⟩ <;> (intros; rename_i h; have h2 : (none : Option _) = some _ := h; cases h2)
  | succ n ih =>
    refine ⟨?_, ?_⟩
    · intro  I J q hG
      rw [G_X6_become_56] at hG
      refine kx_start [56, 96] 59 ?_
      exact (ih.2)  _ _ q hG
    · intro  I J q hG
      rw [G_X6_become_96] at hG
      refine kx_start [56, 96] 59 ?_
      obtain ⟨hq, hG⟩ := kif_some hG
      refine ⟨hq, ?_⟩
      replace hG := Option.some.inj hG
      subst hG
      exact ⟨rfl, rfl⟩
set_option maxRecDepth 100000 in
set_option maxHeartbeats 4000000 in
theorem cs_X6_become (o : Nat) (o0 : Nat) (I : kI) (J : kJ) (q : kI × kJ) (hG : E_X6_become o o0 I J = some q) : sp_X6_become [kx_r 6 o, kx_r 6 o0] (I, J, none) (none) (q.1, q.2, none) := by
  unfold E_X6_become at hG
  refine kx_start [56, 96] 59 ?_
  obtain ⟨hq, hG⟩ := kif_some hG
  refine ⟨_, _, cs_X5_become (o) (o0) I J hq, rfl, ?_⟩
  obtain ⟨hq, hG⟩ := kif_some hG
  refine ⟨_, _, cs_X1_become (o) (o0) (F_X5_become (o) (o0) I J).1 (F_X5_become (o) (o0) I J).2 hq, rfl, ?_⟩
  refine ⟨_, _, cs_X0_become (o) (o0) (F_X1_become (o) (o0) (F_X5_become (o) (o0) I J).1 (F_X5_become (o) (o0) I J).2).1 (F_X1_become (o) (o0) (F_X5_become (o) (o0) I J).1 (F_X5_become (o) (o0) I J).2).2, rfl, ?_⟩
  obtain ⟨hq, hG⟩ := kif_some hG
  refine ⟨hq.1, hq.2.1, hq.2.2.1, hq.2.2.2.1, hq.2.2.2.2, ?_⟩
  exact ((cl_X6_become o o0 kfu).1)  _ _ q hG
noncomputable def G_X7_countDigits (o : Nat) (a0 : Int32) : Nat → Nat → Int32 → kI → kJ → Option (Int32)
  | 0, _, _, _, _ => none
  | n + 1, pc, s0, I, J => (bif Nat.beq pc 8 then (kif (s0 = 0) (some (0 : Int32)) ((G_X7_countDigits o a0 n) 13 0 I J)) else (bif Nat.beq pc 13 then (kif (pre_X7_byteAt (o) (a0 + (1 : Int32)) I J) (kif (pre_X7_isDigit (F_X7_byteAt (o) (a0 + (1 : Int32)) I J) I J) ((G_X7_countDigits o a0 n) 23 (F_X7_isDigit (F_X7_byteAt (o) (a0 + (1 : Int32)) I J) I J) I J) none) none) else (bif Nat.beq pc 23 then (kif (s0 = 0) (some (1 : Int32)) (some (2 : Int32))) else none)))
theorem G_X7_countDigits_8 (o : Nat) (a0 : Int32) (n : Nat) (s0 : Int32) (I : kI) (J : kJ) : G_X7_countDigits o a0 (n + 1) 8 s0 I J = (kif (s0 = 0) (some (0 : Int32)) ((G_X7_countDigits o a0 n) 13 0 I J)) := rfl
theorem G_X7_countDigits_13 (o : Nat) (a0 : Int32) (n : Nat) (s0 : Int32) (I : kI) (J : kJ) : G_X7_countDigits o a0 (n + 1) 13 s0 I J = (kif (pre_X7_byteAt (o) (a0 + (1 : Int32)) I J) (kif (pre_X7_isDigit (F_X7_byteAt (o) (a0 + (1 : Int32)) I J) I J) ((G_X7_countDigits o a0 n) 23 (F_X7_isDigit (F_X7_byteAt (o) (a0 + (1 : Int32)) I J) I J) I J) none) none) := rfl
theorem G_X7_countDigits_23 (o : Nat) (a0 : Int32) (n : Nat) (s0 : Int32) (I : kI) (J : kJ) : G_X7_countDigits o a0 (n + 1) 23 s0 I J = (kif (s0 = 0) (some (1 : Int32)) (some (2 : Int32))) := rfl
noncomputable def E_X7_countDigits (o : Nat) (a0 : Int32) (I : kI) (J : kJ) : Option (Int32) := (kif (pre_X7_byteAt (o) a0 I J) (kif (pre_X7_isDigit (F_X7_byteAt (o) a0 I J) I J) ((G_X7_countDigits o a0 kfu) 8 (F_X7_isDigit (F_X7_byteAt (o) a0 I J) I J) I J) none) none)
set_option maxRecDepth 100000 in
set_option maxHeartbeats 4000000 in
theorem cl_X7_countDigits (o : Nat) (a0 : Int32) (I0 : kI) (J0 : kJ) : ∀ n : Nat, (∀ (s0 : Int32) (I : kI) (J : kJ) (q : Int32), I = I0 → J = J0 → G_X7_countDigits o a0 n 8 s0 I J = some q → kx_Run tb_X7_countDigits (kx_NC, fun r' S'' => r' = some (kx_i q) ∧ S'' = (I0, J0, none)) 8 [some (kx_r 7 (o)), some (kx_i a0)] [kx_i s0] (I, J, none)) ∧ (∀ (s0 : Int32) (I : kI) (J : kJ) (q : Int32), I = I0 → J = J0 → G_X7_countDigits o a0 n 13 s0 I J = some q → kx_Run tb_X7_countDigits (kx_NC, fun r' S'' => r' = some (kx_i q) ∧ S'' = (I0, J0, none)) 13 [some (kx_r 7 (o)), some (kx_i a0)] [] (I, J, none)) ∧ (∀ (s0 : Int32) (x0 x1 : Option kx_V) (I : kI) (J : kJ) (q : Int32), I = I0 → J = J0 → G_X7_countDigits o a0 n 23 s0 I J = some q → kx_Run tb_X7_countDigits (kx_NC, fun r' S'' => r' = some (kx_i q) ∧ S'' = (I0, J0, none)) 23 [x0, x1] [kx_i s0] (I, J, none)) := by
  intro n
  induction n with
  | zero => refine ⟨?_, ?_, ?_⟩ <;> (intros; rename_i h; have h2 : (none : Option _) = some _ := h; cases h2)
  | succ n ih =>
    refine ⟨?_, ?_, ?_⟩
    · intro s0  I J q hI0 hJ0 hG
      subst hI0 hJ0
      rw [G_X7_countDigits_8] at hG
      refine kx_start [8, 13, 23] 21 ?_
      refine ⟨fun h1 => ?_, fun h1 => ?_⟩
      · replace h1 : ¬ s0 = 0 := h1
        rw [kif_neg h1] at hG
        exact (ih.2.1) _ _ _ q rfl rfl hG
      · replace h1 : s0 = 0 := h1
        rw [kif_pos h1] at hG
        replace hG := Option.some.inj hG
        subst hG
        exact ⟨rfl, rfl⟩
    · intro s0  I J q hI0 hJ0 hG
      subst hI0 hJ0
      rw [G_X7_countDigits_13] at hG
      refine kx_start [8, 13, 23] 21 ?_
      obtain ⟨hq, hG⟩ := kif_some hG
      refine ⟨_, _, cs_X7_byteAt (o) (a0 + (1 : Int32)) I J hq, rfl, ?_⟩
      obtain ⟨hq, hG⟩ := kif_some hG
      refine ⟨_, _, cs_X7_isDigit (F_X7_byteAt (o) (a0 + (1 : Int32)) I J) I J hq, rfl, ?_⟩
      exact (ih.2.2) _ _ _ _ _ q rfl rfl hG
    · intro s0 x0 x1  I J q hI0 hJ0 hG
      subst hI0 hJ0
      rw [G_X7_countDigits_23] at hG
      refine kx_start [8, 13, 23] 21 ?_
      refine ⟨fun h2 => ?_, fun h2 => ?_⟩
      · replace h2 : s0 = 0 := h2
        rw [kif_pos h2] at hG
        replace hG := Option.some.inj hG
        subst hG
        exact ⟨rfl, rfl⟩
      · replace h2 : ¬ s0 = 0 := h2
        rw [kif_neg h2] at hG
        replace hG := Option.some.inj hG
        subst hG
        exact ⟨rfl, rfl⟩
set_option maxRecDepth 100000 in
set_option maxHeartbeats 4000000 in
theorem cs_X7_countDigits (o : Nat) (a0 : Int32) (I : kI) (J : kJ) (q : Int32) (hG : E_X7_countDigits o a0 I J = some q) : sp_X7_countDigits [kx_r 7 o, kx_i a0] (I, J, none) (some (kx_i q)) (I, J, none) := by
  unfold E_X7_countDigits at hG
  refine kx_start [8, 13, 23] 21 ?_
  obtain ⟨hq, hG⟩ := kif_some hG
  refine ⟨_, _, cs_X7_byteAt (o) a0 I J hq, rfl, ?_⟩
  obtain ⟨hq, hG⟩ := kif_some hG
  refine ⟨_, _, cs_X7_isDigit (F_X7_byteAt (o) a0 I J) I J hq, rfl, ?_⟩
  exact ((cl_X7_countDigits o a0 I J kfu).1) _ _ _ q rfl rfl hG

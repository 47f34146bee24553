noncomputable def G_X11_passes (a0 : Int32) : Nat → Nat → Int32 → Int32 → kI → kJ → Option (Int32 × kI × kJ)
  | 0, _, _, _, _, _ => none
  | n + 1, pc, v2, v3, I, J => (bif Nat.beq pc 10 then (kif (a0 ≤ v3) (kif (vp_in (16 : Int32) 2509) (some (((I 41 0 ((16 : Int32)).toNatClampNeg) - v2), I, J)) none) (kbd (E_X11_hourPasses  I J) (fun q1 => ((G_X11_passes a0 n) 10 v2 (v3 + (1)) q1.1 q1.2)))) else none)
theorem G_X11_passes_10 (a0 : Int32) (n : Nat) (v2 : Int32) (v3 : Int32) (I : kI) (J : kJ) : G_X11_passes a0 (n + 1) 10 v2 v3 I J = (kif (a0 ≤ v3) (kif (vp_in (16 : Int32) 2509) (some (((I 41 0 ((16 : Int32)).toNatClampNeg) - v2), I, J)) none) (kbd (E_X11_hourPasses  I J) (fun q1 => ((G_X11_passes a0 n) 10 v2 (v3 + (1)) q1.1 q1.2)))) := rfl
noncomputable def E_X11_passes (a0 : Int32) (I : kI) (J : kJ) : Option (Int32 × kI × kJ) := (kif (vp_in (16 : Int32) 2509) ((G_X11_passes a0 kfu) 10 (I 41 0 ((16 : Int32)).toNatClampNeg) (0 : Int32) I J) none)
set_option maxRecDepth 100000 in
set_option maxHeartbeats 4000000 in
theorem cl_X11_passes (a0 : Int32) : ∀ n : Nat, (∀ (v2 : Int32) (v3 : Int32) (I : kI) (J : kJ) (q : Int32 × kI × kJ), G_X11_passes a0 n 10 v2 v3 I J = some q → kx_Run tb_X11_passes (kx_NC, fun r' S'' => r' = some (kx_i q.1) ∧ S'' = (q.2.1, q.2.2, none)) 10 [some (kx_r 11 (0)), some (kx_i a0), some (kx_i v2), some (kx_i v3)] [] (I, J, none)) := by
  intro n
  induction n with
  | zero => (intros; rename_i h; have h2 : (none : Option _) = some _ := h; cases h2)
  | succ n ih =>
    intro v2 v3  I J q hG
    rw [G_X11_passes_10] at hG
    refine kx_start [10] 24 ?_
    refine ⟨fun h1 => ?_, fun h1 => ?_⟩
    · replace h1 : a0 ≤ v3 := h1
      rw [kif_pos h1] at hG
      obtain ⟨hq, hG⟩ := kif_some hG
      refine ⟨hq, ?_⟩
      replace hG := Option.some.inj hG
      subst hG
      exact ⟨rfl, rfl⟩
    · replace h1 : ¬ a0 ≤ v3 := h1
      rw [kif_neg h1] at hG
      obtain ⟨q1, hq, hG⟩ := kbd_some hG
      refine ⟨_, _, cs_X11_hourPasses  I J q1 hq, rfl, ?_⟩
      exact (ih) _ _ _ _ q hG
set_option maxRecDepth 100000 in
set_option maxHeartbeats 4000000 in
theorem cs_X11_passes (a0 : Int32) (I : kI) (J : kJ) (q : Int32 × kI × kJ) (hG : E_X11_passes a0 I J = some q) : sp_X11_passes [kx_r 11 0, kx_i a0] (I, J, none) (some (kx_i q.1)) (q.2.1, q.2.2, none) := by
  unfold E_X11_passes at hG
  refine kx_start [10] 24 ?_
  obtain ⟨hq, hG⟩ := kif_some hG
  refine ⟨hq, ?_⟩
  exact ((cl_X11_passes a0 kfu)) _ _ _ _ q hG
noncomputable def E_X11_unlitOf (a0 : Int32) (I : kI) (J : kJ) : Option (Int32 × kI × kJ) := (kif (pre_X11_copies (0) (1) I J) (kbd (E_X11_passes a0 (F_X11_copies (0) (1) I J).1 (F_X11_copies (0) (1) I J).2) (fun q1 => (kif (pre_X11_copies (1) (0) q1.2.1 q1.2.2) (some (q1.1, (F_X11_copies (1) (0) q1.2.1 q1.2.2).1, (F_X11_copies (1) (0) q1.2.1 q1.2.2).2)) none))) none)
set_option maxRecDepth 100000 in
set_option maxHeartbeats 4000000 in
theorem cs_X11_unlitOf (a0 : Int32) (I : kI) (J : kJ) (q : Int32 × kI × kJ) (hG : E_X11_unlitOf a0 I J = some q) : sp_X11_unlitOf [kx_r 11 0, kx_i a0] (I, J, none) (some (kx_i q.1)) (q.2.1, q.2.2, none) := by
  unfold E_X11_unlitOf at hG
  refine kx_start [] 19 ?_
  obtain ⟨hq, hG⟩ := kif_some hG
  refine ⟨_, _, ct_X11_copies (0) (1) I J hq, rfl, ?_⟩
  obtain ⟨q1, hq, hG⟩ := kbd_some hG
  refine ⟨_, _, cs_X11_passes a0 (F_X11_copies (0) (1) I J).1 (F_X11_copies (0) (1) I J).2 q1 hq, rfl, ?_⟩
  obtain ⟨hq, hG⟩ := kif_some hG
  refine ⟨_, _, ct_X11_copies (1) (0) q1.2.1 q1.2.2 hq, rfl, ?_⟩
  replace hG := Option.some.inj hG
  subst hG
  exact ⟨rfl, rfl⟩
noncomputable def G_X11_isRun  : Nat → Nat → Int32 → Int32 → Int32 → kI → kJ → Option (Int32 × kI × kJ)
  | 0, _, _, _, _, _, _ => none
  | n + 1, pc, v1, v2, v3, I, J => (bif Nat.beq pc 52 then (kif ((2 : Int32) ≤ v3) (kif (v3 = 0) (some ((0 : Int32), I, J)) (kif (v2 = 0) (some ((0 : Int32), I, J)) (kif (v1 = (99 : Int32)) (kif (vp_in ((2 : Int32) * ((kw I 11 0 10 ((I 11 0 10) + v3)) 11 0 12)) 40) (kif (vp_in (((2 : Int32) * ((kw (kw I 11 0 10 ((I 11 0 10) + v3)) 44 0 (((2 : Int32) * ((kw I 11 0 10 ((I 11 0 10) + v3)) 11 0 12))).toNatClampNeg (0 : Int32)) 11 0 12)) + (1 : Int32)) 40) ((G_X11_isRun  n) 181 0 0 0 (kw (kw (kw (kw I 11 0 10 ((I 11 0 10) + v3)) 44 0 (((2 : Int32) * ((kw I 11 0 10 ((I 11 0 10) + v3)) 11 0 12))).toNatClampNeg (0 : Int32)) 44 0 ((((2 : Int32) * ((kw (kw I 11 0 10 ((I 11 0 10) + v3)) 44 0 (((2 : Int32) * ((kw I 11 0 10 ((I 11 0 10) + v3)) 11 0 12))).toNatClampNeg (0 : Int32)) 11 0 12)) + (1 : Int32))).toNatClampNeg v2) 11 0 12 (((kw (kw (kw I 11 0 10 ((I 11 0 10) + v3)) 44 0 (((2 : Int32) * ((kw I 11 0 10 ((I 11 0 10) + v3)) 11 0 12))).toNatClampNeg (0 : Int32)) 44 0 ((((2 : Int32) * ((kw (kw I 11 0 10 ((I 11 0 10) + v3)) 44 0 (((2 : Int32) * ((kw I 11 0 10 ((I 11 0 10) + v3)) 11 0 12))).toNatClampNeg (0 : Int32)) 11 0 12)) + (1 : Int32))).toNatClampNeg v2) 11 0 12) + (1 : Int32))) J) none) none) (kif (v1 = (102 : Int32)) (kif (vp_in ((2 : Int32) * ((kw I 11 0 10 ((I 11 0 10) + v3)) 11 0 12)) 40) (kif (vp_in (((2 : Int32) * ((kw (kw I 11 0 10 ((I 11 0 10) + v3)) 44 0 (((2 : Int32) * ((kw I 11 0 10 ((I 11 0 10) + v3)) 11 0 12))).toNatClampNeg (1 : Int32)) 11 0 12)) + (1 : Int32)) 40) ((G_X11_isRun  n) 181 0 0 0 (kw (kw (kw (kw I 11 0 10 ((I 11 0 10) + v3)) 44 0 (((2 : Int32) * ((kw I 11 0 10 ((I 11 0 10) + v3)) 11 0 12))).toNatClampNeg (1 : Int32)) 44 0 ((((2 : Int32) * ((kw (kw I 11 0 10 ((I 11 0 10) + v3)) 44 0 (((2 : Int32) * ((kw I 11 0 10 ((I 11 0 10) + v3)) 11 0 12))).toNatClampNeg (1 : Int32)) 11 0 12)) + (1 : Int32))).toNatClampNeg v2) 11 0 12 (((kw (kw (kw I 11 0 10 ((I 11 0 10) + v3)) 44 0 (((2 : Int32) * ((kw I 11 0 10 ((I 11 0 10) + v3)) 11 0 12))).toNatClampNeg (1 : Int32)) 44 0 ((((2 : Int32) * ((kw (kw I 11 0 10 ((I 11 0 10) + v3)) 44 0 (((2 : Int32) * ((kw I 11 0 10 ((I 11 0 10) + v3)) 11 0 12))).toNatClampNeg (1 : Int32)) 11 0 12)) + (1 : Int32))).toNatClampNeg v2) 11 0 12) + (1 : Int32))) J) none) none) (kif (vp_in ((2 : Int32) * ((kw I 11 0 10 ((I 11 0 10) + v3)) 11 0 12)) 40) (kif (vp_in (((2 : Int32) * ((kw (kw I 11 0 10 ((I 11 0 10) + v3)) 44 0 (((2 : Int32) * ((kw I 11 0 10 ((I 11 0 10) + v3)) 11 0 12))).toNatClampNeg (2 : Int32)) 11 0 12)) + (1 : Int32)) 40) ((G_X11_isRun  n) 181 0 0 0 (kw (kw (kw (kw I 11 0 10 ((I 11 0 10) + v3)) 44 0 (((2 : Int32) * ((kw I 11 0 10 ((I 11 0 10) + v3)) 11 0 12))).toNatClampNeg (2 : Int32)) 44 0 ((((2 : Int32) * ((kw (kw I 11 0 10 ((I 11 0 10) + v3)) 44 0 (((2 : Int32) * ((kw I 11 0 10 ((I 11 0 10) + v3)) 11 0 12))).toNatClampNeg (2 : Int32)) 11 0 12)) + (1 : Int32))).toNatClampNeg v2) 11 0 12 (((kw (kw (kw I 11 0 10 ((I 11 0 10) + v3)) 44 0 (((2 : Int32) * ((kw I 11 0 10 ((I 11 0 10) + v3)) 11 0 12))).toNatClampNeg (2 : Int32)) 44 0 ((((2 : Int32) * ((kw (kw I 11 0 10 ((I 11 0 10) + v3)) 44 0 (((2 : Int32) * ((kw I 11 0 10 ((I 11 0 10) + v3)) 11 0 12))).toNatClampNeg (2 : Int32)) 11 0 12)) + (1 : Int32))).toNatClampNeg v2) 11 0 12) + (1 : Int32))) J) none) none))))) (kif (pre_X11_byteAt ((I 11 0 10) + v3) I J) (kif ((F_X11_in (Int32.toInt64 (F_X11_byteAt ((I 11 0 10) + v3) I J)) (48 : Int64) (57 : Int64) I J) = 0) (kif (v3 = 0) (some ((0 : Int32), I, J)) (kif (v2 = 0) (some ((0 : Int32), I, J)) (kif (v1 = (99 : Int32)) (kif (vp_in ((2 : Int32) * ((kw I 11 0 10 ((I 11 0 10) + v3)) 11 0 12)) 40) (kif (vp_in (((2 : Int32) * ((kw (kw I 11 0 10 ((I 11 0 10) + v3)) 44 0 (((2 : Int32) * ((kw I 11 0 10 ((I 11 0 10) + v3)) 11 0 12))).toNatClampNeg (0 : Int32)) 11 0 12)) + (1 : Int32)) 40) ((G_X11_isRun  n) 181 0 0 0 (kw (kw (kw (kw I 11 0 10 ((I 11 0 10) + v3)) 44 0 (((2 : Int32) * ((kw I 11 0 10 ((I 11 0 10) + v3)) 11 0 12))).toNatClampNeg (0 : Int32)) 44 0 ((((2 : Int32) * ((kw (kw I 11 0 10 ((I 11 0 10) + v3)) 44 0 (((2 : Int32) * ((kw I 11 0 10 ((I 11 0 10) + v3)) 11 0 12))).toNatClampNeg (0 : Int32)) 11 0 12)) + (1 : Int32))).toNatClampNeg v2) 11 0 12 (((kw (kw (kw I 11 0 10 ((I 11 0 10) + v3)) 44 0 (((2 : Int32) * ((kw I 11 0 10 ((I 11 0 10) + v3)) 11 0 12))).toNatClampNeg (0 : Int32)) 44 0 ((((2 : Int32) * ((kw (kw I 11 0 10 ((I 11 0 10) + v3)) 44 0 (((2 : Int32) * ((kw I 11 0 10 ((I 11 0 10) + v3)) 11 0 12))).toNatClampNeg (0 : Int32)) 11 0 12)) + (1 : Int32))).toNatClampNeg v2) 11 0 12) + (1 : Int32))) J) none) none) (kif (v1 = (102 : Int32)) (kif (vp_in ((2 : Int32) * ((kw I 11 0 10 ((I 11 0 10) + v3)) 11 0 12)) 40) (kif (vp_in (((2 : Int32) * ((kw (kw I 11 0 10 ((I 11 0 10) + v3)) 44 0 (((2 : Int32) * ((kw I 11 0 10 ((I 11 0 10) + v3)) 11 0 12))).toNatClampNeg (1 : Int32)) 11 0 12)) + (1 : Int32)) 40) ((G_X11_isRun  n) 181 0 0 0 (kw (kw (kw (kw I 11 0 10 ((I 11 0 10) + v3)) 44 0 (((2 : Int32) * ((kw I 11 0 10 ((I 11 0 10) + v3)) 11 0 12))).toNatClampNeg (1 : Int32)) 44 0 ((((2 : Int32) * ((kw (kw I 11 0 10 ((I 11 0 10) + v3)) 44 0 (((2 : Int32) * ((kw I 11 0 10 ((I 11 0 10) + v3)) 11 0 12))).toNatClampNeg (1 : Int32)) 11 0 12)) + (1 : Int32))).toNatClampNeg v2) 11 0 12 (((kw (kw (kw I 11 0 10 ((I 11 0 10) + v3)) 44 0 (((2 : Int32) * ((kw I 11 0 10 ((I 11 0 10) + v3)) 11 0 12))).toNatClampNeg (1 : Int32)) 44 0 ((((2 : Int32) * ((kw (kw I 11 0 10 ((I 11 0 10) + v3)) 44 0 (((2 : Int32) * ((kw I 11 0 10 ((I 11 0 10) + v3)) 11 0 12))).toNatClampNeg (1 : Int32)) 11 0 12)) + (1 : Int32))).toNatClampNeg v2) 11 0 12) + (1 : Int32))) J) none) none) (kif (vp_in ((2 : Int32) * ((kw I 11 0 10 ((I 11 0 10) + v3)) 11 0 12)) 40) (kif (vp_in (((2 : Int32) * ((kw (kw I 11 0 10 ((I 11 0 10) + v3)) 44 0 (((2 : Int32) * ((kw I 11 0 10 ((I 11 0 10) + v3)) 11 0 12))).toNatClampNeg (2 : Int32)) 11 0 12)) + (1 : Int32)) 40) ((G_X11_isRun  n) 181 0 0 0 (kw (kw (kw (kw I 11 0 10 ((I 11 0 10) + v3)) 44 0 (((2 : Int32) * ((kw I 11 0 10 ((I 11 0 10) + v3)) 11 0 12))).toNatClampNeg (2 : Int32)) 44 0 ((((2 : Int32) * ((kw (kw I 11 0 10 ((I 11 0 10) + v3)) 44 0 (((2 : Int32) * ((kw I 11 0 10 ((I 11 0 10) + v3)) 11 0 12))).toNatClampNeg (2 : Int32)) 11 0 12)) + (1 : Int32))).toNatClampNeg v2) 11 0 12 (((kw (kw (kw I 11 0 10 ((I 11 0 10) + v3)) 44 0 (((2 : Int32) * ((kw I 11 0 10 ((I 11 0 10) + v3)) 11 0 12))).toNatClampNeg (2 : Int32)) 44 0 ((((2 : Int32) * ((kw (kw I 11 0 10 ((I 11 0 10) + v3)) 44 0 (((2 : Int32) * ((kw I 11 0 10 ((I 11 0 10) + v3)) 11 0 12))).toNatClampNeg (2 : Int32)) 11 0 12)) + (1 : Int32))).toNatClampNeg v2) 11 0 12) + (1 : Int32))) J) none) none))))) (kif (pre_X11_byteAt ((I 11 0 10) + v3) I J) ((G_X11_isRun  n) 52 v1 ((((10 : Int32) * v2) + (F_X11_byteAt ((I 11 0 10) + v3) I J)) - (48 : Int32)) (v3 + (1)) I J) none)) none)) else (bif Nat.beq pc 181 then (some ((1 : Int32), I, J)) else none))
theorem G_X11_isRun_52  (n : Nat) (v1 : Int32) (v2 : Int32) (v3 : Int32) (I : kI) (J : kJ) : G_X11_isRun  (n + 1) 52 v1 v2 v3 I J = (kif ((2 : Int32) ≤ v3) (kif (v3 = 0) (some ((0 : Int32), I, J)) (kif (v2 = 0) (some ((0 : Int32), I, J)) (kif (v1 = (99 : Int32)) (kif (vp_in ((2 : Int32) * ((kw I 11 0 10 ((I 11 0 10) + v3)) 11 0 12)) 40) (kif (vp_in (((2 : Int32) * ((kw (kw I 11 0 10 ((I 11 0 10) + v3)) 44 0 (((2 : Int32) * ((kw I 11 0 10 ((I 11 0 10) + v3)) 11 0 12))).toNatClampNeg (0 : Int32)) 11 0 12)) + (1 : Int32)) 40) ((G_X11_isRun  n) 181 0 0 0 (kw (kw (kw (kw I 11 0 10 ((I 11 0 10) + v3)) 44 0 (((2 : Int32) * ((kw I 11 0 10 ((I 11 0 10) + v3)) 11 0 12))).toNatClampNeg (0 : Int32)) 44 0 ((((2 : Int32) * ((kw (kw I 11 0 10 ((I 11 0 10) + v3)) 44 0 (((2 : Int32) * ((kw I 11 0 10 ((I 11 0 10) + v3)) 11 0 12))).toNatClampNeg (0 : Int32)) 11 0 12)) + (1 : Int32))).toNatClampNeg v2) 11 0 12 (((kw (kw (kw I 11 0 10 ((I 11 0 10) + v3)) 44 0 (((2 : Int32) * ((kw I 11 0 10 ((I 11 0 10) + v3)) 11 0 12))).toNatClampNeg (0 : Int32)) 44 0 ((((2 : Int32) * ((kw (kw I 11 0 10 ((I 11 0 10) + v3)) 44 0 (((2 : Int32) * ((kw I 11 0 10 ((I 11 0 10) + v3)) 11 0 12))).toNatClampNeg (0 : Int32)) 11 0 12)) + (1 : Int32))).toNatClampNeg v2) 11 0 12) + (1 : Int32))) J) none) none) (kif (v1 = (102 : Int32)) (kif (vp_in ((2 : Int32) * ((kw I 11 0 10 ((I 11 0 10) + v3)) 11 0 12)) 40) (kif (vp_in (((2 : Int32) * ((kw (kw I 11 0 10 ((I 11 0 10) + v3)) 44 0 (((2 : Int32) * ((kw I 11 0 10 ((I 11 0 10) + v3)) 11 0 12))).toNatClampNeg (1 : Int32)) 11 0 12)) + (1 : Int32)) 40) ((G_X11_isRun  n) 181 0 0 0 (kw (kw (kw (kw I 11 0 10 ((I 11 0 10) + v3)) 44 0 (((2 : Int32) * ((kw I 11 0 10 ((I 11 0 10) + v3)) 11 0 12))).toNatClampNeg (1 : Int32)) 44 0 ((((2 : Int32) * ((kw (kw I 11 0 10 ((I 11 0 10) + v3)) 44 0 (((2 : Int32) * ((kw I 11 0 10 ((I 11 0 10) + v3)) 11 0 12))).toNatClampNeg (1 : Int32)) 11 0 12)) + (1 : Int32))).toNatClampNeg v2) 11 0 12 (((kw (kw (kw I 11 0 10 ((I 11 0 10) + v3)) 44 0 (((2 : Int32) * ((kw I 11 0 10 ((I 11 0 10) + v3)) 11 0 12))).toNatClampNeg (1 : Int32)) 44 0 ((((2 : Int32) * ((kw (kw I 11 0 10 ((I 11 0 10) + v3)) 44 0 (((2 : Int32) * ((kw I 11 0 10 ((I 11 0 10) + v3)) 11 0 12))).toNatClampNeg (1 : Int32)) 11 0 12)) + (1 : Int32))).toNatClampNeg v2) 11 0 12) + (1 : Int32))) J) none) none) (kif (vp_in ((2 : Int32) * ((kw I 11 0 10 ((I 11 0 10) + v3)) 11 0 12)) 40) (kif (vp_in (((2 : Int32) * ((kw (kw I 11 0 10 ((I 11 0 10) + v3)) 44 0 (((2 : Int32) * ((kw I 11 0 10 ((I 11 0 10) + v3)) 11 0 12))).toNatClampNeg (2 : Int32)) 11 0 12)) + (1 : Int32)) 40) ((G_X11_isRun  n) 181 0 0 0 (kw (kw (kw (kw I 11 0 10 ((I 11 0 10) + v3)) 44 0 (((2 : Int32) * ((kw I 11 0 10 ((I 11 0 10) + v3)) 11 0 12))).toNatClampNeg (2 : Int32)) 44 0 ((((2 : Int32) * ((kw (kw I 11 0 10 ((I 11 0 10) + v3)) 44 0 (((2 : Int32) * ((kw I 11 0 10 ((I 11 0 10) + v3)) 11 0 12))).toNatClampNeg (2 : Int32)) 11 0 12)) + (1 : Int32))).toNatClampNeg v2) 11 0 12 (((kw (kw (kw I 11 0 10 ((I 11 0 10) + v3)) 44 0 (((2 : Int32) * ((kw I 11 0 10 ((I 11 0 10) + v3)) 11 0 12))).toNatClampNeg (2 : Int32)) 44 0 ((((2 : Int32) * ((kw (kw I 11 0 10 ((I 11 0 10) + v3)) 44 0 (((2 : Int32) * ((kw I 11 0 10 ((I 11 0 10) + v3)) 11 0 12))).toNatClampNeg (2 : Int32)) 11 0 12)) + (1 : Int32))).toNatClampNeg v2) 11 0 12) + (1 : Int32))) J) none) none))))) (kif (pre_X11_byteAt ((I 11 0 10) + v3) I J) (kif ((F_X11_in (Int32.toInt64 (F_X11_byteAt ((I 11 0 10) + v3) I J)) (48 : Int64) (57 : Int64) I J) = 0) (kif (v3 = 0) (some ((0 : Int32), I, J)) (kif (v2 = 0) (some ((0 : Int32), I, J)) (kif (v1 = (99 : Int32)) (kif (vp_in ((2 : Int32) * ((kw I 11 0 10 ((I 11 0 10) + v3)) 11 0 12)) 40) (kif (vp_in (((2 : Int32) * ((kw (kw I 11 0 10 ((I 11 0 10) + v3)) 44 0 (((2 : Int32) * ((kw I 11 0 10 ((I 11 0 10) + v3)) 11 0 12))).toNatClampNeg (0 : Int32)) 11 0 12)) + (1 : Int32)) 40) ((G_X11_isRun  n) 181 0 0 0 (kw (kw (kw (kw I 11 0 10 ((I 11 0 10) + v3)) 44 0 (((2 : Int32) * ((kw I 11 0 10 ((I 11 0 10) + v3)) 11 0 12))).toNatClampNeg (0 : Int32)) 44 0 ((((2 : Int32) * ((kw (kw I 11 0 10 ((I 11 0 10) + v3)) 44 0 (((2 : Int32) * ((kw I 11 0 10 ((I 11 0 10) + v3)) 11 0 12))).toNatClampNeg (0 : Int32)) 11 0 12)) + (1 : Int32))).toNatClampNeg v2) 11 0 12 (((kw (kw (kw I 11 0 10 ((I 11 0 10) + v3)) 44 0 (((2 : Int32) * ((kw I 11 0 10 ((I 11 0 10) + v3)) 11 0 12))).toNatClampNeg (0 : Int32)) 44 0 ((((2 : Int32) * ((kw (kw I 11 0 10 ((I 11 0 10) + v3)) 44 0 (((2 : Int32) * ((kw I 11 0 10 ((I 11 0 10) + v3)) 11 0 12))).toNatClampNeg (0 : Int32)) 11 0 12)) + (1 : Int32))).toNatClampNeg v2) 11 0 12) + (1 : Int32))) J) none) none) (kif (v1 = (102 : Int32)) (kif (vp_in ((2 : Int32) * ((kw I 11 0 10 ((I 11 0 10) + v3)) 11 0 12)) 40) (kif (vp_in (((2 : Int32) * ((kw (kw I 11 0 10 ((I 11 0 10) + v3)) 44 0 (((2 : Int32) * ((kw I 11 0 10 ((I 11 0 10) + v3)) 11 0 12))).toNatClampNeg (1 : Int32)) 11 0 12)) + (1 : Int32)) 40) ((G_X11_isRun  n) 181 0 0 0 (kw (kw (kw (kw I 11 0 10 ((I 11 0 10) + v3)) 44 0 (((2 : Int32) * ((kw I 11 0 10 ((I 11 0 10) + v3)) 11 0 12))).toNatClampNeg (1 : Int32)) 44 0 ((((2 : Int32) * ((kw (kw I 11 0 10 ((I 11 0 10) + v3)) 44 0 (((2 : Int32) * ((kw I 11 0 10 ((I 11 0 10) + v3)) 11 0 12))).toNatClampNeg (1 : Int32)) 11 0 12)) + (1 : Int32))).toNatClampNeg v2) 11 0 12 (((kw (kw (kw I 11 0 10 ((I 11 0 10) + v3)) 44 0 (((2 : Int32) * ((kw I 11 0 10 ((I 11 0 10) + v3)) 11 0 12))).toNatClampNeg (1 : Int32)) 44 0 ((((2 : Int32) * ((kw (kw I 11 0 10 ((I 11 0 10) + v3)) 44 0 (((2 : Int32) * ((kw I 11 0 10 ((I 11 0 10) + v3)) 11 0 12))).toNatClampNeg (1 : Int32)) 11 0 12)) + (1 : Int32))).toNatClampNeg v2) 11 0 12) + (1 : Int32))) J) none) none) (kif (vp_in ((2 : Int32) * ((kw I 11 0 10 ((I 11 0 10) + v3)) 11 0 12)) 40) (kif (vp_in (((2 : Int32) * ((kw (kw I 11 0 10 ((I 11 0 10) + v3)) 44 0 (((2 : Int32) * ((kw I 11 0 10 ((I 11 0 10) + v3)) 11 0 12))).toNatClampNeg (2 : Int32)) 11 0 12)) + (1 : Int32)) 40) ((G_X11_isRun  n) 181 0 0 0 (kw (kw (kw (kw I 11 0 10 ((I 11 0 10) + v3)) 44 0 (((2 : Int32) * ((kw I 11 0 10 ((I 11 0 10) + v3)) 11 0 12))).toNatClampNeg (2 : Int32)) 44 0 ((((2 : Int32) * ((kw (kw I 11 0 10 ((I 11 0 10) + v3)) 44 0 (((2 : Int32) * ((kw I 11 0 10 ((I 11 0 10) + v3)) 11 0 12))).toNatClampNeg (2 : Int32)) 11 0 12)) + (1 : Int32))).toNatClampNeg v2) 11 0 12 (((kw (kw (kw I 11 0 10 ((I 11 0 10) + v3)) 44 0 (((2 : Int32) * ((kw I 11 0 10 ((I 11 0 10) + v3)) 11 0 12))).toNatClampNeg (2 : Int32)) 44 0 ((((2 : Int32) * ((kw (kw I 11 0 10 ((I 11 0 10) + v3)) 44 0 (((2 : Int32) * ((kw I 11 0 10 ((I 11 0 10) + v3)) 11 0 12))).toNatClampNeg (2 : Int32)) 11 0 12)) + (1 : Int32))).toNatClampNeg v2) 11 0 12) + (1 : Int32))) J) none) none))))) (kif (pre_X11_byteAt ((I 11 0 10) + v3) I J) ((G_X11_isRun  n) 52 v1 ((((10 : Int32) * v2) + (F_X11_byteAt ((I 11 0 10) + v3) I J)) - (48 : Int32)) (v3 + (1)) I J) none)) none)) := rfl
theorem G_X11_isRun_181  (n : Nat) (v1 : Int32) (v2 : Int32) (v3 : Int32) (I : kI) (J : kJ) : G_X11_isRun  (n + 1) 181 v1 v2 v3 I J = (some ((1 : Int32), I, J)) := rfl
noncomputable def E_X11_isRun  (I : kI) (J : kJ) : Option (Int32 × kI × kJ) := (kif (pre_X11_byteAt (I 11 0 10) I J) (kif ((I 11 0 12) = (20 : Int32)) (some ((0 : Int32), I, J)) (kif ((F_X11_byteAt (I 11 0 10) I J) = (99 : Int32)) ((G_X11_isRun  kfu) 52 (F_X11_byteAt (I 11 0 10) I J) (0 : Int32) (0 : Int32) (kw I 11 0 10 ((I 11 0 10) + (1 : Int32))) J) (kif ((F_X11_byteAt (I 11 0 10) I J) = (102 : Int32)) ((G_X11_isRun  kfu) 52 (F_X11_byteAt (I 11 0 10) I J) (0 : Int32) (0 : Int32) (kw I 11 0 10 ((I 11 0 10) + (1 : Int32))) J) (kif ((F_X11_byteAt (I 11 0 10) I J) = (115 : Int32)) ((G_X11_isRun  kfu) 52 (F_X11_byteAt (I 11 0 10) I J) (0 : Int32) (0 : Int32) (kw I 11 0 10 ((I 11 0 10) + (1 : Int32))) J) (some ((0 : Int32), I, J)))))) none)
set_option maxRecDepth 100000 in
set_option maxHeartbeats 4000000 in
theorem cl_X11_isRun  : ∀ n : Nat, (∀ (v1 : Int32) (v2 : Int32) (v3 : Int32) (I : kI) (J : kJ) (q : Int32 × kI × kJ), G_X11_isRun  n 52 v1 v2 v3 I J = some q → kx_Run tb_X11_isRun (kx_NC, fun r' S'' => r' = some (kx_i q.1) ∧ S'' = (q.2.1, q.2.2, none)) 52 [some (kx_r 11 (0)), some (kx_i v1), some (kx_i v2), some (kx_i v3)] [] (I, J, none)) ∧ (∀ (v1 : Int32) (v2 : Int32) (v3 : Int32) (x0 x1 x2 x3 : Option kx_V) (I : kI) (J : kJ) (q : Int32 × kI × kJ), G_X11_isRun  n 181 v1 v2 v3 I J = some q → kx_Run tb_X11_isRun (kx_NC, fun r' S'' => r' = some (kx_i q.1) ∧ S'' = (q.2.1, q.2.2, none)) 181 [x0, x1, x2, x3] [] (I, J, none)) := by
  intro n
  induction n with
  | zero => refine ⟨?_, ?_⟩ <;> (intros; rename_i h; have h2 : (none : Option _) = some _ := h; cases h2)
  | succ n ih =>
    refine ⟨?_, ?_⟩
    · intro v1 v2 v3  I J q hG
      rw [G_X11_isRun_52] at hG
      refine kx_start [52, 181] 110 ?_
      refine ⟨fun h1 => ?_, fun h1 => ?_⟩
      · replace h1 : (2 : Int32) ≤ v3 := h1
        rw [kif_pos h1] at hG
        refine ⟨fun h2 => ?_, fun h2 => ?_⟩
        · replace h2 : v3 = 0 := h2
          rw [kif_pos h2] at hG
          replace hG := Option.some.inj hG
          subst hG
          exact ⟨(by decide), rfl, rfl⟩
        · replace h2 : ¬ v3 = 0 := h2
          rw [kif_neg h2] at hG
          refine ⟨fun h3 => ?_, fun h3 => ?_⟩
          · replace h3 : ¬ v2 = 0 := h3
            rw [kif_neg h3] at hG
            refine ⟨fun h4 => ?_, fun h4 => ?_⟩
            · replace h4 : ¬ v1 = (99 : Int32) := h4
              rw [kif_neg h4] at hG
              refine ⟨fun h5 => ?_, fun h5 => ?_⟩
              · replace h5 : ¬ v1 = (102 : Int32) := h5
                rw [kif_neg h5] at hG
                obtain ⟨hq, hG⟩ := kif_some hG
                refine ⟨hq, ?_⟩
                obtain ⟨hq, hG⟩ := kif_some hG
                refine ⟨hq, ?_⟩
                exact (ih.2) _ _ _ _ _ _ _ _ _ q hG
              · replace h5 : v1 = (102 : Int32) := h5
                rw [kif_pos h5] at hG
                obtain ⟨hq, hG⟩ := kif_some hG
                refine ⟨hq, ?_⟩
                obtain ⟨hq, hG⟩ := kif_some hG
                refine ⟨hq, ?_⟩
                exact (ih.2) _ _ _ _ _ _ _ _ _ q hG
            · replace h4 : v1 = (99 : Int32) := h4
              rw [kif_pos h4] at hG
              obtain ⟨hq, hG⟩ := kif_some hG
              refine ⟨hq, ?_⟩
              obtain ⟨hq, hG⟩ := kif_some hG
              refine ⟨hq, ?_⟩
              exact (ih.2) _ _ _ _ _ _ _ _ _ q hG
          · replace h3 : v2 = 0 := h3
            rw [kif_pos h3] at hG
            replace hG := Option.some.inj hG
            subst hG
            exact ⟨(by decide), rfl, rfl⟩
      · replace h1 : ¬ (2 : Int32) ≤ v3 := h1
        rw [kif_neg h1] at hG
        obtain ⟨hq, hG⟩ := kif_some hG
        refine ⟨_, _, cs_X11_byteAt ((I 11 0 10) + v3) I J hq, rfl, ?_⟩
        refine ⟨_, _, cs_X11_in (Int32.toInt64 (F_X11_byteAt ((I 11 0 10) + v3) I J)) (48 : Int64) (57 : Int64) I J, rfl, ?_⟩
        refine ⟨fun h6 => ?_, fun h6 => ?_⟩
        · replace h6 : (F_X11_in (Int32.toInt64 (F_X11_byteAt ((I 11 0 10) + v3) I J)) (48 : Int64) (57 : Int64) I J) = 0 := h6
          rw [kif_pos h6] at hG
          refine ⟨fun h7 => ?_, fun h7 => ?_⟩
          · replace h7 : v3 = 0 := h7
            rw [kif_pos h7] at hG
            replace hG := Option.some.inj hG
            subst hG
            exact ⟨(by decide), rfl, rfl⟩
          · replace h7 : ¬ v3 = 0 := h7
            rw [kif_neg h7] at hG
            refine ⟨fun h8 => ?_, fun h8 => ?_⟩
            · replace h8 : ¬ v2 = 0 := h8
              rw [kif_neg h8] at hG
              refine ⟨fun h9 => ?_, fun h9 => ?_⟩
              · replace h9 : ¬ v1 = (99 : Int32) := h9
                rw [kif_neg h9] at hG
                refine ⟨fun h10 => ?_, fun h10 => ?_⟩
                · replace h10 : ¬ v1 = (102 : Int32) := h10
                  rw [kif_neg h10] at hG
                  obtain ⟨hq, hG⟩ := kif_some hG
                  refine ⟨hq, ?_⟩
                  obtain ⟨hq, hG⟩ := kif_some hG
                  refine ⟨hq, ?_⟩
                  exact (ih.2) _ _ _ _ _ _ _ _ _ q hG
                · replace h10 : v1 = (102 : Int32) := h10
                  rw [kif_pos h10] at hG
                  obtain ⟨hq, hG⟩ := kif_some hG
                  refine ⟨hq, ?_⟩
                  obtain ⟨hq, hG⟩ := kif_some hG
                  refine ⟨hq, ?_⟩
                  exact (ih.2) _ _ _ _ _ _ _ _ _ q hG
              · replace h9 : v1 = (99 : Int32) := h9
                rw [kif_pos h9] at hG
                obtain ⟨hq, hG⟩ := kif_some hG
                refine ⟨hq, ?_⟩
                obtain ⟨hq, hG⟩ := kif_some hG
                refine ⟨hq, ?_⟩
                exact (ih.2) _ _ _ _ _ _ _ _ _ q hG
            · replace h8 : v2 = 0 := h8
              rw [kif_pos h8] at hG
              replace hG := Option.some.inj hG
              subst hG
              exact ⟨(by decide), rfl, rfl⟩
        · replace h6 : ¬ (F_X11_in (Int32.toInt64 (F_X11_byteAt ((I 11 0 10) + v3) I J)) (48 : Int64) (57 : Int64) I J) = 0 := h6
          rw [kif_neg h6] at hG
          obtain ⟨hq, hG⟩ := kif_some hG
          refine ⟨_, _, cs_X11_byteAt ((I 11 0 10) + v3) I J hq, rfl, ?_⟩
          exact (ih.1) _ _ _ _ _ q hG
    · intro v1 v2 v3 x0 x1 x2 x3  I J q hG
      rw [G_X11_isRun_181] at hG
      refine kx_start [52, 181] 110 ?_
      replace hG := Option.some.inj hG
      subst hG
      exact ⟨(by decide), rfl, rfl⟩
set_option maxRecDepth 100000 in
set_option maxHeartbeats 4000000 in
theorem cs_X11_isRun  (I : kI) (J : kJ) (q : Int32 × kI × kJ) (hG : E_X11_isRun  I J = some q) : sp_X11_isRun [kx_r 11 0] (I, J, none) (some (kx_i q.1)) (q.2.1, q.2.2, none) := by
  unfold E_X11_isRun at hG
  refine kx_start [52, 181] 110 ?_
  obtain ⟨hq, hG⟩ := kif_some hG
  refine ⟨_, _, cs_X11_byteAt (I 11 0 10) I J hq, rfl, ?_⟩
  refine ⟨fun h1 => ?_, fun h1 => ?_⟩
  · replace h1 : (I 11 0 12) = (20 : Int32) := h1
    rw [kif_pos h1] at hG
    replace hG := Option.some.inj hG
    subst hG
    exact ⟨(by decide), rfl, rfl⟩
  · replace h1 : ¬ (I 11 0 12) = (20 : Int32) := h1
    rw [kif_neg h1] at hG
    refine ⟨fun h2 => ?_, fun h2 => ?_⟩
    · replace h2 : (F_X11_byteAt (I 11 0 10) I J) = (99 : Int32) := h2
      rw [kif_pos h2] at hG
      exact ((cl_X11_isRun  kfu).1) _ _ _ _ _ q hG
    · replace h2 : ¬ (F_X11_byteAt (I 11 0 10) I J) = (99 : Int32) := h2
      rw [kif_neg h2] at hG
      refine ⟨fun h3 => ?_, fun h3 => ?_⟩
      · replace h3 : (F_X11_byteAt (I 11 0 10) I J) = (102 : Int32) := h3
        rw [kif_pos h3] at hG
        exact ((cl_X11_isRun  kfu).1) _ _ _ _ _ q hG
      · replace h3 : ¬ (F_X11_byteAt (I 11 0 10) I J) = (102 : Int32) := h3
        rw [kif_neg h3] at hG
        refine ⟨fun h4 => ?_, fun h4 => ?_⟩
        · replace h4 : (F_X11_byteAt (I 11 0 10) I J) = (115 : Int32) := h4
          rw [kif_pos h4] at hG
          exact ((cl_X11_isRun  kfu).1) _ _ _ _ _ q hG
        · replace h4 : ¬ (F_X11_byteAt (I 11 0 10) I J) = (115 : Int32) := h4
          rw [kif_neg h4] at hG
          replace hG := Option.some.inj hG
          subst hG
          exact ⟨(by decide), rfl, rfl⟩
noncomputable def G_X11_sky  : Nat → Nat → Int32 → Int32 → kI → kJ → Option (Int32 × kI × kJ)
  | 0, _, _, _, _, _ => none
  | n + 1, pc, v1, v2, I, J => (bif Nat.beq pc 15 then (kif (v1 = 0) (kif (v1 = 0) (kif (vp_in (0 : Int32) 5) (kif (vp_in (0 : Int32) 5) (some (((-300 : Int32) - ((kw (kw I 11 0 9 (0 : Int32)) 42 0 ((0 : Int32)).toNatClampNeg (((kw I 11 0 9 (0 : Int32)) 42 0 ((0 : Int32)).toNatClampNeg) + (1 : Int32))) 11 0 10)), (kw (kw I 11 0 9 (0 : Int32)) 42 0 ((0 : Int32)).toNatClampNeg (((kw I 11 0 9 (0 : Int32)) 42 0 ((0 : Int32)).toNatClampNeg) + (1 : Int32))), J)) none) none) (kif (vp_in (12 : Int32) 2509) ((G_X11_sky  n) 112 0 (0 : Int32) (kw (kw I 11 0 9 (0 : Int32)) 41 0 ((12 : Int32)).toNatClampNeg ((kw I 11 0 9 (0 : Int32)) 11 0 12)) J) none)) (kif ((I 11 0 9) ≤ (I 11 0 10)) (kif (v1 = 0) (kif (vp_in (0 : Int32) 5) (kif (vp_in (0 : Int32) 5) (some (((-300 : Int32) - ((kw (kw I 11 0 9 (0 : Int32)) 42 0 ((0 : Int32)).toNatClampNeg (((kw I 11 0 9 (0 : Int32)) 42 0 ((0 : Int32)).toNatClampNeg) + (1 : Int32))) 11 0 10)), (kw (kw I 11 0 9 (0 : Int32)) 42 0 ((0 : Int32)).toNatClampNeg (((kw I 11 0 9 (0 : Int32)) 42 0 ((0 : Int32)).toNatClampNeg) + (1 : Int32))), J)) none) none) (kif (vp_in (12 : Int32) 2509) ((G_X11_sky  n) 112 0 (0 : Int32) (kw (kw I 11 0 9 (0 : Int32)) 41 0 ((12 : Int32)).toNatClampNeg ((kw I 11 0 9 (0 : Int32)) 11 0 12)) J) none)) (kif (pre_X11_byteAt (I 11 0 10) I J) (kif ((F_X11_byteAt (I 11 0 10) I J) = (32 : Int32)) (kif ((1 : Int32) = 0) ((G_X11_sky  n) 15 (1 : Int32) 0 I J) (kbd (E_X11_isRun  (kw I 11 0 10 ((I 11 0 10) + (1 : Int32))) J) (fun q2 => ((G_X11_sky  n) 15 q2.1 0 q2.2.1 q2.2.2)))) (kif ((0 : Int32) = 0) ((G_X11_sky  n) 15 (0 : Int32) 0 I J) (kbd (E_X11_isRun  (kw I 11 0 10 ((I 11 0 10) + (1 : Int32))) J) (fun q1 => ((G_X11_sky  n) 15 q1.1 0 q1.2.1 q1.2.2))))) none))) else (bif Nat.beq pc 112 then (kif (((2 : Int32) * (I 11 0 12)) ≤ v2) (some ((I 11 0 12), I, J)) (kif (vp_in v2 40) (kif (vp_in ((21 : Int32) + v2) 2509) ((G_X11_sky  n) 112 0 (v2 + (1)) (kw I 41 0 (((21 : Int32) + v2)).toNatClampNeg (I 44 0 (v2).toNatClampNeg)) J) none) none)) else none))
theorem G_X11_sky_15  (n : Nat) (v1 : Int32) (v2 : Int32) (I : kI) (J : kJ) : G_X11_sky  (n + 1) 15 v1 v2 I J = (kif (v1 = 0) (kif (v1 = 0) (kif (vp_in (0 : Int32) 5) (kif (vp_in (0 : Int32) 5) (some (((-300 : Int32) - ((kw (kw I 11 0 9 (0 : Int32)) 42 0 ((0 : Int32)).toNatClampNeg (((kw I 11 0 9 (0 : Int32)) 42 0 ((0 : Int32)).toNatClampNeg) + (1 : Int32))) 11 0 10)), (kw (kw I 11 0 9 (0 : Int32)) 42 0 ((0 : Int32)).toNatClampNeg (((kw I 11 0 9 (0 : Int32)) 42 0 ((0 : Int32)).toNatClampNeg) + (1 : Int32))), J)) none) none) (kif (vp_in (12 : Int32) 2509) ((G_X11_sky  n) 112 0 (0 : Int32) (kw (kw I 11 0 9 (0 : Int32)) 41 0 ((12 : Int32)).toNatClampNeg ((kw I 11 0 9 (0 : Int32)) 11 0 12)) J) none)) (kif ((I 11 0 9) ≤ (I 11 0 10)) (kif (v1 = 0) (kif (vp_in (0 : Int32) 5) (kif (vp_in (0 : Int32) 5) (some (((-300 : Int32) - ((kw (kw I 11 0 9 (0 : Int32)) 42 0 ((0 : Int32)).toNatClampNeg (((kw I 11 0 9 (0 : Int32)) 42 0 ((0 : Int32)).toNatClampNeg) + (1 : Int32))) 11 0 10)), (kw (kw I 11 0 9 (0 : Int32)) 42 0 ((0 : Int32)).toNatClampNeg (((kw I 11 0 9 (0 : Int32)) 42 0 ((0 : Int32)).toNatClampNeg) + (1 : Int32))), J)) none) none) (kif (vp_in (12 : Int32) 2509) ((G_X11_sky  n) 112 0 (0 : Int32) (kw (kw I 11 0 9 (0 : Int32)) 41 0 ((12 : Int32)).toNatClampNeg ((kw I 11 0 9 (0 : Int32)) 11 0 12)) J) none)) (kif (pre_X11_byteAt (I 11 0 10) I J) (kif ((F_X11_byteAt (I 11 0 10) I J) = (32 : Int32)) (kif ((1 : Int32) = 0) ((G_X11_sky  n) 15 (1 : Int32) 0 I J) (kbd (E_X11_isRun  (kw I 11 0 10 ((I 11 0 10) + (1 : Int32))) J) (fun q2 => ((G_X11_sky  n) 15 q2.1 0 q2.2.1 q2.2.2)))) (kif ((0 : Int32) = 0) ((G_X11_sky  n) 15 (0 : Int32) 0 I J) (kbd (E_X11_isRun  (kw I 11 0 10 ((I 11 0 10) + (1 : Int32))) J) (fun q1 => ((G_X11_sky  n) 15 q1.1 0 q1.2.1 q1.2.2))))) none))) := rfl
theorem G_X11_sky_112  (n : Nat) (v1 : Int32) (v2 : Int32) (I : kI) (J : kJ) : G_X11_sky  (n + 1) 112 v1 v2 I J = (kif (((2 : Int32) * (I 11 0 12)) ≤ v2) (some ((I 11 0 12), I, J)) (kif (vp_in v2 40) (kif (vp_in ((21 : Int32) + v2) 2509) ((G_X11_sky  n) 112 0 (v2 + (1)) (kw I 41 0 (((21 : Int32) + v2)).toNatClampNeg (I 44 0 (v2).toNatClampNeg)) J) none) none)) := rfl
noncomputable def E_X11_sky  (I : kI) (J : kJ) : Option (Int32 × kI × kJ) := (kbd (E_X11_isRun  (kw (kw I 11 0 10 (0 : Int32)) 11 0 12 (0 : Int32)) J) (fun q1 => ((G_X11_sky  kfu) 15 q1.1 0 q1.2.1 q1.2.2)))
set_option maxRecDepth 100000 in
set_option maxHeartbeats 4000000 in
theorem cl_X11_sky  : ∀ n : Nat, (∀ (v1 : Int32) (v2 : Int32) (x2 : Option kx_V) (I : kI) (J : kJ) (q : Int32 × kI × kJ), G_X11_sky  n 15 v1 v2 I J = some q → kx_Run tb_X11_sky (kx_NC, fun r' S'' => r' = some (kx_i q.1) ∧ S'' = (q.2.1, q.2.2, none)) 15 [some (kx_r 11 (0)), some (kx_i v1), x2] [] (I, J, none)) ∧ (∀ (v1 : Int32) (v2 : Int32) (x1 : Option kx_V) (I : kI) (J : kJ) (q : Int32 × kI × kJ), G_X11_sky  n 112 v1 v2 I J = some q → kx_Run tb_X11_sky (kx_NC, fun r' S'' => r' = some (kx_i q.1) ∧ S'' = (q.2.1, q.2.2, none)) 112 [some (kx_r 11 (0)), x1, some (kx_i v2)] [] (I, J, none)) := by
  intro n
  induction n with
  | zero => refine ⟨?_, ?_⟩ <;> (intros; rename_i h; have h2 : (none : Option _) = some _ := h; cases h2)
  | succ n ih =>
    refine ⟨?_, ?_⟩
    · intro v1 v2 x2  I J q hG
      rw [G_X11_sky_15] at hG
      refine kx_start [15, 112] 88 ?_
      refine ⟨fun h1 => ?_, fun h1 => ?_⟩
      · replace h1 : v1 = 0 := h1
        rw [kif_pos h1] at hG
        refine ⟨fun h2 => ?_, fun h2 => ?_⟩
        · replace h2 : ¬ v1 = 0 := h2
          rw [kif_neg h2] at hG
          obtain ⟨hq, hG⟩ := kif_some hG
          refine ⟨hq, ?_⟩
          exact (ih.2) _ _ _ _ _ q hG
        · replace h2 : v1 = 0 := h2
          rw [kif_pos h2] at hG
          obtain ⟨hq, hG⟩ := kif_some hG
          refine ⟨hq, ?_⟩
          obtain ⟨hq, hG⟩ := kif_some hG
          refine ⟨hq, ?_⟩
          replace hG := Option.some.inj hG
          subst hG
          exact ⟨rfl, rfl⟩
      · replace h1 : ¬ v1 = 0 := h1
        rw [kif_neg h1] at hG
        refine ⟨fun h3 => ?_, fun h3 => ?_⟩
        · replace h3 : (I 11 0 9) ≤ (I 11 0 10) := h3
          rw [kif_pos h3] at hG
          refine ⟨fun h4 => ?_, fun h4 => ?_⟩
          · replace h4 : ¬ v1 = 0 := h4
            rw [kif_neg h4] at hG
            obtain ⟨hq, hG⟩ := kif_some hG
            refine ⟨hq, ?_⟩
            exact (ih.2) _ _ _ _ _ q hG
          · replace h4 : v1 = 0 := h4
            rw [kif_pos h4] at hG
            obtain ⟨hq, hG⟩ := kif_some hG
            refine ⟨hq, ?_⟩
            obtain ⟨hq, hG⟩ := kif_some hG
            refine ⟨hq, ?_⟩
            replace hG := Option.some.inj hG
            subst hG
            exact ⟨rfl, rfl⟩
        · replace h3 : ¬ (I 11 0 9) ≤ (I 11 0 10) := h3
          rw [kif_neg h3] at hG
          obtain ⟨hq, hG⟩ := kif_some hG
          refine ⟨_, _, cs_X11_byteAt (I 11 0 10) I J hq, rfl, ?_⟩
          refine ⟨fun h5 => ?_, fun h5 => ?_⟩
          · replace h5 : ¬ (F_X11_byteAt (I 11 0 10) I J) = (32 : Int32) := h5
            rw [kif_neg h5] at hG
            refine ⟨fun h6 => ?_, fun h6 => ?_⟩
            · replace h6 : (0 : Int32) = 0 := h6
              rw [kif_pos h6] at hG
              exact (ih.1) _ _ _ _ _ q hG
            · replace h6 : ¬ (0 : Int32) = 0 := h6
              rw [kif_neg h6] at hG
              obtain ⟨q1, hq, hG⟩ := kbd_some hG
              refine ⟨_, _, cs_X11_isRun  (kw I 11 0 10 ((I 11 0 10) + (1 : Int32))) J q1 hq, rfl, ?_⟩
              exact (ih.1) _ _ _ _ _ q hG
          · replace h5 : (F_X11_byteAt (I 11 0 10) I J) = (32 : Int32) := h5
            rw [kif_pos h5] at hG
            refine ⟨fun h7 => ?_, fun h7 => ?_⟩
            · replace h7 : (1 : Int32) = 0 := h7
              rw [kif_pos h7] at hG
              exact (ih.1) _ _ _ _ _ q hG
            · replace h7 : ¬ (1 : Int32) = 0 := h7
              rw [kif_neg h7] at hG
              obtain ⟨q2, hq, hG⟩ := kbd_some hG
              refine ⟨_, _, cs_X11_isRun  (kw I 11 0 10 ((I 11 0 10) + (1 : Int32))) J q2 hq, rfl, ?_⟩
              exact (ih.1) _ _ _ _ _ q hG
    · intro v1 v2 x1  I J q hG
      rw [G_X11_sky_112] at hG
      refine kx_start [15, 112] 88 ?_
      refine ⟨fun h8 => ?_, fun h8 => ?_⟩
      · replace h8 : ((2 : Int32) * (I 11 0 12)) ≤ v2 := h8
        rw [kif_pos h8] at hG
        replace hG := Option.some.inj hG
        subst hG
        exact ⟨rfl, rfl⟩
      · replace h8 : ¬ ((2 : Int32) * (I 11 0 12)) ≤ v2 := h8
        rw [kif_neg h8] at hG
        obtain ⟨hq, hG⟩ := kif_some hG
        refine ⟨hq, ?_⟩
        obtain ⟨hq, hG⟩ := kif_some hG
        refine ⟨hq, ?_⟩
        exact (ih.2) _ _ _ _ _ q hG
set_option maxRecDepth 100000 in
set_option maxHeartbeats 4000000 in
theorem cs_X11_sky  (I : kI) (J : kJ) (q : Int32 × kI × kJ) (hG : E_X11_sky  I J = some q) : sp_X11_sky [kx_r 11 0] (I, J, none) (some (kx_i q.1)) (q.2.1, q.2.2, none) := by
  unfold E_X11_sky at hG
  refine kx_start [15, 112] 88 ?_
  obtain ⟨q1, hq, hG⟩ := kbd_some hG
  refine ⟨_, _, cs_X11_isRun  (kw (kw I 11 0 10 (0 : Int32)) 11 0 12 (0 : Int32)) J q1 hq, rfl, ?_⟩
  exact ((cl_X11_sky  kfu).1) _ _ _ _ _ q hG
noncomputable def G_X11_isPlan (a0 : Int32) : Nat → Nat → Int32 → kI → kJ → Option (Int32)
  | 0, _, _, _, _ => none
  | n + 1, pc, v2, I, J => (bif Nat.beq pc 27 then (kif ((24 : Int32) ≤ v2) (some (0 : Int32)) (kif (vp_in a0 8) (kif ((I 50 0 (a0).toNatClampNeg) < (24 : Int32)) (some (-102 : Int32)) (kif (vp_in (((40 : Int32) * a0) + v2) 320) (kif (vp_in (13 : Int32) 2509) (kif ((F_X11_in (J 51 0 ((((40 : Int32) * a0) + v2)).toNatClampNeg) (-1 : Int64) (Int32.toInt64 ((I 41 0 ((13 : Int32)).toNatClampNeg) - (1 : Int32))) I J) = 0) (some (-102 : Int32)) ((G_X11_isPlan a0 n) 27 (v2 + (1)) I J)) none) none)) none)) else none)
theorem G_X11_isPlan_27 (a0 : Int32) (n : Nat) (v2 : Int32) (I : kI) (J : kJ) : G_X11_isPlan a0 (n + 1) 27 v2 I J = (kif ((24 : Int32) ≤ v2) (some (0 : Int32)) (kif (vp_in a0 8) (kif ((I 50 0 (a0).toNatClampNeg) < (24 : Int32)) (some (-102 : Int32)) (kif (vp_in (((40 : Int32) * a0) + v2) 320) (kif (vp_in (13 : Int32) 2509) (kif ((F_X11_in (J 51 0 ((((40 : Int32) * a0) + v2)).toNatClampNeg) (-1 : Int64) (Int32.toInt64 ((I 41 0 ((13 : Int32)).toNatClampNeg) - (1 : Int32))) I J) = 0) (some (-102 : Int32)) ((G_X11_isPlan a0 n) 27 (v2 + (1)) I J)) none) none)) none)) := rfl
noncomputable def E_X11_isPlan (a0 : Int32) (I : kI) (J : kJ) : Option (Int32) := (kif (vp_in a0 8) (kif ((I 49 0 (a0).toNatClampNeg) ≤ (4 : Int32)) (kif (vp_in a0 8) (kif (0 ≤ (I 49 0 (a0).toNatClampNeg)) ((G_X11_isPlan a0 kfu) 27 (0 : Int32) I J) (some (-104 : Int32))) none) (some (-103 : Int32))) none)
set_option maxRecDepth 100000 in
set_option maxHeartbeats 4000000 in
theorem cl_X11_isPlan (a0 : Int32) (I0 : kI) (J0 : kJ) : ∀ n : Nat, (∀ (v2 : Int32) (I : kI) (J : kJ) (q : Int32), I = I0 → J = J0 → G_X11_isPlan a0 n 27 v2 I J = some q → kx_Run tb_X11_isPlan (kx_NC, fun r' S'' => r' = some (kx_i q) ∧ S'' = (I0, J0, none)) 27 [some (kx_r 11 (0)), some (kx_i a0), some (kx_i v2)] [] (I, J, none)) := by
  intro n
  induction n with
  | zero => (intros; rename_i h; have h2 : (none : Option _) = some _ := h; cases h2)
  | succ n ih =>
    intro v2  I J q hI0 hJ0 hG
    subst hI0 hJ0
    rw [G_X11_isPlan_27] at hG
    refine kx_start [27] 53 ?_
    refine ⟨fun h1 => ?_, fun h1 => ?_⟩
    · replace h1 : (24 : Int32) ≤ v2 := h1
      rw [kif_pos h1] at hG
      replace hG := Option.some.inj hG
      subst hG
      exact ⟨rfl, rfl⟩
    · replace h1 : ¬ (24 : Int32) ≤ v2 := h1
      rw [kif_neg h1] at hG
      obtain ⟨hq, hG⟩ := kif_some hG
      refine ⟨hq, ?_⟩
      refine ⟨fun h2 => ?_, fun h2 => ?_⟩
      · replace h2 : (I 50 0 (a0).toNatClampNeg) < (24 : Int32) := h2
        rw [kif_pos h2] at hG
        replace hG := Option.some.inj hG
        subst hG
        exact ⟨rfl, rfl⟩
      · replace h2 : ¬ (I 50 0 (a0).toNatClampNeg) < (24 : Int32) := h2
        rw [kif_neg h2] at hG
        obtain ⟨hq, hG⟩ := kif_some hG
        refine ⟨hq, ?_⟩
        obtain ⟨hq, hG⟩ := kif_some hG
        refine ⟨hq, ?_⟩
        refine ⟨_, _, cs_X11_in (J 51 0 ((((40 : Int32) * a0) + v2)).toNatClampNeg) (-1 : Int64) (Int32.toInt64 ((I 41 0 ((13 : Int32)).toNatClampNeg) - (1 : Int32))) I J, rfl, ?_⟩
        refine ⟨fun h3 => ?_, fun h3 => ?_⟩
        · replace h3 : ¬ (F_X11_in (J 51 0 ((((40 : Int32) * a0) + v2)).toNatClampNeg) (-1 : Int64) (Int32.toInt64 ((I 41 0 ((13 : Int32)).toNatClampNeg) - (1 : Int32))) I J) = 0 := h3
          rw [kif_neg h3] at hG
          exact (ih) _ _ _ q rfl rfl hG
        · replace h3 : (F_X11_in (J 51 0 ((((40 : Int32) * a0) + v2)).toNatClampNeg) (-1 : Int64) (Int32.toInt64 ((I 41 0 ((13 : Int32)).toNatClampNeg) - (1 : Int32))) I J) = 0 := h3
          rw [kif_pos h3] at hG
          replace hG := Option.some.inj hG
          subst hG
          exact ⟨rfl, rfl⟩
set_option maxRecDepth 100000 in
set_option maxHeartbeats 4000000 in
theorem cs_X11_isPlan (a0 : Int32) (I : kI) (J : kJ) (q : Int32) (hG : E_X11_isPlan a0 I J = some q) : sp_X11_isPlan [kx_r 11 0, kx_i a0] (I, J, none) (some (kx_i q)) (I, J, none) := by
  unfold E_X11_isPlan at hG
  refine kx_start [27] 53 ?_
  obtain ⟨hq, hG⟩ := kif_some hG
  refine ⟨hq, ?_⟩
  refine ⟨fun h1 => ?_, fun h1 => ?_⟩
  · replace h1 : (I 49 0 (a0).toNatClampNeg) ≤ (4 : Int32) := h1
    rw [kif_pos h1] at hG
    obtain ⟨hq, hG⟩ := kif_some hG
    refine ⟨hq, ?_⟩
    refine ⟨fun h2 => ?_, fun h2 => ?_⟩
    · replace h2 : 0 ≤ (I 49 0 (a0).toNatClampNeg) := h2
      rw [kif_pos h2] at hG
      exact ((cl_X11_isPlan a0 I J kfu)) _ _ _ q rfl rfl hG
    · replace h2 : ¬ 0 ≤ (I 49 0 (a0).toNatClampNeg) := h2
      rw [kif_neg h2] at hG
      replace hG := Option.some.inj hG
      subst hG
      exact ⟨rfl, rfl⟩
  · replace h1 : ¬ (I 49 0 (a0).toNatClampNeg) ≤ (4 : Int32) := h1
    rw [kif_neg h1] at hG
    replace hG := Option.some.inj hG
    subst hG
    exact ⟨rfl, rfl⟩
noncomputable def G_X11_takesPlan (a0 : Int32) : Nat → Nat → Int32 → kI → kJ → Option (kI × kJ)
  | 0, _, _, _, _ => none
  | n + 1, pc, v2, I, J => (bif Nat.beq pc 2 then (kif ((24 : Int32) ≤ v2) (some (I, J)) (kif (vp_in (((40 : Int32) * a0) + v2) 320) (kif (vp_in ((85 : Int32) + v2) 2509) ((G_X11_takesPlan a0 n) 2 (v2 + (1)) (kw I 41 0 (((85 : Int32) + v2)).toNatClampNeg (Int64.toInt32 (J 51 0 ((((40 : Int32) * a0) + v2)).toNatClampNeg))) J) none) none)) else none)
theorem G_X11_takesPlan_2 (a0 : Int32) (n : Nat) (v2 : Int32) (I : kI) (J : kJ) : G_X11_takesPlan a0 (n + 1) 2 v2 I J = (kif ((24 : Int32) ≤ v2) (some (I, J)) (kif (vp_in (((40 : Int32) * a0) + v2) 320) (kif (vp_in ((85 : Int32) + v2) 2509) ((G_X11_takesPlan a0 n) 2 (v2 + (1)) (kw I 41 0 (((85 : Int32) + v2)).toNatClampNeg (Int64.toInt32 (J 51 0 ((((40 : Int32) * a0) + v2)).toNatClampNeg))) J) none) none)) := rfl
noncomputable def E_X11_takesPlan (a0 : Int32) (I : kI) (J : kJ) : Option (kI × kJ) := ((G_X11_takesPlan a0 kfu) 2 (0 : Int32) I J)
set_option maxRecDepth 100000 in
set_option maxHeartbeats 4000000 in
theorem cl_X11_takesPlan (a0 : Int32) : ∀ n : Nat, (∀ (v2 : Int32) (I : kI) (J : kJ) (q : kI × kJ), G_X11_takesPlan a0 n 2 v2 I J = some q → kx_Run tb_X11_takesPlan (kx_NC, fun r' S'' => r' = none ∧ S'' = (q.1, q.2, none)) 2 [some (kx_r 11 (0)), some (kx_i a0), some (kx_i v2)] [] (I, J, none)) := by
  intro n
  induction n with
  | zero => (intros; rename_i h; have h2 : (none : Option _) = some _ := h; cases h2)
  | succ n ih =>
    intro v2  I J q hG
    rw [G_X11_takesPlan_2] at hG
    refine kx_start [2] 26 ?_
    refine ⟨fun h1 => ?_, fun h1 => ?_⟩
    · replace h1 : (24 : Int32) ≤ v2 := h1
      rw [kif_pos h1] at hG
      replace hG := Option.some.inj hG
      subst hG
      exact ⟨rfl, rfl⟩
    · replace h1 : ¬ (24 : Int32) ≤ v2 := h1
      rw [kif_neg h1] at hG
      obtain ⟨hq, hG⟩ := kif_some hG
      refine ⟨hq, ?_⟩
      obtain ⟨hq, hG⟩ := kif_some hG
      refine ⟨hq, ?_⟩
      exact (ih) _ _ _ q hG
set_option maxRecDepth 100000 in
set_option maxHeartbeats 4000000 in
theorem cs_X11_takesPlan (a0 : Int32) (I : kI) (J : kJ) (q : kI × kJ) (hG : E_X11_takesPlan a0 I J = some q) : sp_X11_takesPlan [kx_r 11 0, kx_i a0] (I, J, none) (none) (q.1, q.2, none) := by
  unfold E_X11_takesPlan at hG
  refine kx_start [2] 26 ?_
  exact ((cl_X11_takesPlan a0 kfu)) _ _ _ q hG
noncomputable def E_X11_plans (a0 : Int32) (I : kI) (J : kJ) : Option (Int32 × kI × kJ) := (kif (pre_X11_isShelf a0 I J) (kif ((F_X11_isShelf a0 I J) = 0) (kif (0 ≤ (-102 : Int32)) (kbd (E_X11_takesPlan a0 I J) (fun q1 => (some ((1 : Int32), q1.1, q1.2)))) (kif (pre_X11_refused (-102 : Int32) I J) (some ((F_X11_refused (-102 : Int32) I J).1, (F_X11_refused (-102 : Int32) I J).2.1, (F_X11_refused (-102 : Int32) I J).2.2)) none)) (kbd (E_X11_isPlan a0 I J) (fun q2 => (kif (0 ≤ q2) (kbd (E_X11_takesPlan a0 I J) (fun q3 => (some ((1 : Int32), q3.1, q3.2)))) (kif (pre_X11_refused q2 I J) (some ((F_X11_refused q2 I J).1, (F_X11_refused q2 I J).2.1, (F_X11_refused q2 I J).2.2)) none))))) none)
set_option maxRecDepth 100000 in
set_option maxHeartbeats 4000000 in
theorem cs_X11_plans (a0 : Int32) (I : kI) (J : kJ) (q : Int32 × kI × kJ) (hG : E_X11_plans a0 I J = some q) : sp_X11_plans [kx_r 11 0, kx_i a0] (I, J, none) (some (kx_i q.1)) (q.2.1, q.2.2, none) := by
  unfold E_X11_plans at hG
  refine kx_start [] 23 ?_
  obtain ⟨hq, hG⟩ := kif_some hG
  refine ⟨_, _, cs_X11_isShelf a0 I J hq, rfl, ?_⟩
  refine ⟨fun h1 => ?_, fun h1 => ?_⟩
  · replace h1 : (F_X11_isShelf a0 I J) = 0 := h1
    rw [kif_pos h1] at hG
    refine ⟨fun h2 => ?_, fun h2 => ?_⟩
    · replace h2 : 0 ≤ (-102 : Int32) := h2
      rw [kif_pos h2] at hG
      obtain ⟨q1, hq, hG⟩ := kbd_some hG
      refine ⟨_, _, cs_X11_takesPlan a0 I J q1 hq, rfl, ?_⟩
      replace hG := Option.some.inj hG
      subst hG
      exact ⟨rfl, rfl⟩
    · replace h2 : ¬ 0 ≤ (-102 : Int32) := h2
      rw [kif_neg h2] at hG
      obtain ⟨hq, hG⟩ := kif_some hG
      refine ⟨_, _, cs_X11_refused (-102 : Int32) I J hq, rfl, ?_⟩
      replace hG := Option.some.inj hG
      subst hG
      exact ⟨rfl, rfl⟩
  · replace h1 : ¬ (F_X11_isShelf a0 I J) = 0 := h1
    rw [kif_neg h1] at hG
    obtain ⟨q2, hq, hG⟩ := kbd_some hG
    refine ⟨_, _, cs_X11_isPlan a0 I J q2 hq, rfl, ?_⟩
    refine ⟨fun h3 => ?_, fun h3 => ?_⟩
    · replace h3 : 0 ≤ q2 := h3
      rw [kif_pos h3] at hG
      obtain ⟨q3, hq, hG⟩ := kbd_some hG
      refine ⟨_, _, cs_X11_takesPlan a0 I J q3 hq, rfl, ?_⟩
      replace hG := Option.some.inj hG
      subst hG
      exact ⟨rfl, rfl⟩
    · replace h3 : ¬ 0 ≤ q2 := h3
      rw [kif_neg h3] at hG
      obtain ⟨hq, hG⟩ := kif_some hG
      refine ⟨_, _, cs_X11_refused q2 I J hq, rfl, ?_⟩
      replace hG := Option.some.inj hG
      subst hG
      exact ⟨rfl, rfl⟩
noncomputable def G_X11_tell (a0 : Int32) (a1 : Int32) : Nat → Nat → Int32 → kI → kJ → Option (Int32 × kI × kJ)
  | 0, _, _, _, _ => none
  | n + 1, pc, s0, I, J => (bif Nat.beq pc 16 then (kif (a0 = (1 : Int32)) (kif ((F_X11_in (Int32.toInt64 a1) (13 : Int64) (24 : Int64) I J) = 0) ((G_X11_tell a0 a1 n) 35 0 I J) ((G_X11_tell a0 a1 n) 78 0 I J)) ((G_X11_tell a0 a1 n) 35 0 I J)) else (bif Nat.beq pc 35 then (kif (a0 = (2 : Int32)) (kif ((F_X11_in (Int32.toInt64 a1) (1 : Int64) (4 : Int64) I J) = 0) ((G_X11_tell a0 a1 n) 52 0 I J) ((G_X11_tell a0 a1 n) 78 0 I J)) ((G_X11_tell a0 a1 n) 52 0 I J)) else (bif Nat.beq pc 52 then (kif ((F_X11_in (Int32.toInt64 a0) (3 : Int64) (4 : Int64) I J) = 0) ((G_X11_tell a0 a1 n) 82 0 I J) (kif ((F_X11_in (Int32.toInt64 a1) (0 : Int64) (9999 : Int64) I J) = 0) ((G_X11_tell a0 a1 n) 82 0 I J) ((G_X11_tell a0 a1 n) 78 0 I J))) else (bif Nat.beq pc 78 then ((G_X11_tell a0 a1 n) 83 (1 : Int32) I J) else (bif Nat.beq pc 82 then ((G_X11_tell a0 a1 n) 83 (0 : Int32) I J) else (bif Nat.beq pc 83 then (kif (s0 = 0) (kif (pre_X11_refused (-102 : Int32) I J) (some ((F_X11_refused (-102 : Int32) I J).1, (F_X11_refused (-102 : Int32) I J).2.1, (F_X11_refused (-102 : Int32) I J).2.2)) none) (kif (vp_in ((1 : Int32) + a0) 2509) (kif (vp_in ((1 : Int32) + a0) 2509) (some ((I 41 0 (((1 : Int32) + a0)).toNatClampNeg), (kw I 41 0 (((1 : Int32) + a0)).toNatClampNeg a1), J)) none) none)) else none))))))
theorem G_X11_tell_16 (a0 : Int32) (a1 : Int32) (n : Nat) (s0 : Int32) (I : kI) (J : kJ) : G_X11_tell a0 a1 (n + 1) 16 s0 I J = (kif (a0 = (1 : Int32)) (kif ((F_X11_in (Int32.toInt64 a1) (13 : Int64) (24 : Int64) I J) = 0) ((G_X11_tell a0 a1 n) 35 0 I J) ((G_X11_tell a0 a1 n) 78 0 I J)) ((G_X11_tell a0 a1 n) 35 0 I J)) := rfl
theorem G_X11_tell_35 (a0 : Int32) (a1 : Int32) (n : Nat) (s0 : Int32) (I : kI) (J : kJ) : G_X11_tell a0 a1 (n + 1) 35 s0 I J = (kif (a0 = (2 : Int32)) (kif ((F_X11_in (Int32.toInt64 a1) (1 : Int64) (4 : Int64) I J) = 0) ((G_X11_tell a0 a1 n) 52 0 I J) ((G_X11_tell a0 a1 n) 78 0 I J)) ((G_X11_tell a0 a1 n) 52 0 I J)) := rfl
theorem G_X11_tell_52 (a0 : Int32) (a1 : Int32) (n : Nat) (s0 : Int32) (I : kI) (J : kJ) : G_X11_tell a0 a1 (n + 1) 52 s0 I J = (kif ((F_X11_in (Int32.toInt64 a0) (3 : Int64) (4 : Int64) I J) = 0) ((G_X11_tell a0 a1 n) 82 0 I J) (kif ((F_X11_in (Int32.toInt64 a1) (0 : Int64) (9999 : Int64) I J) = 0) ((G_X11_tell a0 a1 n) 82 0 I J) ((G_X11_tell a0 a1 n) 78 0 I J))) := rfl
theorem G_X11_tell_78 (a0 : Int32) (a1 : Int32) (n : Nat) (s0 : Int32) (I : kI) (J : kJ) : G_X11_tell a0 a1 (n + 1) 78 s0 I J = ((G_X11_tell a0 a1 n) 83 (1 : Int32) I J) := rfl
theorem G_X11_tell_82 (a0 : Int32) (a1 : Int32) (n : Nat) (s0 : Int32) (I : kI) (J : kJ) : G_X11_tell a0 a1 (n + 1) 82 s0 I J = ((G_X11_tell a0 a1 n) 83 (0 : Int32) I J) := rfl
theorem G_X11_tell_83 (a0 : Int32) (a1 : Int32) (n : Nat) (s0 : Int32) (I : kI) (J : kJ) : G_X11_tell a0 a1 (n + 1) 83 s0 I J = (kif (s0 = 0) (kif (pre_X11_refused (-102 : Int32) I J) (some ((F_X11_refused (-102 : Int32) I J).1, (F_X11_refused (-102 : Int32) I J).2.1, (F_X11_refused (-102 : Int32) I J).2.2)) none) (kif (vp_in ((1 : Int32) + a0) 2509) (kif (vp_in ((1 : Int32) + a0) 2509) (some ((I 41 0 (((1 : Int32) + a0)).toNatClampNeg), (kw I 41 0 (((1 : Int32) + a0)).toNatClampNeg a1), J)) none) none)) := rfl
noncomputable def E_X11_tell (a0 : Int32) (a1 : Int32) (I : kI) (J : kJ) : Option (Int32 × kI × kJ) := (kif (a0 = 0) (kif ((F_X11_in (Int32.toInt64 a1) (0 : Int64) (12 : Int64) I J) = 0) ((G_X11_tell a0 a1 kfu) 16 0 I J) ((G_X11_tell a0 a1 kfu) 78 0 I J)) ((G_X11_tell a0 a1 kfu) 16 0 I J))
set_option maxRecDepth 100000 in
set_option maxHeartbeats 4000000 in
theorem cl_X11_tell (a0 : Int32) (a1 : Int32) : ∀ n : Nat, (∀ (s0 : Int32) (x3 x4 : Option kx_V) (I : kI) (J : kJ) (q : Int32 × kI × kJ), G_X11_tell a0 a1 n 16 s0 I J = some q → kx_Run tb_X11_tell (kx_NC, fun r' S'' => r' = some (kx_i q.1) ∧ S'' = (q.2.1, q.2.2, none)) 16 [some (kx_r 11 (0)), some (kx_i a0), some (kx_i a1), x3, x4] [] (I, J, none)) ∧ (∀ (s0 : Int32) (x3 x4 : Option kx_V) (I : kI) (J : kJ) (q : Int32 × kI × kJ), G_X11_tell a0 a1 n 35 s0 I J = some q → kx_Run tb_X11_tell (kx_NC, fun r' S'' => r' = some (kx_i q.1) ∧ S'' = (q.2.1, q.2.2, none)) 35 [some (kx_r 11 (0)), some (kx_i a0), some (kx_i a1), x3, x4] [] (I, J, none)) ∧ (∀ (s0 : Int32) (x3 x4 : Option kx_V) (I : kI) (J : kJ) (q : Int32 × kI × kJ), G_X11_tell a0 a1 n 52 s0 I J = some q → kx_Run tb_X11_tell (kx_NC, fun r' S'' => r' = some (kx_i q.1) ∧ S'' = (q.2.1, q.2.2, none)) 52 [some (kx_r 11 (0)), some (kx_i a0), some (kx_i a1), x3, x4] [] (I, J, none)) ∧ (∀ (s0 : Int32) (x3 x4 : Option kx_V) (I : kI) (J : kJ) (q : Int32 × kI × kJ), G_X11_tell a0 a1 n 78 s0 I J = some q → kx_Run tb_X11_tell (kx_NC, fun r' S'' => r' = some (kx_i q.1) ∧ S'' = (q.2.1, q.2.2, none)) 78 [some (kx_r 11 (0)), some (kx_i a0), some (kx_i a1), x3, x4] [] (I, J, none)) ∧ (∀ (s0 : Int32) (x3 x4 : Option kx_V) (I : kI) (J : kJ) (q : Int32 × kI × kJ), G_X11_tell a0 a1 n 82 s0 I J = some q → kx_Run tb_X11_tell (kx_NC, fun r' S'' => r' = some (kx_i q.1) ∧ S'' = (q.2.1, q.2.2, none)) 82 [some (kx_r 11 (0)), some (kx_i a0), some (kx_i a1), x3, x4] [] (I, J, none)) ∧ (∀ (s0 : Int32) (x3 x4 : Option kx_V) (I : kI) (J : kJ) (q : Int32 × kI × kJ), G_X11_tell a0 a1 n 83 s0 I J = some q → kx_Run tb_X11_tell (kx_NC, fun r' S'' => r' = some (kx_i q.1) ∧ S'' = (q.2.1, q.2.2, none)) 83 [some (kx_r 11 (0)), some (kx_i a0), some (kx_i a1), x3, x4] [kx_i s0] (I, J, none)) := by
  intro n
  induction n with
  | zero => refine ⟨?_, ?_, ?_, ?_, ?_, ?_⟩ <;> (intros; rename_i h; have h2 : (none : Option _) = some _ := h; cases h2)
  | succ n ih =>
    refine ⟨?_, ?_, ?_, ?_, ?_, ?_⟩
    · intro s0 x3 x4  I J q hG
      rw [G_X11_tell_16] at hG
      refine kx_start [16, 35, 52, 78, 82, 83] 67 ?_
      refine ⟨fun h1 => ?_, fun h1 => ?_⟩
      · replace h1 : ¬ a0 = (1 : Int32) := h1
        rw [kif_neg h1] at hG
        exact (ih.2.1) _ _ _ _ _ q hG
      · replace h1 : a0 = (1 : Int32) := h1
        rw [kif_pos h1] at hG
        refine ⟨_, _, cs_X11_in (Int32.toInt64 a1) (13 : Int64) (24 : Int64) I J, rfl, ?_⟩
        refine ⟨fun h2 => ?_, fun h2 => ?_⟩
        · replace h2 : ¬ (F_X11_in (Int32.toInt64 a1) (13 : Int64) (24 : Int64) I J) = 0 := h2
          rw [kif_neg h2] at hG
          exact (ih.2.2.2.1) _ _ _ _ _ q hG
        · replace h2 : (F_X11_in (Int32.toInt64 a1) (13 : Int64) (24 : Int64) I J) = 0 := h2
          rw [kif_pos h2] at hG
          exact (ih.2.1) _ _ _ _ _ q hG
    · intro s0 x3 x4  I J q hG
      rw [G_X11_tell_35] at hG
      refine kx_start [16, 35, 52, 78, 82, 83] 67 ?_
      refine ⟨fun h3 => ?_, fun h3 => ?_⟩
      · replace h3 : ¬ a0 = (2 : Int32) := h3
        rw [kif_neg h3] at hG
        exact (ih.2.2.1) _ _ _ _ _ q hG
      · replace h3 : a0 = (2 : Int32) := h3
        rw [kif_pos h3] at hG
        refine ⟨_, _, cs_X11_in (Int32.toInt64 a1) (1 : Int64) (4 : Int64) I J, rfl, ?_⟩
        refine ⟨fun h4 => ?_, fun h4 => ?_⟩
        · replace h4 : ¬ (F_X11_in (Int32.toInt64 a1) (1 : Int64) (4 : Int64) I J) = 0 := h4
          rw [kif_neg h4] at hG
          exact (ih.2.2.2.1) _ _ _ _ _ q hG
        · replace h4 : (F_X11_in (Int32.toInt64 a1) (1 : Int64) (4 : Int64) I J) = 0 := h4
          rw [kif_pos h4] at hG
          exact (ih.2.2.1) _ _ _ _ _ q hG
    · intro s0 x3 x4  I J q hG
      rw [G_X11_tell_52] at hG
      refine kx_start [16, 35, 52, 78, 82, 83] 67 ?_
      refine ⟨_, _, cs_X11_in (Int32.toInt64 a0) (3 : Int64) (4 : Int64) I J, rfl, ?_⟩
      refine ⟨fun h5 => ?_, fun h5 => ?_⟩
      · replace h5 : (F_X11_in (Int32.toInt64 a0) (3 : Int64) (4 : Int64) I J) = 0 := h5
        rw [kif_pos h5] at hG
        exact (ih.2.2.2.2.1) _ _ _ _ _ q hG
      · replace h5 : ¬ (F_X11_in (Int32.toInt64 a0) (3 : Int64) (4 : Int64) I J) = 0 := h5
        rw [kif_neg h5] at hG
        refine ⟨_, _, cs_X11_in (Int32.toInt64 a1) (0 : Int64) (9999 : Int64) I J, rfl, ?_⟩
        refine ⟨fun h6 => ?_, fun h6 => ?_⟩
        · replace h6 : (F_X11_in (Int32.toInt64 a1) (0 : Int64) (9999 : Int64) I J) = 0 := h6
          rw [kif_pos h6] at hG
          exact (ih.2.2.2.2.1) _ _ _ _ _ q hG
        · replace h6 : ¬ (F_X11_in (Int32.toInt64 a1) (0 : Int64) (9999 : Int64) I J) = 0 := h6
          rw [kif_neg h6] at hG
          exact (ih.2.2.2.1) _ _ _ _ _ q hG
    · intro s0 x3 x4  I J q hG
      rw [G_X11_tell_78] at hG
      refine kx_start [16, 35, 52, 78, 82, 83] 67 ?_
      exact (ih.2.2.2.2.2) _ _ _ _ _ q hG
    · intro s0 x3 x4  I J q hG
      rw [G_X11_tell_82] at hG
      refine kx_start [16, 35, 52, 78, 82, 83] 67 ?_
      exact (ih.2.2.2.2.2) _ _ _ _ _ q hG
    · intro s0 x3 x4  I J q hG
      rw [G_X11_tell_83] at hG
      refine kx_start [16, 35, 52, 78, 82, 83] 67 ?_
      refine ⟨fun h7 => ?_, fun h7 => ?_⟩
      · replace h7 : ¬ s0 = 0 := h7
        rw [kif_neg h7] at hG
        obtain ⟨hq, hG⟩ := kif_some hG
        refine ⟨hq, ?_⟩
        obtain ⟨hq, hG⟩ := kif_some hG
        refine ⟨hq, ?_⟩
        replace hG := Option.some.inj hG
        subst hG
        exact ⟨rfl, rfl⟩
      · replace h7 : s0 = 0 := h7
        rw [kif_pos h7] at hG
        obtain ⟨hq, hG⟩ := kif_some hG
        refine ⟨_, _, cs_X11_refused (-102 : Int32) I J hq, rfl, ?_⟩
        replace hG := Option.some.inj hG
        subst hG
        exact ⟨rfl, rfl⟩
set_option maxRecDepth 100000 in
set_option maxHeartbeats 4000000 in
theorem cs_X11_tell (a0 : Int32) (a1 : Int32) (I : kI) (J : kJ) (q : Int32 × kI × kJ) (hG : E_X11_tell a0 a1 I J = some q) : sp_X11_tell [kx_r 11 0, kx_i a0, kx_i a1] (I, J, none) (some (kx_i q.1)) (q.2.1, q.2.2, none) := by
  unfold E_X11_tell at hG
  refine kx_start [16, 35, 52, 78, 82, 83] 67 ?_
  refine ⟨fun h1 => ?_, fun h1 => ?_⟩
  · replace h1 : ¬ a0 = 0 := h1
    rw [kif_neg h1] at hG
    exact ((cl_X11_tell a0 a1 kfu).1) _ _ _ _ _ q hG
  · replace h1 : a0 = 0 := h1
    rw [kif_pos h1] at hG
    refine ⟨_, _, cs_X11_in (Int32.toInt64 a1) (0 : Int64) (12 : Int64) I J, rfl, ?_⟩
    refine ⟨fun h2 => ?_, fun h2 => ?_⟩
    · replace h2 : ¬ (F_X11_in (Int32.toInt64 a1) (0 : Int64) (12 : Int64) I J) = 0 := h2
      rw [kif_neg h2] at hG
      exact ((cl_X11_tell a0 a1 kfu).2.2.2.1) _ _ _ _ _ q hG
    · replace h2 : (F_X11_in (Int32.toInt64 a1) (0 : Int64) (12 : Int64) I J) = 0 := h2
      rw [kif_pos h2] at hG
      exact ((cl_X11_tell a0 a1 kfu).1) _ _ _ _ _ q hG
noncomputable def E_X11_pass (a0 : Int32) (I : kI) (J : kJ) : Option (Int32 × kI × kJ) := (kif ((F_X11_in (Int32.toInt64 a0) (0 : Int64) (200 : Int64) I J) = 0) (kif (pre_X11_refused (-102 : Int32) I J) (some ((F_X11_refused (-102 : Int32) I J).1, (F_X11_refused (-102 : Int32) I J).2.1, (F_X11_refused (-102 : Int32) I J).2.2)) none) (kbd (E_X11_passes a0 I J) (fun q1 => (some (q1.1, q1.2.1, q1.2.2)))))
set_option maxRecDepth 100000 in
set_option maxHeartbeats 4000000 in
theorem cs_X11_pass (a0 : Int32) (I : kI) (J : kJ) (q : Int32 × kI × kJ) (hG : E_X11_pass a0 I J = some q) : sp_X11_pass [kx_r 11 0, kx_i a0] (I, J, none) (some (kx_i q.1)) (q.2.1, q.2.2, none) := by
  unfold E_X11_pass at hG
  refine kx_start [] 17 ?_
  refine ⟨_, _, cs_X11_in (Int32.toInt64 a0) (0 : Int64) (200 : Int64) I J, rfl, ?_⟩
  refine ⟨fun h1 => ?_, fun h1 => ?_⟩
  · replace h1 : (F_X11_in (Int32.toInt64 a0) (0 : Int64) (200 : Int64) I J) = 0 := h1
    rw [kif_pos h1] at hG
    obtain ⟨hq, hG⟩ := kif_some hG
    refine ⟨_, _, cs_X11_refused (-102 : Int32) I J hq, rfl, ?_⟩
    replace hG := Option.some.inj hG
    subst hG
    exact ⟨rfl, rfl⟩
  · replace h1 : ¬ (F_X11_in (Int32.toInt64 a0) (0 : Int64) (200 : Int64) I J) = 0 := h1
    rw [kif_neg h1] at hG
    obtain ⟨q1, hq, hG⟩ := kbd_some hG
    refine ⟨_, _, cs_X11_passes a0 I J q1 hq, rfl, ?_⟩
    replace hG := Option.some.inj hG
    subst hG
    exact ⟨rfl, rfl⟩
noncomputable def E_X11_weather (a0 : Int32) (I : kI) (J : kJ) : Option (Int32 × kI × kJ) := (kif (a0 < 0) (kif (pre_X11_refused (-102 : Int32) I J) (some ((F_X11_refused (-102 : Int32) I J).1, (F_X11_refused (-102 : Int32) I J).2.1, (F_X11_refused (-102 : Int32) I J).2.2)) none) (kbd (E_X11_weatherOf a0 I J) (fun q1 => (some (q1, I, J)))))
set_option maxRecDepth 100000 in
set_option maxHeartbeats 4000000 in
theorem cs_X11_weather (a0 : Int32) (I : kI) (J : kJ) (q : Int32 × kI × kJ) (hG : E_X11_weather a0 I J = some q) : sp_X11_weather [kx_r 11 0, kx_i a0] (I, J, none) (some (kx_i q.1)) (q.2.1, q.2.2, none) := by
  unfold E_X11_weather at hG
  refine kx_start [] 13 ?_
  refine ⟨fun h1 => ?_, fun h1 => ?_⟩
  · replace h1 : a0 < 0 := h1
    rw [kif_pos h1] at hG
    obtain ⟨hq, hG⟩ := kif_some hG
    refine ⟨_, _, cs_X11_refused (-102 : Int32) I J hq, rfl, ?_⟩
    replace hG := Option.some.inj hG
    subst hG
    exact ⟨rfl, rfl⟩
  · replace h1 : ¬ a0 < 0 := h1
    rw [kif_neg h1] at hG
    obtain ⟨q1, hq, hG⟩ := kbd_some hG
    refine ⟨_, _, cs_X11_weatherOf a0 I J q1 hq, rfl, ?_⟩
    replace hG := Option.some.inj hG
    subst hG
    exact ⟨rfl, rfl⟩
noncomputable def G_X11_hoursOf (a0 : Int32) : Nat → Nat → Int32 → Int32 → kI → kJ → Option (Int32)
  | 0, _, _, _, _, _ => none
  | n + 1, pc, v2, v3, I, J => (bif Nat.beq pc 4 then (kif ((24 : Int32) ≤ v3) (some v2) (kif (vp_in ((85 : Int32) + v3) 2509) (kif ((I 41 0 (((85 : Int32) + v3)).toNatClampNeg) = a0) ((G_X11_hoursOf a0 n) 4 (v2 + (1 : Int32)) (v3 + (1)) I J) ((G_X11_hoursOf a0 n) 4 (v2 + (0 : Int32)) (v3 + (1)) I J)) none)) else none)
theorem G_X11_hoursOf_4 (a0 : Int32) (n : Nat) (v2 : Int32) (v3 : Int32) (I : kI) (J : kJ) : G_X11_hoursOf a0 (n + 1) 4 v2 v3 I J = (kif ((24 : Int32) ≤ v3) (some v2) (kif (vp_in ((85 : Int32) + v3) 2509) (kif ((I 41 0 (((85 : Int32) + v3)).toNatClampNeg) = a0) ((G_X11_hoursOf a0 n) 4 (v2 + (1 : Int32)) (v3 + (1)) I J) ((G_X11_hoursOf a0 n) 4 (v2 + (0 : Int32)) (v3 + (1)) I J)) none)) := rfl
noncomputable def E_X11_hoursOf (a0 : Int32) (I : kI) (J : kJ) : Option (Int32) := ((G_X11_hoursOf a0 kfu) 4 (0 : Int32) (0 : Int32) I J)
set_option maxRecDepth 100000 in
set_option maxHeartbeats 4000000 in
theorem cl_X11_hoursOf (a0 : Int32) (I0 : kI) (J0 : kJ) : ∀ n : Nat, (∀ (v2 : Int32) (v3 : Int32) (I : kI) (J : kJ) (q : Int32), I = I0 → J = J0 → G_X11_hoursOf a0 n 4 v2 v3 I J = some q → kx_Run tb_X11_hoursOf (kx_NC, fun r' S'' => r' = some (kx_i q) ∧ S'' = (I0, J0, none)) 4 [some (kx_r 11 (0)), some (kx_i a0), some (kx_i v2), some (kx_i v3)] [] (I, J, none)) := by
  intro n
  induction n with
  | zero => (intros; rename_i h; have h2 : (none : Option _) = some _ := h; cases h2)
  | succ n ih =>
    intro v2 v3  I J q hI0 hJ0 hG
    subst hI0 hJ0
    rw [G_X11_hoursOf_4] at hG
    refine kx_start [4] 28 ?_
    refine ⟨fun h1 => ?_, fun h1 => ?_⟩
    · replace h1 : (24 : Int32) ≤ v3 := h1
      rw [kif_pos h1] at hG
      replace hG := Option.some.inj hG
      subst hG
      exact ⟨rfl, rfl⟩
    · replace h1 : ¬ (24 : Int32) ≤ v3 := h1
      rw [kif_neg h1] at hG
      obtain ⟨hq, hG⟩ := kif_some hG
      refine ⟨hq, ?_⟩
      refine ⟨fun h2 => ?_, fun h2 => ?_⟩
      · replace h2 : ¬ (I 41 0 (((85 : Int32) + v3)).toNatClampNeg) = a0 := h2
        rw [kif_neg h2] at hG
        exact (ih) _ _ _ _ q rfl rfl hG
      · replace h2 : (I 41 0 (((85 : Int32) + v3)).toNatClampNeg) = a0 := h2
        rw [kif_pos h2] at hG
        exact (ih) _ _ _ _ q rfl rfl hG
set_option maxRecDepth 100000 in
set_option maxHeartbeats 4000000 in
theorem cs_X11_hoursOf (a0 : Int32) (I : kI) (J : kJ) (q : Int32) (hG : E_X11_hoursOf a0 I J = some q) : sp_X11_hoursOf [kx_r 11 0, kx_i a0] (I, J, none) (some (kx_i q)) (I, J, none) := by
  unfold E_X11_hoursOf at hG
  refine kx_start [4] 28 ?_
  exact ((cl_X11_hoursOf a0 I J kfu)) _ _ _ _ q rfl rfl hG

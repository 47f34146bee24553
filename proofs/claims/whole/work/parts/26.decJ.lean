noncomputable def G_X11_judge (a0 : Int32) (a1 : Int32) (a2 : Int32) : Nat → Nat → Int32 → kI → kJ → Option (Int32 × kI × kJ)
  | 0, _, _, _, _ => none
  | n + 1, pc, v4, I, J => (bif Nat.beq pc 85 then (kif (a2 ≤ v4) (some ((-1 : Int32), I, J)) (kif (vp_in (15 : Int32) 2509) (kif (((I 41 0 ((15 : Int32)).toNatClampNeg) - v4) ≤ a0) (kif ((0 : Int32) = 0) (some (v4, I, J)) ((G_X11_judge a0 a1 a2 n) 85 (v4 + (1)) I J)) (kif (vp_in (((40 : Int32) * a1) + ((2 : Int32) * v4)) 320) (kif (vp_in (((909 : Int32) + ((4 : Int32) * (a0 + v4))) + (1 : Int32)) 2509) (kif ((lg_cmp (J 51 0 ((((40 : Int32) * a1) + ((2 : Int32) * v4))).toNatClampNeg) (Int32.toInt64 (I 41 0 ((((909 : Int32) + ((4 : Int32) * (a0 + v4))) + (1 : Int32))).toNatClampNeg))) = 0) (kif (vp_in ((((40 : Int32) * a1) + ((2 : Int32) * v4)) + (1 : Int32)) 320) (kif (vp_in (((909 : Int32) + ((4 : Int32) * (a0 + v4))) + (2 : Int32)) 2509) (kif ((lg_cmp (J 51 0 (((((40 : Int32) * a1) + ((2 : Int32) * v4)) + (1 : Int32))).toNatClampNeg) (Int32.toInt64 (I 41 0 ((((909 : Int32) + ((4 : Int32) * (a0 + v4))) + (2 : Int32))).toNatClampNeg))) = 0) (kif ((1 : Int32) = 0) (some (v4, I, J)) ((G_X11_judge a0 a1 a2 n) 85 (v4 + (1)) I J)) (kif ((0 : Int32) = 0) (some (v4, I, J)) ((G_X11_judge a0 a1 a2 n) 85 (v4 + (1)) I J))) none) none) (kif ((0 : Int32) = 0) (some (v4, I, J)) ((G_X11_judge a0 a1 a2 n) 85 (v4 + (1)) I J))) none) none)) none)) else none)
theorem G_X11_judge_85 (a0 : Int32) (a1 : Int32) (a2 : Int32) (n : Nat) (v4 : Int32) (I : kI) (J : kJ) : G_X11_judge a0 a1 a2 (n + 1) 85 v4 I J = (kif (a2 ≤ v4) (some ((-1 : Int32), I, J)) (kif (vp_in (15 : Int32) 2509) (kif (((I 41 0 ((15 : Int32)).toNatClampNeg) - v4) ≤ a0) (kif ((0 : Int32) = 0) (some (v4, I, J)) ((G_X11_judge a0 a1 a2 n) 85 (v4 + (1)) I J)) (kif (vp_in (((40 : Int32) * a1) + ((2 : Int32) * v4)) 320) (kif (vp_in (((909 : Int32) + ((4 : Int32) * (a0 + v4))) + (1 : Int32)) 2509) (kif ((lg_cmp (J 51 0 ((((40 : Int32) * a1) + ((2 : Int32) * v4))).toNatClampNeg) (Int32.toInt64 (I 41 0 ((((909 : Int32) + ((4 : Int32) * (a0 + v4))) + (1 : Int32))).toNatClampNeg))) = 0) (kif (vp_in ((((40 : Int32) * a1) + ((2 : Int32) * v4)) + (1 : Int32)) 320) (kif (vp_in (((909 : Int32) + ((4 : Int32) * (a0 + v4))) + (2 : Int32)) 2509) (kif ((lg_cmp (J 51 0 (((((40 : Int32) * a1) + ((2 : Int32) * v4)) + (1 : Int32))).toNatClampNeg) (Int32.toInt64 (I 41 0 ((((909 : Int32) + ((4 : Int32) * (a0 + v4))) + (2 : Int32))).toNatClampNeg))) = 0) (kif ((1 : Int32) = 0) (some (v4, I, J)) ((G_X11_judge a0 a1 a2 n) 85 (v4 + (1)) I J)) (kif ((0 : Int32) = 0) (some (v4, I, J)) ((G_X11_judge a0 a1 a2 n) 85 (v4 + (1)) I J))) none) none) (kif ((0 : Int32) = 0) (some (v4, I, J)) ((G_X11_judge a0 a1 a2 n) 85 (v4 + (1)) I J))) none) none)) none)) := rfl
noncomputable def E_X11_judge (a0 : Int32) (a1 : Int32) (a2 : Int32) (I : kI) (J : kJ) : Option (Int32 × kI × kJ) := (kif (a0 < 0) (kif (pre_X11_refused (-102 : Int32) I J) (some ((F_X11_refused (-102 : Int32) I J).1, (F_X11_refused (-102 : Int32) I J).2.1, (F_X11_refused (-102 : Int32) I J).2.2)) none) (kif (pre_X11_isShelf a1 I J) (kif ((F_X11_isShelf a1 I J) = 0) (kif (pre_X11_refused (-102 : Int32) I J) (some ((F_X11_refused (-102 : Int32) I J).1, (F_X11_refused (-102 : Int32) I J).2.1, (F_X11_refused (-102 : Int32) I J).2.2)) none) (kif ((F_X11_in (Int32.toInt64 a2) (0 : Int64) (20 : Int64) I J) = 0) (kif (pre_X11_refused (-102 : Int32) I J) (some ((F_X11_refused (-102 : Int32) I J).1, (F_X11_refused (-102 : Int32) I J).2.1, (F_X11_refused (-102 : Int32) I J).2.2)) none) (kif (vp_in a1 8) (kif ((I 49 0 (a1).toNatClampNeg) ≤ (4 : Int32)) (kif (vp_in a1 8) (kif (0 ≤ (I 49 0 (a1).toNatClampNeg)) (kif (vp_in a1 8) (kif (((2 : Int32) * a2) ≤ (I 50 0 (a1).toNatClampNeg)) ((G_X11_judge a0 a1 a2 kfu) 85 (0 : Int32) I J) (kif (pre_X11_refused (-102 : Int32) I J) (some ((F_X11_refused (-102 : Int32) I J).1, (F_X11_refused (-102 : Int32) I J).2.1, (F_X11_refused (-102 : Int32) I J).2.2)) none)) none) (kif (pre_X11_refused (-104 : Int32) I J) (some ((F_X11_refused (-104 : Int32) I J).1, (F_X11_refused (-104 : Int32) I J).2.1, (F_X11_refused (-104 : Int32) I J).2.2)) none)) none) (kif (pre_X11_refused (-103 : Int32) I J) (some ((F_X11_refused (-103 : Int32) I J).1, (F_X11_refused (-103 : Int32) I J).2.1, (F_X11_refused (-103 : Int32) I J).2.2)) none)) none))) none))
set_option maxRecDepth 100000 in
set_option maxHeartbeats 4000000 in
theorem cl_X11_judge (a0 : Int32) (a1 : Int32) (a2 : Int32) : ∀ n : Nat, (∀ (v4 : Int32) (x5 : Option kx_V) (I : kI) (J : kJ) (q : Int32 × kI × kJ), G_X11_judge a0 a1 a2 n 85 v4 I J = some q → kx_Run tb_X11_judge (kx_NC, fun r' S'' => r' = some (kx_i q.1) ∧ S'' = (q.2.1, q.2.2, none)) 85 [some (kx_r 11 (0)), some (kx_i a0), some (kx_i a1), some (kx_i a2), some (kx_i v4), x5] [] (I, J, none)) := by
  intro n
  induction n with
  | zero => (intros; rename_i h; have h2 : (none : Option _) = some _ := h; cases h2)
  | succ n ih =>
    intro v4 x5  I J q hG
    rw [G_X11_judge_85] at hG
    refine kx_start [85] 126 ?_
    refine ⟨fun h1 => ?_, fun h1 => ?_⟩
    · replace h1 : a2 ≤ v4 := h1
      rw [kif_pos h1] at hG
      replace hG := Option.some.inj hG
      subst hG
      exact ⟨rfl, rfl⟩
    · replace h1 : ¬ a2 ≤ v4 := h1
      rw [kif_neg h1] at hG
      obtain ⟨hq, hG⟩ := kif_some hG
      refine ⟨hq, ?_⟩
      refine ⟨fun h2 => ?_, fun h2 => ?_⟩
      · replace h2 : ((I 41 0 ((15 : Int32)).toNatClampNeg) - v4) ≤ a0 := h2
        rw [kif_pos h2] at hG
        refine ⟨fun h3 => ?_, fun h3 => ?_⟩
        · replace h3 : ¬ (0 : Int32) = 0 := h3
          rw [kif_neg h3] at hG
          exact (ih) _ _ _ _ q hG
        · replace h3 : (0 : Int32) = 0 := h3
          rw [kif_pos h3] at hG
          replace hG := Option.some.inj hG
          subst hG
          exact ⟨rfl, rfl⟩
      · replace h2 : ¬ ((I 41 0 ((15 : Int32)).toNatClampNeg) - v4) ≤ a0 := h2
        rw [kif_neg h2] at hG
        obtain ⟨hq, hG⟩ := kif_some hG
        refine ⟨hq, ?_⟩
        obtain ⟨hq, hG⟩ := kif_some hG
        refine ⟨hq, ?_⟩
        refine ⟨fun h4 => ?_, fun h4 => ?_⟩
        · replace h4 : ¬ (lg_cmp (J 51 0 ((((40 : Int32) * a1) + ((2 : Int32) * v4))).toNatClampNeg) (Int32.toInt64 (I 41 0 ((((909 : Int32) + ((4 : Int32) * (a0 + v4))) + (1 : Int32))).toNatClampNeg))) = 0 := h4
          rw [kif_neg h4] at hG
          refine ⟨fun h5 => ?_, fun h5 => ?_⟩
          · replace h5 : ¬ (0 : Int32) = 0 := h5
            rw [kif_neg h5] at hG
            exact (ih) _ _ _ _ q hG
          · replace h5 : (0 : Int32) = 0 := h5
            rw [kif_pos h5] at hG
            replace hG := Option.some.inj hG
            subst hG
            exact ⟨rfl, rfl⟩
        · replace h4 : (lg_cmp (J 51 0 ((((40 : Int32) * a1) + ((2 : Int32) * v4))).toNatClampNeg) (Int32.toInt64 (I 41 0 ((((909 : Int32) + ((4 : Int32) * (a0 + v4))) + (1 : Int32))).toNatClampNeg))) = 0 := h4
          rw [kif_pos h4] at hG
          obtain ⟨hq, hG⟩ := kif_some hG
          refine ⟨hq, ?_⟩
          obtain ⟨hq, hG⟩ := kif_some hG
          refine ⟨hq, ?_⟩
          refine ⟨fun h6 => ?_, fun h6 => ?_⟩
          · replace h6 : ¬ (lg_cmp (J 51 0 (((((40 : Int32) * a1) + ((2 : Int32) * v4)) + (1 : Int32))).toNatClampNeg) (Int32.toInt64 (I 41 0 ((((909 : Int32) + ((4 : Int32) * (a0 + v4))) + (2 : Int32))).toNatClampNeg))) = 0 := h6
            rw [kif_neg h6] at hG
            refine ⟨fun h7 => ?_, fun h7 => ?_⟩
            · replace h7 : ¬ (0 : Int32) = 0 := h7
              rw [kif_neg h7] at hG
              exact (ih) _ _ _ _ q hG
            · replace h7 : (0 : Int32) = 0 := h7
              rw [kif_pos h7] at hG
              replace hG := Option.some.inj hG
              subst hG
              exact ⟨rfl, rfl⟩
          · replace h6 : (lg_cmp (J 51 0 (((((40 : Int32) * a1) + ((2 : Int32) * v4)) + (1 : Int32))).toNatClampNeg) (Int32.toInt64 (I 41 0 ((((909 : Int32) + ((4 : Int32) * (a0 + v4))) + (2 : Int32))).toNatClampNeg))) = 0 := h6
            rw [kif_pos h6] at hG
            refine ⟨fun h8 => ?_, fun h8 => ?_⟩
            · replace h8 : ¬ (1 : Int32) = 0 := h8
              rw [kif_neg h8] at hG
              exact (ih) _ _ _ _ q hG
            · replace h8 : (1 : Int32) = 0 := h8
              rw [kif_pos h8] at hG
              replace hG := Option.some.inj hG
              subst hG
              exact ⟨rfl, rfl⟩
set_option maxRecDepth 100000 in
set_option maxHeartbeats 4000000 in
theorem cs_X11_judge (a0 : Int32) (a1 : Int32) (a2 : Int32) (I : kI) (J : kJ) (q : Int32 × kI × kJ) (hG : E_X11_judge a0 a1 a2 I J = some q) : sp_X11_judge [kx_r 11 0, kx_i a0, kx_i a1, kx_i a2] (I, J, none) (some (kx_i q.1)) (q.2.1, q.2.2, none) := by
  unfold E_X11_judge at hG
  refine kx_start [85] 126 ?_
  refine ⟨fun h1 => ?_, fun h1 => ?_⟩
  · replace h1 : a0 < 0 := h1
    rw [kif_pos h1] at hG
    obtain ⟨hq, hG⟩ := kif_some hG
    refine ⟨_, _, cs_X11_refused (-102 : Int32) I J hq, rfl, ?_⟩
    replace hG := Option.some.inj hG
    subst hG
    exact ⟨rfl, rfl⟩
  · replace h1 : ¬ a0 < 0 := h1
    rw [kif_neg h1] at hG
    obtain ⟨hq, hG⟩ := kif_some hG
    refine ⟨_, _, cs_X11_isShelf a1 I J hq, rfl, ?_⟩
    refine ⟨fun h2 => ?_, fun h2 => ?_⟩
    · replace h2 : (F_X11_isShelf a1 I J) = 0 := h2
      rw [kif_pos h2] at hG
      obtain ⟨hq, hG⟩ := kif_some hG
      refine ⟨_, _, cs_X11_refused (-102 : Int32) I J hq, rfl, ?_⟩
      replace hG := Option.some.inj hG
      subst hG
      exact ⟨rfl, rfl⟩
    · replace h2 : ¬ (F_X11_isShelf a1 I J) = 0 := h2
      rw [kif_neg h2] at hG
      refine ⟨_, _, cs_X11_in (Int32.toInt64 a2) (0 : Int64) (20 : Int64) I J, rfl, ?_⟩
      refine ⟨fun h3 => ?_, fun h3 => ?_⟩
      · replace h3 : ¬ (F_X11_in (Int32.toInt64 a2) (0 : Int64) (20 : Int64) I J) = 0 := h3
        rw [kif_neg h3] at hG
        obtain ⟨hq, hG⟩ := kif_some hG
        refine ⟨hq, ?_⟩
        refine ⟨fun h4 => ?_, fun h4 => ?_⟩
        · replace h4 : (I 49 0 (a1).toNatClampNeg) ≤ (4 : Int32) := h4
          rw [kif_pos h4] at hG
          obtain ⟨hq, hG⟩ := kif_some hG
          refine ⟨hq, ?_⟩
          refine ⟨fun h5 => ?_, fun h5 => ?_⟩
          · replace h5 : 0 ≤ (I 49 0 (a1).toNatClampNeg) := h5
            rw [kif_pos h5] at hG
            obtain ⟨hq, hG⟩ := kif_some hG
            refine ⟨hq, ?_⟩
            refine ⟨fun h6 => ?_, fun h6 => ?_⟩
            · replace h6 : ((2 : Int32) * a2) ≤ (I 50 0 (a1).toNatClampNeg) := h6
              rw [kif_pos h6] at hG
              exact ((cl_X11_judge a0 a1 a2 kfu)) _ _ _ _ q hG
            · replace h6 : ¬ ((2 : Int32) * a2) ≤ (I 50 0 (a1).toNatClampNeg) := h6
              rw [kif_neg h6] at hG
              obtain ⟨hq, hG⟩ := kif_some hG
              refine ⟨_, _, cs_X11_refused (-102 : Int32) I J hq, rfl, ?_⟩
              replace hG := Option.some.inj hG
              subst hG
              exact ⟨rfl, rfl⟩
          · replace h5 : ¬ 0 ≤ (I 49 0 (a1).toNatClampNeg) := h5
            rw [kif_neg h5] at hG
            obtain ⟨hq, hG⟩ := kif_some hG
            refine ⟨_, _, cs_X11_refused (-104 : Int32) I J hq, rfl, ?_⟩
            replace hG := Option.some.inj hG
            subst hG
            exact ⟨rfl, rfl⟩
        · replace h4 : ¬ (I 49 0 (a1).toNatClampNeg) ≤ (4 : Int32) := h4
          rw [kif_neg h4] at hG
          obtain ⟨hq, hG⟩ := kif_some hG
          refine ⟨_, _, cs_X11_refused (-103 : Int32) I J hq, rfl, ?_⟩
          replace hG := Option.some.inj hG
          subst hG
          exact ⟨rfl, rfl⟩
      · replace h3 : (F_X11_in (Int32.toInt64 a2) (0 : Int64) (20 : Int64) I J) = 0 := h3
        rw [kif_pos h3] at hG
        obtain ⟨hq, hG⟩ := kif_some hG
        refine ⟨_, _, cs_X11_refused (-102 : Int32) I J hq, rfl, ?_⟩
        replace hG := Option.some.inj hG
        subst hG
        exact ⟨rfl, rfl⟩
noncomputable def G_X11_days (a0 : Int32) : Nat → Nat → Int32 → Int32 → Int32 → Int32 → Int32 → Int32 → Int32 → kI → kJ → Option (Int32 × kI × kJ)
  | 0, _, _, _, _, _, _, _, _, _, _ => none
  | n + 1, pc, v2, v3, v4, s0, s1, s2, s3, I, J => (bif Nat.beq pc 23 then (kif (a0 ≤ v3) (some (v2, I, J)) (kif (pre_X11_draw (3 : Int32) I J) ((G_X11_days a0 n) 33 v2 v3 0 (F_X11_draw (3 : Int32) I J).1 0 0 0 (F_X11_draw (3 : Int32) I J).2.1 (F_X11_draw (3 : Int32) I J).2.2) none)) else (bif Nat.beq pc 33 then (kif (s0 = 0) (kif (vp_in (14 : Int32) 2509) (kif ((200 : Int32) ≤ (I 41 0 ((14 : Int32)).toNatClampNeg)) (kbd (E_X11_passes (1 : Int32) I J) (fun q2 => ((G_X11_days a0 n) 23 (v2 + q2.1) (v3 + (1)) 0 0 0 0 0 q2.2.1 q2.2.2))) (kif (pre_X11_draw (5 : Int32) I J) ((G_X11_days a0 n) 58 v2 v3 ((3 : Int32) + (F_X11_draw (5 : Int32) I J).1) 0 0 0 0 (F_X11_draw (5 : Int32) I J).2.1 (F_X11_draw (5 : Int32) I J).2.2) none)) none) (kbd (E_X11_passes (1 : Int32) I J) (fun q1 => ((G_X11_days a0 n) 23 (v2 + q1.1) (v3 + (1)) 0 0 0 0 0 q1.2.1 q1.2.2)))) else (bif Nat.beq pc 58 then (kif (vp_in (0 : Int32) 2509) (kif (pre_X11_draw (24 : Int32) I J) ((G_X11_days a0 n) 73 v2 v3 0 0 v4 (I 41 0 ((0 : Int32)).toNatClampNeg) (F_X11_draw (24 : Int32) I J).1 (F_X11_draw (24 : Int32) I J).2.1 (F_X11_draw (24 : Int32) I J).2.2) none) none) else (bif Nat.beq pc 73 then (kif (pre_X11_comesShip s1 (s2 + s3) I J) ((G_X11_days a0 n) 77 v2 v3 0 (F_X11_comesShip s1 (s2 + s3) I J).1 0 0 0 (F_X11_comesShip s1 (s2 + s3) I J).2.1 (F_X11_comesShip s1 (s2 + s3) I J).2.2) none) else (bif Nat.beq pc 77 then (kbd (E_X11_passes (1 : Int32) I J) (fun q1 => ((G_X11_days a0 n) 23 (v2 + q1.1) (v3 + (1)) 0 0 0 0 0 q1.2.1 q1.2.2))) else none)))))
theorem G_X11_days_23 (a0 : Int32) (n : Nat) (v2 : Int32) (v3 : Int32) (v4 : Int32) (s0 : Int32) (s1 : Int32) (s2 : Int32) (s3 : Int32) (I : kI) (J : kJ) : G_X11_days a0 (n + 1) 23 v2 v3 v4 s0 s1 s2 s3 I J = (kif (a0 ≤ v3) (some (v2, I, J)) (kif (pre_X11_draw (3 : Int32) I J) ((G_X11_days a0 n) 33 v2 v3 0 (F_X11_draw (3 : Int32) I J).1 0 0 0 (F_X11_draw (3 : Int32) I J).2.1 (F_X11_draw (3 : Int32) I J).2.2) none)) := rfl
theorem G_X11_days_33 (a0 : Int32) (n : Nat) (v2 : Int32) (v3 : Int32) (v4 : Int32) (s0 : Int32) (s1 : Int32) (s2 : Int32) (s3 : Int32) (I : kI) (J : kJ) : G_X11_days a0 (n + 1) 33 v2 v3 v4 s0 s1 s2 s3 I J = (kif (s0 = 0) (kif (vp_in (14 : Int32) 2509) (kif ((200 : Int32) ≤ (I 41 0 ((14 : Int32)).toNatClampNeg)) (kbd (E_X11_passes (1 : Int32) I J) (fun q2 => ((G_X11_days a0 n) 23 (v2 + q2.1) (v3 + (1)) 0 0 0 0 0 q2.2.1 q2.2.2))) (kif (pre_X11_draw (5 : Int32) I J) ((G_X11_days a0 n) 58 v2 v3 ((3 : Int32) + (F_X11_draw (5 : Int32) I J).1) 0 0 0 0 (F_X11_draw (5 : Int32) I J).2.1 (F_X11_draw (5 : Int32) I J).2.2) none)) none) (kbd (E_X11_passes (1 : Int32) I J) (fun q1 => ((G_X11_days a0 n) 23 (v2 + q1.1) (v3 + (1)) 0 0 0 0 0 q1.2.1 q1.2.2)))) := rfl
theorem G_X11_days_58 (a0 : Int32) (n : Nat) (v2 : Int32) (v3 : Int32) (v4 : Int32) (s0 : Int32) (s1 : Int32) (s2 : Int32) (s3 : Int32) (I : kI) (J : kJ) : G_X11_days a0 (n + 1) 58 v2 v3 v4 s0 s1 s2 s3 I J = (kif (vp_in (0 : Int32) 2509) (kif (pre_X11_draw (24 : Int32) I J) ((G_X11_days a0 n) 73 v2 v3 0 0 v4 (I 41 0 ((0 : Int32)).toNatClampNeg) (F_X11_draw (24 : Int32) I J).1 (F_X11_draw (24 : Int32) I J).2.1 (F_X11_draw (24 : Int32) I J).2.2) none) none) := rfl
theorem G_X11_days_73 (a0 : Int32) (n : Nat) (v2 : Int32) (v3 : Int32) (v4 : Int32) (s0 : Int32) (s1 : Int32) (s2 : Int32) (s3 : Int32) (I : kI) (J : kJ) : G_X11_days a0 (n + 1) 73 v2 v3 v4 s0 s1 s2 s3 I J = (kif (pre_X11_comesShip s1 (s2 + s3) I J) ((G_X11_days a0 n) 77 v2 v3 0 (F_X11_comesShip s1 (s2 + s3) I J).1 0 0 0 (F_X11_comesShip s1 (s2 + s3) I J).2.1 (F_X11_comesShip s1 (s2 + s3) I J).2.2) none) := rfl
theorem G_X11_days_77 (a0 : Int32) (n : Nat) (v2 : Int32) (v3 : Int32) (v4 : Int32) (s0 : Int32) (s1 : Int32) (s2 : Int32) (s3 : Int32) (I : kI) (J : kJ) : G_X11_days a0 (n + 1) 77 v2 v3 v4 s0 s1 s2 s3 I J = (kbd (E_X11_passes (1 : Int32) I J) (fun q1 => ((G_X11_days a0 n) 23 (v2 + q1.1) (v3 + (1)) 0 0 0 0 0 q1.2.1 q1.2.2))) := rfl
noncomputable def E_X11_days (a0 : Int32) (I : kI) (J : kJ) : Option (Int32 × kI × kJ) := (kif ((F_X11_in (Int32.toInt64 a0) (1 : Int64) (60 : Int64) I J) = 0) (kif (pre_X11_refused (-102 : Int32) I J) (some ((F_X11_refused (-102 : Int32) I J).1, (F_X11_refused (-102 : Int32) I J).2.1, (F_X11_refused (-102 : Int32) I J).2.2)) none) ((G_X11_days a0 kfu) 23 (0 : Int32) (0 : Int32) 0 0 0 0 0 I J))
set_option maxRecDepth 100000 in
set_option maxHeartbeats 4000000 in
theorem cl_X11_days (a0 : Int32) : ∀ n : Nat, (∀ (v2 : Int32) (v3 : Int32) (v4 : Int32) (s0 : Int32) (s1 : Int32) (s2 : Int32) (s3 : Int32) (x4 x5 : Option kx_V) (I : kI) (J : kJ) (q : Int32 × kI × kJ), G_X11_days a0 n 23 v2 v3 v4 s0 s1 s2 s3 I J = some q → kx_Run tb_X11_days (kx_NC, fun r' S'' => r' = some (kx_i q.1) ∧ S'' = (q.2.1, q.2.2, none)) 23 [some (kx_r 11 (0)), some (kx_i a0), some (kx_i v2), some (kx_i v3), x4, x5] [] (I, J, none)) ∧ (∀ (v2 : Int32) (v3 : Int32) (v4 : Int32) (s0 : Int32) (s1 : Int32) (s2 : Int32) (s3 : Int32) (x4 x5 : Option kx_V) (I : kI) (J : kJ) (q : Int32 × kI × kJ), G_X11_days a0 n 33 v2 v3 v4 s0 s1 s2 s3 I J = some q → kx_Run tb_X11_days (kx_NC, fun r' S'' => r' = some (kx_i q.1) ∧ S'' = (q.2.1, q.2.2, none)) 33 [some (kx_r 11 (0)), some (kx_i a0), some (kx_i v2), some (kx_i v3), x4, x5] [kx_i s0] (I, J, none)) ∧ (∀ (v2 : Int32) (v3 : Int32) (v4 : Int32) (s0 : Int32) (s1 : Int32) (s2 : Int32) (s3 : Int32) (x5 : Option kx_V) (I : kI) (J : kJ) (q : Int32 × kI × kJ), G_X11_days a0 n 58 v2 v3 v4 s0 s1 s2 s3 I J = some q → kx_Run tb_X11_days (kx_NC, fun r' S'' => r' = some (kx_i q.1) ∧ S'' = (q.2.1, q.2.2, none)) 58 [some (kx_r 11 (0)), some (kx_i a0), some (kx_i v2), some (kx_i v3), some (kx_i v4), x5] [] (I, J, none)) ∧ (∀ (v2 : Int32) (v3 : Int32) (v4 : Int32) (s0 : Int32) (s1 : Int32) (s2 : Int32) (s3 : Int32) (x4 x5 : Option kx_V) (I : kI) (J : kJ) (q : Int32 × kI × kJ), G_X11_days a0 n 73 v2 v3 v4 s0 s1 s2 s3 I J = some q → kx_Run tb_X11_days (kx_NC, fun r' S'' => r' = some (kx_i q.1) ∧ S'' = (q.2.1, q.2.2, none)) 73 [some (kx_r 11 (0)), some (kx_i a0), some (kx_i v2), some (kx_i v3), x4, x5] [kx_i s3, kx_i s2, kx_i s1, kx_r 11 (0)] (I, J, none)) ∧ (∀ (v2 : Int32) (v3 : Int32) (v4 : Int32) (s0 : Int32) (s1 : Int32) (s2 : Int32) (s3 : Int32) (x4 x5 : Option kx_V) (I : kI) (J : kJ) (q : Int32 × kI × kJ), G_X11_days a0 n 77 v2 v3 v4 s0 s1 s2 s3 I J = some q → kx_Run tb_X11_days (kx_NC, fun r' S'' => r' = some (kx_i q.1) ∧ S'' = (q.2.1, q.2.2, none)) 77 [some (kx_r 11 (0)), some (kx_i a0), some (kx_i v2), some (kx_i v3), x4, x5] [kx_i s0] (I, J, none)) := by
  intro n
  induction n with
  | zero => refine ⟨?_, ?_, ?_, ?_, ?_⟩ <;> (intros; rename_i h; have h2 : (none : Option _) = some _ := h; cases h2)
  | succ n ih =>
    refine ⟨?_, ?_, ?_, ?_, ?_⟩
    · intro v2 v3 v4 s0 s1 s2 s3 x4 x5  I J q hG
      rw [G_X11_days_23] at hG
      refine kx_start [23, 33, 58, 73, 77] 58 ?_
      refine ⟨fun h1 => ?_, fun h1 => ?_⟩
      · replace h1 : a0 ≤ v3 := h1
        rw [kif_pos h1] at hG
        replace hG := Option.some.inj hG
        subst hG
        exact ⟨rfl, rfl⟩
      · replace h1 : ¬ a0 ≤ v3 := h1
        rw [kif_neg h1] at hG
        obtain ⟨hq, hG⟩ := kif_some hG
        refine ⟨_, _, cs_X11_draw (3 : Int32) I J hq, rfl, ?_⟩
        exact (ih.2.1) _ _ _ _ _ _ _ _ _ _ _ q hG
    · intro v2 v3 v4 s0 s1 s2 s3 x4 x5  I J q hG
      rw [G_X11_days_33] at hG
      refine kx_start [23, 33, 58, 73, 77] 58 ?_
      refine ⟨fun h2 => ?_, fun h2 => ?_⟩
      · replace h2 : ¬ s0 = 0 := h2
        rw [kif_neg h2] at hG
        obtain ⟨q1, hq, hG⟩ := kbd_some hG
        refine ⟨_, _, cs_X11_passes (1 : Int32) I J q1 hq, rfl, ?_⟩
        exact (ih.1) _ _ _ _ _ _ _ _ _ _ _ q hG
      · replace h2 : s0 = 0 := h2
        rw [kif_pos h2] at hG
        obtain ⟨hq, hG⟩ := kif_some hG
        refine ⟨hq, ?_⟩
        refine ⟨fun h3 => ?_, fun h3 => ?_⟩
        · replace h3 : (200 : Int32) ≤ (I 41 0 ((14 : Int32)).toNatClampNeg) := h3
          rw [kif_pos h3] at hG
          obtain ⟨q2, hq, hG⟩ := kbd_some hG
          refine ⟨_, _, cs_X11_passes (1 : Int32) I J q2 hq, rfl, ?_⟩
          exact (ih.1) _ _ _ _ _ _ _ _ _ _ _ q hG
        · replace h3 : ¬ (200 : Int32) ≤ (I 41 0 ((14 : Int32)).toNatClampNeg) := h3
          rw [kif_neg h3] at hG
          obtain ⟨hq, hG⟩ := kif_some hG
          refine ⟨_, _, cs_X11_draw (5 : Int32) I J hq, rfl, ?_⟩
          exact (ih.2.2.1) _ _ _ _ _ _ _ _ _ _ q hG
    · intro v2 v3 v4 s0 s1 s2 s3 x5  I J q hG
      rw [G_X11_days_58] at hG
      refine kx_start [23, 33, 58, 73, 77] 58 ?_
      obtain ⟨hq, hG⟩ := kif_some hG
      refine ⟨hq, ?_⟩
      obtain ⟨hq, hG⟩ := kif_some hG
      refine ⟨_, _, cs_X11_draw (24 : Int32) I J hq, rfl, ?_⟩
      exact (ih.2.2.2.1) _ _ _ _ _ _ _ _ _ _ _ q hG
    · intro v2 v3 v4 s0 s1 s2 s3 x4 x5  I J q hG
      rw [G_X11_days_73] at hG
      refine kx_start [23, 33, 58, 73, 77] 58 ?_
      obtain ⟨hq, hG⟩ := kif_some hG
      refine ⟨_, _, cs_X11_comesShip s1 (s2 + s3) I J hq, rfl, ?_⟩
      exact (ih.2.2.2.2) _ _ _ _ _ _ _ _ _ _ _ q hG
    · intro v2 v3 v4 s0 s1 s2 s3 x4 x5  I J q hG
      rw [G_X11_days_77] at hG
      refine kx_start [23, 33, 58, 73, 77] 58 ?_
      obtain ⟨q1, hq, hG⟩ := kbd_some hG
      refine ⟨_, _, cs_X11_passes (1 : Int32) I J q1 hq, rfl, ?_⟩
      exact (ih.1) _ _ _ _ _ _ _ _ _ _ _ q hG
set_option maxRecDepth 100000 in
set_option maxHeartbeats 4000000 in
theorem cs_X11_days (a0 : Int32) (I : kI) (J : kJ) (q : Int32 × kI × kJ) (hG : E_X11_days a0 I J = some q) : sp_X11_days [kx_r 11 0, kx_i a0] (I, J, none) (some (kx_i q.1)) (q.2.1, q.2.2, none) := by
  unfold E_X11_days at hG
  refine kx_start [23, 33, 58, 73, 77] 58 ?_
  refine ⟨_, _, cs_X11_in (Int32.toInt64 a0) (1 : Int64) (60 : Int64) I J, rfl, ?_⟩
  refine ⟨fun h1 => ?_, fun h1 => ?_⟩
  · replace h1 : ¬ (F_X11_in (Int32.toInt64 a0) (1 : Int64) (60 : Int64) I J) = 0 := h1
    rw [kif_neg h1] at hG
    exact ((cl_X11_days a0 kfu).1) _ _ _ _ _ _ _ _ _ _ _ q hG
  · replace h1 : (F_X11_in (Int32.toInt64 a0) (1 : Int64) (60 : Int64) I J) = 0 := h1
    rw [kif_pos h1] at hG
    obtain ⟨hq, hG⟩ := kif_some hG
    refine ⟨_, _, cs_X11_refused (-102 : Int32) I J hq, rfl, ?_⟩
    replace hG := Option.some.inj hG
    subst hG
    exact ⟨rfl, rfl⟩
noncomputable def E_X11_image  (I : kI) (J : kJ) : Option (Int32 × kI × kJ) := (kif (pre_X11_copies (0) (2) I J) (some ((1 : Int32), (kw (F_X11_copies (0) (2) I J).1 11 0 3 (1 : Int32)), (F_X11_copies (0) (2) I J).2)) none)
set_option maxRecDepth 100000 in
set_option maxHeartbeats 4000000 in
theorem cs_X11_image  (I : kI) (J : kJ) (q : Int32 × kI × kJ) (hG : E_X11_image  I J = some q) : sp_X11_image [kx_r 11 0] (I, J, none) (some (kx_i q.1)) (q.2.1, q.2.2, none) := by
  unfold E_X11_image at hG
  refine kx_start [] 13 ?_
  obtain ⟨hq, hG⟩ := kif_some hG
  refine ⟨_, _, ct_X11_copies (0) (2) I J hq, rfl, ?_⟩
  refine ⟨by decide, ?_⟩
  replace hG := Option.some.inj hG
  subst hG
  exact ⟨rfl, rfl⟩
noncomputable def G_X11_back  : Nat → Nat → Int32 → kI → kJ → Option (Int32 × kI × kJ)
  | 0, _, _, _, _ => none
  | n + 1, pc, v1, I, J => (bif Nat.beq pc 27 then (kif ((8 : Int32) ≤ v1) (some ((1 : Int32), I, J)) (kif (vp_in v1 8) (kif (vp_in (14 : Int32) 2509) (kif ((I 49 0 (v1).toNatClampNeg) < ((10 : Int32) + (I 41 0 ((14 : Int32)).toNatClampNeg))) (kif (vp_in v1 8) (kif (vp_in v1 8) ((G_X11_back  n) 27 (v1 + (1)) (kw I 49 0 (v1).toNatClampNeg (I 49 0 (v1).toNatClampNeg)) J) none) none) (kif (vp_in v1 8) ((G_X11_back  n) 27 (v1 + (1)) (kw I 49 0 (v1).toNatClampNeg (-1 : Int32)) J) none)) none) none)) else none)
theorem G_X11_back_27  (n : Nat) (v1 : Int32) (I : kI) (J : kJ) : G_X11_back  (n + 1) 27 v1 I J = (kif ((8 : Int32) ≤ v1) (some ((1 : Int32), I, J)) (kif (vp_in v1 8) (kif (vp_in (14 : Int32) 2509) (kif ((I 49 0 (v1).toNatClampNeg) < ((10 : Int32) + (I 41 0 ((14 : Int32)).toNatClampNeg))) (kif (vp_in v1 8) (kif (vp_in v1 8) ((G_X11_back  n) 27 (v1 + (1)) (kw I 49 0 (v1).toNatClampNeg (I 49 0 (v1).toNatClampNeg)) J) none) none) (kif (vp_in v1 8) ((G_X11_back  n) 27 (v1 + (1)) (kw I 49 0 (v1).toNatClampNeg (-1 : Int32)) J) none)) none) none)) := rfl
noncomputable def E_X11_back  (I : kI) (J : kJ) : Option (Int32 × kI × kJ) := (kif ((I 11 0 3) = 0) (kif (pre_X11_refused (-105 : Int32) I J) (some ((F_X11_refused (-105 : Int32) I J).1, (F_X11_refused (-105 : Int32) I J).2.1, (F_X11_refused (-105 : Int32) I J).2.2)) none) (kif (pre_X11_copies (2) (0) I J) ((G_X11_back  kfu) 27 (0 : Int32) (F_X11_copies (2) (0) I J).1 (F_X11_copies (2) (0) I J).2) none))
set_option maxRecDepth 100000 in
set_option maxHeartbeats 4000000 in
theorem cl_X11_back  : ∀ n : Nat, (∀ (v1 : Int32) (I : kI) (J : kJ) (q : Int32 × kI × kJ), G_X11_back  n 27 v1 I J = some q → kx_Run tb_X11_back (kx_NC, fun r' S'' => r' = some (kx_i q.1) ∧ S'' = (q.2.1, q.2.2, none)) 27 [some (kx_r 11 (0)), some (kx_i v1)] [] (I, J, none)) := by
  intro n
  induction n with
  | zero => (intros; rename_i h; have h2 : (none : Option _) = some _ := h; cases h2)
  | succ n ih =>
    intro v1  I J q hG
    rw [G_X11_back_27] at hG
    refine kx_start [27] 45 ?_
    refine ⟨fun h1 => ?_, fun h1 => ?_⟩
    · replace h1 : (8 : Int32) ≤ v1 := h1
      rw [kif_pos h1] at hG
      replace hG := Option.some.inj hG
      subst hG
      exact ⟨rfl, rfl⟩
    · replace h1 : ¬ (8 : Int32) ≤ v1 := h1
      rw [kif_neg h1] at hG
      obtain ⟨hq, hG⟩ := kif_some hG
      refine ⟨hq, ?_⟩
      obtain ⟨hq, hG⟩ := kif_some hG
      refine ⟨hq, ?_⟩
      refine ⟨fun h2 => ?_, fun h2 => ?_⟩
      · replace h2 : (I 49 0 (v1).toNatClampNeg) < ((10 : Int32) + (I 41 0 ((14 : Int32)).toNatClampNeg)) := h2
        rw [kif_pos h2] at hG
        obtain ⟨hq, hG⟩ := kif_some hG
        refine ⟨hq, ?_⟩
        obtain ⟨hq, hG⟩ := kif_some hG
        refine ⟨hq, ?_⟩
        exact (ih) _ _ _ q hG
      · replace h2 : ¬ (I 49 0 (v1).toNatClampNeg) < ((10 : Int32) + (I 41 0 ((14 : Int32)).toNatClampNeg)) := h2
        rw [kif_neg h2] at hG
        obtain ⟨hq, hG⟩ := kif_some hG
        refine ⟨hq, ?_⟩
        exact (ih) _ _ _ q hG
set_option maxRecDepth 100000 in
set_option maxHeartbeats 4000000 in
theorem cs_X11_back  (I : kI) (J : kJ) (q : Int32 × kI × kJ) (hG : E_X11_back  I J = some q) : sp_X11_back [kx_r 11 0] (I, J, none) (some (kx_i q.1)) (q.2.1, q.2.2, none) := by
  unfold E_X11_back at hG
  refine kx_start [27] 45 ?_
  refine ⟨fun h1 => ?_, fun h1 => ?_⟩
  · replace h1 : ¬ (I 11 0 3) = 0 := h1
    rw [kif_neg h1] at hG
    obtain ⟨hq, hG⟩ := kif_some hG
    refine ⟨_, _, ct_X11_copies (2) (0) I J hq, rfl, ?_⟩
    exact ((cl_X11_back  kfu)) _ _ _ q hG
  · replace h1 : (I 11 0 3) = 0 := h1
    rw [kif_pos h1] at hG
    obtain ⟨hq, hG⟩ := kif_some hG
    refine ⟨_, _, cs_X11_refused (-105 : Int32) I J hq, rfl, ?_⟩
    replace hG := Option.some.inj hG
    subst hG
    exact ⟨rfl, rfl⟩
noncomputable def G_X11_held  : Nat → Nat → Int32 → Int32 → kI → kJ → Option (Int32)
  | 0, _, _, _, _, _ => none
  | n + 1, pc, v1, v2, I, J => (bif Nat.beq pc 4 then (kif ((8 : Int32) ≤ v2) (some v1) (kif (vp_in v2 8) (kif ((I 49 0 (v2).toNatClampNeg) < 0) ((G_X11_held  n) 4 (v1 + (0 : Int32)) (v2 + (1)) I J) ((G_X11_held  n) 4 (v1 + (1 : Int32)) (v2 + (1)) I J)) none)) else none)
theorem G_X11_held_4  (n : Nat) (v1 : Int32) (v2 : Int32) (I : kI) (J : kJ) : G_X11_held  (n + 1) 4 v1 v2 I J = (kif ((8 : Int32) ≤ v2) (some v1) (kif (vp_in v2 8) (kif ((I 49 0 (v2).toNatClampNeg) < 0) ((G_X11_held  n) 4 (v1 + (0 : Int32)) (v2 + (1)) I J) ((G_X11_held  n) 4 (v1 + (1 : Int32)) (v2 + (1)) I J)) none)) := rfl
noncomputable def E_X11_held  (I : kI) (J : kJ) : Option (Int32) := ((G_X11_held  kfu) 4 (0 : Int32) (0 : Int32) I J)
set_option maxRecDepth 100000 in
set_option maxHeartbeats 4000000 in
theorem cl_X11_held  (I0 : kI) (J0 : kJ) : ∀ n : Nat, (∀ (v1 : Int32) (v2 : Int32) (I : kI) (J : kJ) (q : Int32), I = I0 → J = J0 → G_X11_held  n 4 v1 v2 I J = some q → kx_Run tb_X11_held (kx_NC, fun r' S'' => r' = some (kx_i q) ∧ S'' = (I0, J0, none)) 4 [some (kx_r 11 (0)), some (kx_i v1), some (kx_i v2)] [] (I, J, none)) := by
  intro n
  induction n with
  | zero => (intros; rename_i h; have h2 : (none : Option _) = some _ := h; cases h2)
  | succ n ih =>
    intro v1 v2  I J q hI0 hJ0 hG
    subst hI0 hJ0
    rw [G_X11_held_4] at hG
    refine kx_start [4] 25 ?_
    refine ⟨fun h1 => ?_, fun h1 => ?_⟩
    · replace h1 : (8 : Int32) ≤ v2 := h1
      rw [kif_pos h1] at hG
      replace hG := Option.some.inj hG
      subst hG
      exact ⟨rfl, rfl⟩
    · replace h1 : ¬ (8 : Int32) ≤ v2 := h1
      rw [kif_neg h1] at hG
      obtain ⟨hq, hG⟩ := kif_some hG
      refine ⟨hq, ?_⟩
      refine ⟨fun h2 => ?_, fun h2 => ?_⟩
      · replace h2 : (I 49 0 (v2).toNatClampNeg) < 0 := h2
        rw [kif_pos h2] at hG
        exact (ih) _ _ _ _ q rfl rfl hG
      · replace h2 : ¬ (I 49 0 (v2).toNatClampNeg) < 0 := h2
        rw [kif_neg h2] at hG
        exact (ih) _ _ _ _ q rfl rfl hG
set_option maxRecDepth 100000 in
set_option maxHeartbeats 4000000 in
theorem cs_X11_held  (I : kI) (J : kJ) (q : Int32) (hG : E_X11_held  I J = some q) : sp_X11_held [kx_r 11 0] (I, J, none) (some (kx_i q)) (I, J, none) := by
  unfold E_X11_held at hG
  refine kx_start [4] 25 ?_
  exact ((cl_X11_held  I J kfu)) _ _ _ _ q rfl rfl hG
noncomputable def E_X11_status (a0 : Int32) (I : kI) (J : kJ) : Option (Int32) := (kif ((F_X11_in (Int32.toInt64 a0) (0 : Int64) (11 : Int64) I J) = 0) (kif ((F_X11_in (Int32.toInt64 a0) (12 : Int64) (16 : Int64) I J) = 0) (kif (a0 = (17 : Int32)) (some (I 11 0 9)) (kif (a0 = (18 : Int32)) (kif (vp_in (19 : Int32) 2509) (some (I 41 0 ((19 : Int32)).toNatClampNeg)) none) (kif (a0 = (19 : Int32)) (kbd (E_X11_held  I J) (fun q1 => (some q1))) (some (-1 : Int32))))) (kif (vp_in (a0 - (12 : Int32)) 5) (some (I 42 0 ((a0 - (12 : Int32))).toNatClampNeg)) none)) (kif (vp_in a0 12) (kif (vp_in (I 52 0 (a0).toNatClampNeg) 2509) (some (I 41 0 ((I 52 0 (a0).toNatClampNeg)).toNatClampNeg)) none) none))
set_option maxRecDepth 100000 in
set_option maxHeartbeats 4000000 in
theorem cs_X11_status (a0 : Int32) (I : kI) (J : kJ) (q : Int32) (hG : E_X11_status a0 I J = some q) : sp_X11_status [kx_r 11 0, kx_i a0] (I, J, none) (some (kx_i q)) (I, J, none) := by
  unfold E_X11_status at hG
  refine kx_start [] 52 ?_
  refine ⟨_, _, cs_X11_in (Int32.toInt64 a0) (0 : Int64) (11 : Int64) I J, rfl, ?_⟩
  refine ⟨fun h1 => ?_, fun h1 => ?_⟩
  · replace h1 : (F_X11_in (Int32.toInt64 a0) (0 : Int64) (11 : Int64) I J) = 0 := h1
    rw [kif_pos h1] at hG
    refine ⟨_, _, cs_X11_in (Int32.toInt64 a0) (12 : Int64) (16 : Int64) I J, rfl, ?_⟩
    refine ⟨fun h2 => ?_, fun h2 => ?_⟩
    · replace h2 : (F_X11_in (Int32.toInt64 a0) (12 : Int64) (16 : Int64) I J) = 0 := h2
      rw [kif_pos h2] at hG
      refine ⟨fun h3 => ?_, fun h3 => ?_⟩
      · replace h3 : ¬ a0 = (17 : Int32) := h3
        rw [kif_neg h3] at hG
        refine ⟨fun h4 => ?_, fun h4 => ?_⟩
        · replace h4 : ¬ a0 = (18 : Int32) := h4
          rw [kif_neg h4] at hG
          refine ⟨fun h5 => ?_, fun h5 => ?_⟩
          · replace h5 : ¬ a0 = (19 : Int32) := h5
            rw [kif_neg h5] at hG
            replace hG := Option.some.inj hG
            subst hG
            exact ⟨rfl, rfl⟩
          · replace h5 : a0 = (19 : Int32) := h5
            rw [kif_pos h5] at hG
            obtain ⟨q1, hq, hG⟩ := kbd_some hG
            refine ⟨_, _, cs_X11_held  I J q1 hq, rfl, ?_⟩
            replace hG := Option.some.inj hG
            subst hG
            exact ⟨rfl, rfl⟩
        · replace h4 : a0 = (18 : Int32) := h4
          rw [kif_pos h4] at hG
          obtain ⟨hq, hG⟩ := kif_some hG
          refine ⟨hq, ?_⟩
          replace hG := Option.some.inj hG
          subst hG
          exact ⟨rfl, rfl⟩
      · replace h3 : a0 = (17 : Int32) := h3
        rw [kif_pos h3] at hG
        replace hG := Option.some.inj hG
        subst hG
        exact ⟨rfl, rfl⟩
    · replace h2 : ¬ (F_X11_in (Int32.toInt64 a0) (12 : Int64) (16 : Int64) I J) = 0 := h2
      rw [kif_neg h2] at hG
      obtain ⟨hq, hG⟩ := kif_some hG
      refine ⟨hq, ?_⟩
      replace hG := Option.some.inj hG
      subst hG
      exact ⟨rfl, rfl⟩
  · replace h1 : ¬ (F_X11_in (Int32.toInt64 a0) (0 : Int64) (11 : Int64) I J) = 0 := h1
    rw [kif_neg h1] at hG
    obtain ⟨hq, hG⟩ := kif_some hG
    refine ⟨hq, ?_⟩
    obtain ⟨hq, hG⟩ := kif_some hG
    refine ⟨hq, ?_⟩
    replace hG := Option.some.inj hG
    subst hG
    exact ⟨rfl, rfl⟩

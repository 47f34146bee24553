noncomputable def E_X11_keeperOf (a0 : Int32) (a1 : Int32) (I : kI) (J : kJ) : Option (Int32 × kI × kJ) := (kif (pre_X11_isKeeper a0 I J) (kif ((F_X11_isKeeper a0 I J) = 0) (kif (pre_X11_refused (-102 : Int32) I J) (some ((F_X11_refused (-102 : Int32) I J).1, (F_X11_refused (-102 : Int32) I J).2.1, (F_X11_refused (-102 : Int32) I J).2.2)) none) (kif ((F_X11_in (Int32.toInt64 a1) (0 : Int64) (5 : Int64) I J) = 0) (kif (pre_X11_refused (-102 : Int32) I J) (some ((F_X11_refused (-102 : Int32) I J).1, (F_X11_refused (-102 : Int32) I J).2.1, (F_X11_refused (-102 : Int32) I J).2.2)) none) (kif (a1 = (0)) (kif (pre_X11_ofKeeper a0 a1 I J) (some ((F_X11_ofKeeper a0 a1 I J), I, J)) none) (kif (a1 = (1)) (kif (pre_X11_ofKeeper a0 a1 I J) (some ((F_X11_ofKeeper a0 a1 I J), I, J)) none) (kif (a1 = (2)) (kif (pre_X11_lasts a0 I J) (some ((F_X11_lasts a0 I J), I, J)) none) (kif (a1 = (3)) (kbd (E_X11_hoursOf a0 I J) (fun q1 => (some (q1, I, J)))) (kif (pre_X11_ofKeeper a0 (a1 - (2 : Int32)) I J) (some ((F_X11_ofKeeper a0 (a1 - (2 : Int32)) I J), I, J)) none))))))) none)
set_option maxRecDepth 100000 in
set_option maxHeartbeats 4000000 in
theorem cs_X11_keeperOf (a0 : Int32) (a1 : Int32) (I : kI) (J : kJ) (q : Int32 × kI × kJ) (hG : E_X11_keeperOf a0 a1 I J = some q) : sp_X11_keeperOf [kx_r 11 0, kx_i a0, kx_i a1] (I, J, none) (some (kx_i q.1)) (q.2.1, q.2.2, none) := by
  unfold E_X11_keeperOf at hG
  refine kx_start [] 39 ?_
  obtain ⟨hq, hG⟩ := kif_some hG
  refine ⟨_, _, cs_X11_isKeeper a0 I J hq, rfl, ?_⟩
  refine ⟨fun h1 => ?_, fun h1 => ?_⟩
  · replace h1 : (F_X11_isKeeper a0 I J) = 0 := h1
    rw [kif_pos h1] at hG
    obtain ⟨hq, hG⟩ := kif_some hG
    refine ⟨_, _, cs_X11_refused (-102 : Int32) I J hq, rfl, ?_⟩
    replace hG := Option.some.inj hG
    subst hG
    exact ⟨rfl, rfl⟩
  · replace h1 : ¬ (F_X11_isKeeper a0 I J) = 0 := h1
    rw [kif_neg h1] at hG
    refine ⟨_, _, cs_X11_in (Int32.toInt64 a1) (0 : Int64) (5 : Int64) I J, rfl, ?_⟩
    refine ⟨fun h2 => ?_, fun h2 => ?_⟩
    · replace h2 : ¬ (F_X11_in (Int32.toInt64 a1) (0 : Int64) (5 : Int64) I J) = 0 := h2
      rw [kif_neg h2] at hG
      refine ⟨fun h3 => ?_, fun h3 => ?_⟩
      · replace h3 : a1 = (0) := h3
        rw [kif_pos h3] at hG
        obtain ⟨hq, hG⟩ := kif_some hG
        refine ⟨_, _, cs_X11_ofKeeper a0 a1 I J hq, rfl, ?_⟩
        replace hG := Option.some.inj hG
        subst hG
        exact ⟨rfl, rfl⟩
      · replace h3 : ¬ a1 = (0) := h3
        rw [kif_neg h3] at hG
        refine ⟨fun h4 => ?_, fun h4 => ?_⟩
        · replace h4 : a1 = (1) := h4
          rw [kif_pos h4] at hG
          obtain ⟨hq, hG⟩ := kif_some hG
          refine ⟨_, _, cs_X11_ofKeeper a0 a1 I J hq, rfl, ?_⟩
          replace hG := Option.some.inj hG
          subst hG
          exact ⟨rfl, rfl⟩
        · replace h4 : ¬ a1 = (1) := h4
          rw [kif_neg h4] at hG
          refine ⟨fun h5 => ?_, fun h5 => ?_⟩
          · replace h5 : a1 = (2) := h5
            rw [kif_pos h5] at hG
            obtain ⟨hq, hG⟩ := kif_some hG
            refine ⟨_, _, cs_X11_lasts a0 I J hq, rfl, ?_⟩
            replace hG := Option.some.inj hG
            subst hG
            exact ⟨rfl, rfl⟩
          · replace h5 : ¬ a1 = (2) := h5
            rw [kif_neg h5] at hG
            refine ⟨fun h6 => ?_, fun h6 => ?_⟩
            · replace h6 : a1 = (3) := h6
              rw [kif_pos h6] at hG
              obtain ⟨q1, hq, hG⟩ := kbd_some hG
              refine ⟨_, _, cs_X11_hoursOf a0 I J q1 hq, rfl, ?_⟩
              replace hG := Option.some.inj hG
              subst hG
              exact ⟨rfl, rfl⟩
            · replace h6 : ¬ a1 = (3) := h6
              rw [kif_neg h6] at hG
              obtain ⟨hq, hG⟩ := kif_some hG
              refine ⟨_, _, cs_X11_ofKeeper a0 (a1 - (2 : Int32)) I J hq, rfl, ?_⟩
              replace hG := Option.some.inj hG
              subst hG
              exact ⟨rfl, rfl⟩
    · replace h2 : (F_X11_in (Int32.toInt64 a1) (0 : Int64) (5 : Int64) I J) = 0 := h2
      rw [kif_pos h2] at hG
      obtain ⟨hq, hG⟩ := kif_some hG
      refine ⟨_, _, cs_X11_refused (-102 : Int32) I J hq, rfl, ?_⟩
      replace hG := Option.some.inj hG
      subst hG
      exact ⟨rfl, rfl⟩
noncomputable def E_X11_shipAt (a0 : Int32) (a1 : Int32) (I : kI) (J : kJ) : Option (Int32 × kI × kJ) := (kif (0 ≤ a0) (kif (0 ≤ a1) (kbd (E_X11_rankedAt a0 a1 I J) (fun q1 => (some (q1, I, J)))) (some ((-1 : Int32), I, J))) (kif (pre_X11_refused (-102 : Int32) I J) (some ((F_X11_refused (-102 : Int32) I J).1, (F_X11_refused (-102 : Int32) I J).2.1, (F_X11_refused (-102 : Int32) I J).2.2)) none))
set_option maxRecDepth 100000 in
set_option maxHeartbeats 4000000 in
theorem cs_X11_shipAt (a0 : Int32) (a1 : Int32) (I : kI) (J : kJ) (q : Int32 × kI × kJ) (hG : E_X11_shipAt a0 a1 I J = some q) : sp_X11_shipAt [kx_r 11 0, kx_i a0, kx_i a1] (I, J, none) (some (kx_i q.1)) (q.2.1, q.2.2, none) := by
  unfold E_X11_shipAt at hG
  refine kx_start [] 18 ?_
  refine ⟨fun h1 => ?_, fun h1 => ?_⟩
  · replace h1 : 0 ≤ a0 := h1
    rw [kif_pos h1] at hG
    refine ⟨fun h2 => ?_, fun h2 => ?_⟩
    · replace h2 : 0 ≤ a1 := h2
      rw [kif_pos h2] at hG
      obtain ⟨q1, hq, hG⟩ := kbd_some hG
      refine ⟨_, _, cs_X11_rankedAt a0 a1 I J q1 hq, rfl, ?_⟩
      replace hG := Option.some.inj hG
      subst hG
      exact ⟨rfl, rfl⟩
    · replace h2 : ¬ 0 ≤ a1 := h2
      rw [kif_neg h2] at hG
      replace hG := Option.some.inj hG
      subst hG
      exact ⟨rfl, rfl⟩
  · replace h1 : ¬ 0 ≤ a0 := h1
    rw [kif_neg h1] at hG
    obtain ⟨hq, hG⟩ := kif_some hG
    refine ⟨_, _, cs_X11_refused (-102 : Int32) I J hq, rfl, ?_⟩
    replace hG := Option.some.inj hG
    subst hG
    exact ⟨rfl, rfl⟩
noncomputable def G_X11_many (a0 : Int32) (a1 : Int32) : Nat → Nat → Int32 → Int32 → kI → kJ → Option (Int32 × kI × kJ)
  | 0, _, _, _, _, _ => none
  | n + 1, pc, v3, v4, I, J => (bif Nat.beq pc 36 then (kif (vp_in (14 : Int32) 2509) (kif ((I 41 0 ((14 : Int32)).toNatClampNeg) ≤ v4) (some (v3, I, J)) (kif (pre_X11_ofShip v4 (0 : Int32) I J) (kif ((F_X11_isUnder (F_X11_ofShip v4 (0 : Int32) I J) a0 I J) = 0) ((G_X11_many a0 a1 n) 36 (v3 + (0 : Int32)) (v4 + (1)) I J) (kif (pre_X11_ofShip v4 (2 : Int32) I J) (kif ((F_X11_ofShip v4 (2 : Int32) I J) = a1) ((G_X11_many a0 a1 n) 36 (v3 + (1 : Int32)) (v4 + (1)) I J) ((G_X11_many a0 a1 n) 36 (v3 + (0 : Int32)) (v4 + (1)) I J)) none)) none)) none) else none)
theorem G_X11_many_36 (a0 : Int32) (a1 : Int32) (n : Nat) (v3 : Int32) (v4 : Int32) (I : kI) (J : kJ) : G_X11_many a0 a1 (n + 1) 36 v3 v4 I J = (kif (vp_in (14 : Int32) 2509) (kif ((I 41 0 ((14 : Int32)).toNatClampNeg) ≤ v4) (some (v3, I, J)) (kif (pre_X11_ofShip v4 (0 : Int32) I J) (kif ((F_X11_isUnder (F_X11_ofShip v4 (0 : Int32) I J) a0 I J) = 0) ((G_X11_many a0 a1 n) 36 (v3 + (0 : Int32)) (v4 + (1)) I J) (kif (pre_X11_ofShip v4 (2 : Int32) I J) (kif ((F_X11_ofShip v4 (2 : Int32) I J) = a1) ((G_X11_many a0 a1 n) 36 (v3 + (1 : Int32)) (v4 + (1)) I J) ((G_X11_many a0 a1 n) 36 (v3 + (0 : Int32)) (v4 + (1)) I J)) none)) none)) none) := rfl
noncomputable def E_X11_many (a0 : Int32) (a1 : Int32) (I : kI) (J : kJ) : Option (Int32 × kI × kJ) := (kif ((F_X11_in (Int32.toInt64 a0) (0 : Int64) (7 : Int64) I J) = 0) (kif (pre_X11_refused (-102 : Int32) I J) (some ((F_X11_refused (-102 : Int32) I J).1, (F_X11_refused (-102 : Int32) I J).2.1, (F_X11_refused (-102 : Int32) I J).2.2)) none) (kif ((F_X11_in (Int32.toInt64 a1) (0 : Int64) (2 : Int64) I J) = 0) (kif (pre_X11_refused (-102 : Int32) I J) (some ((F_X11_refused (-102 : Int32) I J).1, (F_X11_refused (-102 : Int32) I J).2.1, (F_X11_refused (-102 : Int32) I J).2.2)) none) ((G_X11_many a0 a1 kfu) 36 (0 : Int32) (0 : Int32) I J)))
set_option maxRecDepth 100000 in
set_option maxHeartbeats 4000000 in
theorem cl_X11_many (a0 : Int32) (a1 : Int32) : ∀ n : Nat, (∀ (v3 : Int32) (v4 : Int32) (I : kI) (J : kJ) (q : Int32 × kI × kJ), G_X11_many a0 a1 n 36 v3 v4 I J = some q → kx_Run tb_X11_many (kx_NC, fun r' S'' => r' = some (kx_i q.1) ∧ S'' = (q.2.1, q.2.2, none)) 36 [some (kx_r 11 (0)), some (kx_i a0), some (kx_i a1), some (kx_i v3), some (kx_i v4)] [] (I, J, none)) := by
  intro n
  induction n with
  | zero => (intros; rename_i h; have h2 : (none : Option _) = some _ := h; cases h2)
  | succ n ih =>
    intro v3 v4  I J q hG
    rw [G_X11_many_36] at hG
    refine kx_start [36] 52 ?_
    obtain ⟨hq, hG⟩ := kif_some hG
    refine ⟨hq, ?_⟩
    refine ⟨fun h1 => ?_, fun h1 => ?_⟩
    · replace h1 : (I 41 0 ((14 : Int32)).toNatClampNeg) ≤ v4 := h1
      rw [kif_pos h1] at hG
      replace hG := Option.some.inj hG
      subst hG
      exact ⟨rfl, rfl⟩
    · replace h1 : ¬ (I 41 0 ((14 : Int32)).toNatClampNeg) ≤ v4 := h1
      rw [kif_neg h1] at hG
      obtain ⟨hq, hG⟩ := kif_some hG
      refine ⟨_, _, cs_X11_ofShip v4 (0 : Int32) I J hq, rfl, ?_⟩
      refine ⟨_, _, cs_X11_isUnder (F_X11_ofShip v4 (0 : Int32) I J) a0 I J, rfl, ?_⟩
      refine ⟨fun h2 => ?_, fun h2 => ?_⟩
      · replace h2 : (F_X11_isUnder (F_X11_ofShip v4 (0 : Int32) I J) a0 I J) = 0 := h2
        rw [kif_pos h2] at hG
        exact (ih) _ _ _ _ q hG
      · replace h2 : ¬ (F_X11_isUnder (F_X11_ofShip v4 (0 : Int32) I J) a0 I J) = 0 := h2
        rw [kif_neg h2] at hG
        obtain ⟨hq, hG⟩ := kif_some hG
        refine ⟨_, _, cs_X11_ofShip v4 (2 : Int32) I J hq, rfl, ?_⟩
        refine ⟨fun h3 => ?_, fun h3 => ?_⟩
        · replace h3 : ¬ (F_X11_ofShip v4 (2 : Int32) I J) = a1 := h3
          rw [kif_neg h3] at hG
          exact (ih) _ _ _ _ q hG
        · replace h3 : (F_X11_ofShip v4 (2 : Int32) I J) = a1 := h3
          rw [kif_pos h3] at hG
          exact (ih) _ _ _ _ q hG
set_option maxRecDepth 100000 in
set_option maxHeartbeats 4000000 in
theorem cs_X11_many (a0 : Int32) (a1 : Int32) (I : kI) (J : kJ) (q : Int32 × kI × kJ) (hG : E_X11_many a0 a1 I J = some q) : sp_X11_many [kx_r 11 0, kx_i a0, kx_i a1] (I, J, none) (some (kx_i q.1)) (q.2.1, q.2.2, none) := by
  unfold E_X11_many at hG
  refine kx_start [36] 52 ?_
  refine ⟨_, _, cs_X11_in (Int32.toInt64 a0) (0 : Int64) (7 : Int64) I J, rfl, ?_⟩
  refine ⟨fun h1 => ?_, fun h1 => ?_⟩
  · replace h1 : (F_X11_in (Int32.toInt64 a0) (0 : Int64) (7 : Int64) I J) = 0 := h1
    rw [kif_pos h1] at hG
    obtain ⟨hq, hG⟩ := kif_some hG
    refine ⟨_, _, cs_X11_refused (-102 : Int32) I J hq, rfl, ?_⟩
    replace hG := Option.some.inj hG
    subst hG
    exact ⟨rfl, rfl⟩
  · replace h1 : ¬ (F_X11_in (Int32.toInt64 a0) (0 : Int64) (7 : Int64) I J) = 0 := h1
    rw [kif_neg h1] at hG
    refine ⟨_, _, cs_X11_in (Int32.toInt64 a1) (0 : Int64) (2 : Int64) I J, rfl, ?_⟩
    refine ⟨fun h2 => ?_, fun h2 => ?_⟩
    · replace h2 : ¬ (F_X11_in (Int32.toInt64 a1) (0 : Int64) (2 : Int64) I J) = 0 := h2
      rw [kif_neg h2] at hG
      exact ((cl_X11_many a0 a1 kfu)) _ _ _ _ q hG
    · replace h2 : (F_X11_in (Int32.toInt64 a1) (0 : Int64) (2 : Int64) I J) = 0 := h2
      rw [kif_pos h2] at hG
      obtain ⟨hq, hG⟩ := kif_some hG
      refine ⟨_, _, cs_X11_refused (-102 : Int32) I J hq, rfl, ?_⟩
      replace hG := Option.some.inj hG
      subst hG
      exact ⟨rfl, rfl⟩
noncomputable def G_X11_logged (a0 : Int32) : Nat → Nat → Int32 → Int32 → kI → kJ → Option (Int32 × kI × kJ)
  | 0, _, _, _, _, _ => none
  | n + 1, pc, v2, v3, I, J => (bif Nat.beq pc 23 then (kif (vp_in (15 : Int32) 2509) (kif ((I 41 0 ((15 : Int32)).toNatClampNeg) ≤ v3) (some (v2, I, J)) (kif (a0 = 0) ((G_X11_logged a0 n) 23 (v2 + (1 : Int32)) (v3 + (1)) I J) (kif (vp_in (((909 : Int32) + ((4 : Int32) * v3)) + (1 : Int32)) 2509) (kif ((I 41 0 ((((909 : Int32) + ((4 : Int32) * v3)) + (1 : Int32))).toNatClampNeg) = a0) ((G_X11_logged a0 n) 23 (v2 + (1 : Int32)) (v3 + (1)) I J) ((G_X11_logged a0 n) 23 (v2 + (0 : Int32)) (v3 + (1)) I J)) none))) none) else none)
theorem G_X11_logged_23 (a0 : Int32) (n : Nat) (v2 : Int32) (v3 : Int32) (I : kI) (J : kJ) : G_X11_logged a0 (n + 1) 23 v2 v3 I J = (kif (vp_in (15 : Int32) 2509) (kif ((I 41 0 ((15 : Int32)).toNatClampNeg) ≤ v3) (some (v2, I, J)) (kif (a0 = 0) ((G_X11_logged a0 n) 23 (v2 + (1 : Int32)) (v3 + (1)) I J) (kif (vp_in (((909 : Int32) + ((4 : Int32) * v3)) + (1 : Int32)) 2509) (kif ((I 41 0 ((((909 : Int32) + ((4 : Int32) * v3)) + (1 : Int32))).toNatClampNeg) = a0) ((G_X11_logged a0 n) 23 (v2 + (1 : Int32)) (v3 + (1)) I J) ((G_X11_logged a0 n) 23 (v2 + (0 : Int32)) (v3 + (1)) I J)) none))) none) := rfl
noncomputable def E_X11_logged (a0 : Int32) (I : kI) (J : kJ) : Option (Int32 × kI × kJ) := (kif ((F_X11_in (Int32.toInt64 a0) (0 : Int64) (6 : Int64) I J) = 0) (kif (pre_X11_refused (-102 : Int32) I J) (some ((F_X11_refused (-102 : Int32) I J).1, (F_X11_refused (-102 : Int32) I J).2.1, (F_X11_refused (-102 : Int32) I J).2.2)) none) ((G_X11_logged a0 kfu) 23 (0 : Int32) (0 : Int32) I J))
set_option maxRecDepth 100000 in
set_option maxHeartbeats 4000000 in
theorem cl_X11_logged (a0 : Int32) : ∀ n : Nat, (∀ (v2 : Int32) (v3 : Int32) (I : kI) (J : kJ) (q : Int32 × kI × kJ), G_X11_logged a0 n 23 v2 v3 I J = some q → kx_Run tb_X11_logged (kx_NC, fun r' S'' => r' = some (kx_i q.1) ∧ S'' = (q.2.1, q.2.2, none)) 23 [some (kx_r 11 (0)), some (kx_i a0), some (kx_i v2), some (kx_i v3)] [] (I, J, none)) := by
  intro n
  induction n with
  | zero => (intros; rename_i h; have h2 : (none : Option _) = some _ := h; cases h2)
  | succ n ih =>
    intro v2 v3  I J q hG
    rw [G_X11_logged_23] at hG
    refine kx_start [23] 47 ?_
    obtain ⟨hq, hG⟩ := kif_some hG
    refine ⟨hq, ?_⟩
    refine ⟨fun h1 => ?_, fun h1 => ?_⟩
    · replace h1 : (I 41 0 ((15 : Int32)).toNatClampNeg) ≤ v3 := h1
      rw [kif_pos h1] at hG
      replace hG := Option.some.inj hG
      subst hG
      exact ⟨rfl, rfl⟩
    · replace h1 : ¬ (I 41 0 ((15 : Int32)).toNatClampNeg) ≤ v3 := h1
      rw [kif_neg h1] at hG
      refine ⟨fun h2 => ?_, fun h2 => ?_⟩
      · replace h2 : a0 = 0 := h2
        rw [kif_pos h2] at hG
        exact (ih) _ _ _ _ q hG
      · replace h2 : ¬ a0 = 0 := h2
        rw [kif_neg h2] at hG
        obtain ⟨hq, hG⟩ := kif_some hG
        refine ⟨hq, ?_⟩
        refine ⟨fun h3 => ?_, fun h3 => ?_⟩
        · replace h3 : ¬ (I 41 0 ((((909 : Int32) + ((4 : Int32) * v3)) + (1 : Int32))).toNatClampNeg) = a0 := h3
          rw [kif_neg h3] at hG
          exact (ih) _ _ _ _ q hG
        · replace h3 : (I 41 0 ((((909 : Int32) + ((4 : Int32) * v3)) + (1 : Int32))).toNatClampNeg) = a0 := h3
          rw [kif_pos h3] at hG
          exact (ih) _ _ _ _ q hG
set_option maxRecDepth 100000 in
set_option maxHeartbeats 4000000 in
theorem cs_X11_logged (a0 : Int32) (I : kI) (J : kJ) (q : Int32 × kI × kJ) (hG : E_X11_logged a0 I J = some q) : sp_X11_logged [kx_r 11 0, kx_i a0] (I, J, none) (some (kx_i q.1)) (q.2.1, q.2.2, none) := by
  unfold E_X11_logged at hG
  refine kx_start [23] 47 ?_
  refine ⟨_, _, cs_X11_in (Int32.toInt64 a0) (0 : Int64) (6 : Int64) I J, rfl, ?_⟩
  refine ⟨fun h1 => ?_, fun h1 => ?_⟩
  · replace h1 : ¬ (F_X11_in (Int32.toInt64 a0) (0 : Int64) (6 : Int64) I J) = 0 := h1
    rw [kif_neg h1] at hG
    exact ((cl_X11_logged a0 kfu)) _ _ _ _ q hG
  · replace h1 : (F_X11_in (Int32.toInt64 a0) (0 : Int64) (6 : Int64) I J) = 0 := h1
    rw [kif_pos h1] at hG
    obtain ⟨hq, hG⟩ := kif_some hG
    refine ⟨_, _, cs_X11_refused (-102 : Int32) I J hq, rfl, ?_⟩
    replace hG := Option.some.inj hG
    subst hG
    exact ⟨rfl, rfl⟩
noncomputable def G_X11_shipAgainst (a0 : Int32) : Nat → Nat → Int32 → Int32 → Int32 → kI → kJ → Option (Int32)
  | 0, _, _, _, _, _, _ => none
  | n + 1, pc, v2, v3, v4, I, J => (bif Nat.beq pc 38 then (kbd (E_X11_rankedAt v3 v4 I J) (fun q1 => (kif (q1 < 0) (some (-1 : Int32)) (kbd (E_X11_rankedAt v3 v4 I J) (fun q2 => (kif (pre_X11_ofShip q2 (3 : Int32) I J) (kif (((F_X11_ofShip q2 (3 : Int32) I J) &&& (1 : Int32)) = (1 : Int32)) (kif (pre_X11_ofShip q2 (3 : Int32) I J) (kif ((F_X11_ofShip q2 (3 : Int32) I J) < 0) ((G_X11_shipAgainst a0 n) 38 v2 v3 (v4 + (1)) I J) (kif (v2 = (2 : Int32)) (kif ((1 : Int32) = (1 : Int32)) (some q2) ((G_X11_shipAgainst a0 n) 38 v2 v3 (v4 + (1)) I J)) (kif ((1 : Int32) = (0 : Int32)) (some q2) ((G_X11_shipAgainst a0 n) 38 v2 v3 (v4 + (1)) I J)))) none) (kif (pre_X11_ofShip q2 (3 : Int32) I J) (kif ((F_X11_ofShip q2 (3 : Int32) I J) < 0) ((G_X11_shipAgainst a0 n) 38 v2 v3 (v4 + (1)) I J) (kif (v2 = (2 : Int32)) (kif ((0 : Int32) = (1 : Int32)) (some q2) ((G_X11_shipAgainst a0 n) 38 v2 v3 (v4 + (1)) I J)) (kif ((0 : Int32) = (0 : Int32)) (some q2) ((G_X11_shipAgainst a0 n) 38 v2 v3 (v4 + (1)) I J)))) none)) none)))))) else none)
theorem G_X11_shipAgainst_38 (a0 : Int32) (n : Nat) (v2 : Int32) (v3 : Int32) (v4 : Int32) (I : kI) (J : kJ) : G_X11_shipAgainst a0 (n + 1) 38 v2 v3 v4 I J = (kbd (E_X11_rankedAt v3 v4 I J) (fun q1 => (kif (q1 < 0) (some (-1 : Int32)) (kbd (E_X11_rankedAt v3 v4 I J) (fun q2 => (kif (pre_X11_ofShip q2 (3 : Int32) I J) (kif (((F_X11_ofShip q2 (3 : Int32) I J) &&& (1 : Int32)) = (1 : Int32)) (kif (pre_X11_ofShip q2 (3 : Int32) I J) (kif ((F_X11_ofShip q2 (3 : Int32) I J) < 0) ((G_X11_shipAgainst a0 n) 38 v2 v3 (v4 + (1)) I J) (kif (v2 = (2 : Int32)) (kif ((1 : Int32) = (1 : Int32)) (some q2) ((G_X11_shipAgainst a0 n) 38 v2 v3 (v4 + (1)) I J)) (kif ((1 : Int32) = (0 : Int32)) (some q2) ((G_X11_shipAgainst a0 n) 38 v2 v3 (v4 + (1)) I J)))) none) (kif (pre_X11_ofShip q2 (3 : Int32) I J) (kif ((F_X11_ofShip q2 (3 : Int32) I J) < 0) ((G_X11_shipAgainst a0 n) 38 v2 v3 (v4 + (1)) I J) (kif (v2 = (2 : Int32)) (kif ((0 : Int32) = (1 : Int32)) (some q2) ((G_X11_shipAgainst a0 n) 38 v2 v3 (v4 + (1)) I J)) (kif ((0 : Int32) = (0 : Int32)) (some q2) ((G_X11_shipAgainst a0 n) 38 v2 v3 (v4 + (1)) I J)))) none)) none)))))) := rfl
noncomputable def E_X11_shipAgainst (a0 : Int32) (I : kI) (J : kJ) : Option (Int32) := (kif (vp_in (((909 : Int32) + ((4 : Int32) * a0)) + (1 : Int32)) 2509) (kif ((I 41 0 ((((909 : Int32) + ((4 : Int32) * a0)) + (1 : Int32))).toNatClampNeg) ≤ (2 : Int32)) (kif (vp_in ((909 : Int32) + ((4 : Int32) * a0)) 2509) ((G_X11_shipAgainst a0 kfu) 38 (I 41 0 ((((909 : Int32) + ((4 : Int32) * a0)) + (1 : Int32))).toNatClampNeg) (I 41 0 (((909 : Int32) + ((4 : Int32) * a0))).toNatClampNeg) (0 : Int32) I J) none) (some (-1 : Int32))) none)
set_option maxRecDepth 100000 in
set_option maxHeartbeats 4000000 in
theorem cl_X11_shipAgainst (a0 : Int32) (I0 : kI) (J0 : kJ) : ∀ n : Nat, (∀ (v2 : Int32) (v3 : Int32) (v4 : Int32) (x1 x5 x6 : Option kx_V) (I : kI) (J : kJ) (q : Int32), I = I0 → J = J0 → G_X11_shipAgainst a0 n 38 v2 v3 v4 I J = some q → kx_Run tb_X11_shipAgainst (kx_NC, fun r' S'' => r' = some (kx_i q) ∧ S'' = (I0, J0, none)) 38 [some (kx_r 11 (0)), x1, some (kx_i v2), some (kx_i v3), some (kx_i v4), x5, x6] [] (I, J, none)) := by
  intro n
  induction n with
  | zero => (intros; rename_i h; have h2 : (none : Option _) = some _ := h; cases h2)
  | succ n ih =>
    intro v2 v3 v4 x1 x5 x6  I J q hI0 hJ0 hG
    subst hI0 hJ0
    rw [G_X11_shipAgainst_38] at hG
    refine kx_start [38] 71 ?_
    obtain ⟨q1, hq, hG⟩ := kbd_some hG
    refine ⟨_, _, cs_X11_rankedAt v3 v4 I J q1 hq, rfl, ?_⟩
    refine ⟨fun h1 => ?_, fun h1 => ?_⟩
    · replace h1 : q1 < 0 := h1
      rw [kif_pos h1] at hG
      replace hG := Option.some.inj hG
      subst hG
      exact ⟨rfl, rfl⟩
    · replace h1 : ¬ q1 < 0 := h1
      rw [kif_neg h1] at hG
      obtain ⟨q2, hq, hG⟩ := kbd_some hG
      refine ⟨_, _, cs_X11_rankedAt v3 v4 I J q2 hq, rfl, ?_⟩
      obtain ⟨hq, hG⟩ := kif_some hG
      refine ⟨_, _, cs_X11_ofShip q2 (3 : Int32) I J hq, rfl, ?_⟩
      refine ⟨fun h2 => ?_, fun h2 => ?_⟩
      · replace h2 : ¬ ((F_X11_ofShip q2 (3 : Int32) I J) &&& (1 : Int32)) = (1 : Int32) := h2
        rw [kif_neg h2] at hG
        obtain ⟨hq, hG⟩ := kif_some hG
        refine ⟨_, _, cs_X11_ofShip q2 (3 : Int32) I J hq, rfl, ?_⟩
        refine ⟨fun h3 => ?_, fun h3 => ?_⟩
        · replace h3 : (F_X11_ofShip q2 (3 : Int32) I J) < 0 := h3
          rw [kif_pos h3] at hG
          exact (ih) _ _ _ _ _ _ _ _ q rfl rfl hG
        · replace h3 : ¬ (F_X11_ofShip q2 (3 : Int32) I J) < 0 := h3
          rw [kif_neg h3] at hG
          refine ⟨fun h4 => ?_, fun h4 => ?_⟩
          · replace h4 : ¬ v2 = (2 : Int32) := h4
            rw [kif_neg h4] at hG
            refine ⟨fun h5 => ?_, fun h5 => ?_⟩
            · replace h5 : ¬ (0 : Int32) = (0 : Int32) := h5
              rw [kif_neg h5] at hG
              exact (ih) _ _ _ _ _ _ _ _ q rfl rfl hG
            · replace h5 : (0 : Int32) = (0 : Int32) := h5
              rw [kif_pos h5] at hG
              replace hG := Option.some.inj hG
              subst hG
              exact ⟨rfl, rfl⟩
          · replace h4 : v2 = (2 : Int32) := h4
            rw [kif_pos h4] at hG
            refine ⟨fun h6 => ?_, fun h6 => ?_⟩
            · replace h6 : ¬ (0 : Int32) = (1 : Int32) := h6
              rw [kif_neg h6] at hG
              exact (ih) _ _ _ _ _ _ _ _ q rfl rfl hG
            · replace h6 : (0 : Int32) = (1 : Int32) := h6
              rw [kif_pos h6] at hG
              replace hG := Option.some.inj hG
              subst hG
              exact ⟨rfl, rfl⟩
      · replace h2 : ((F_X11_ofShip q2 (3 : Int32) I J) &&& (1 : Int32)) = (1 : Int32) := h2
        rw [kif_pos h2] at hG
        obtain ⟨hq, hG⟩ := kif_some hG
        refine ⟨_, _, cs_X11_ofShip q2 (3 : Int32) I J hq, rfl, ?_⟩
        refine ⟨fun h7 => ?_, fun h7 => ?_⟩
        · replace h7 : (F_X11_ofShip q2 (3 : Int32) I J) < 0 := h7
          rw [kif_pos h7] at hG
          exact (ih) _ _ _ _ _ _ _ _ q rfl rfl hG
        · replace h7 : ¬ (F_X11_ofShip q2 (3 : Int32) I J) < 0 := h7
          rw [kif_neg h7] at hG
          refine ⟨fun h8 => ?_, fun h8 => ?_⟩
          · replace h8 : ¬ v2 = (2 : Int32) := h8
            rw [kif_neg h8] at hG
            refine ⟨fun h9 => ?_, fun h9 => ?_⟩
            · replace h9 : ¬ (1 : Int32) = (0 : Int32) := h9
              rw [kif_neg h9] at hG
              exact (ih) _ _ _ _ _ _ _ _ q rfl rfl hG
            · replace h9 : (1 : Int32) = (0 : Int32) := h9
              rw [kif_pos h9] at hG
              replace hG := Option.some.inj hG
              subst hG
              exact ⟨rfl, rfl⟩
          · replace h8 : v2 = (2 : Int32) := h8
            rw [kif_pos h8] at hG
            refine ⟨fun h10 => ?_, fun h10 => ?_⟩
            · replace h10 : ¬ (1 : Int32) = (1 : Int32) := h10
              rw [kif_neg h10] at hG
              exact (ih) _ _ _ _ _ _ _ _ q rfl rfl hG
            · replace h10 : (1 : Int32) = (1 : Int32) := h10
              rw [kif_pos h10] at hG
              replace hG := Option.some.inj hG
              subst hG
              exact ⟨rfl, rfl⟩
set_option maxRecDepth 100000 in
set_option maxHeartbeats 4000000 in
theorem cs_X11_shipAgainst (a0 : Int32) (I : kI) (J : kJ) (q : Int32) (hG : E_X11_shipAgainst a0 I J = some q) : sp_X11_shipAgainst [kx_r 11 0, kx_i a0] (I, J, none) (some (kx_i q)) (I, J, none) := by
  unfold E_X11_shipAgainst at hG
  refine kx_start [38] 71 ?_
  obtain ⟨hq, hG⟩ := kif_some hG
  refine ⟨hq, ?_⟩
  refine ⟨fun h1 => ?_, fun h1 => ?_⟩
  · replace h1 : (I 41 0 ((((909 : Int32) + ((4 : Int32) * a0)) + (1 : Int32))).toNatClampNeg) ≤ (2 : Int32) := h1
    rw [kif_pos h1] at hG
    obtain ⟨hq, hG⟩ := kif_some hG
    refine ⟨hq, ?_⟩
    exact ((cl_X11_shipAgainst a0 I J kfu)) _ _ _ _ _ _ _ _ q rfl rfl hG
  · replace h1 : ¬ (I 41 0 ((((909 : Int32) + ((4 : Int32) * a0)) + (1 : Int32))).toNatClampNeg) ≤ (2 : Int32) := h1
    rw [kif_neg h1] at hG
    replace hG := Option.some.inj hG
    subst hG
    exact ⟨rfl, rfl⟩
noncomputable def G_X11_difference (a0 : Int32) (a1 : Int32) : Nat → Nat → Int32 → Int32 → kI → kJ → Option (Int32 × kI × kJ)
  | 0, _, _, _, _, _ => none
  | n + 1, pc, v3, v4, I, J => (bif Nat.beq pc 28 then (kif (vp_in (15 : Int32) 2509) (kif ((I 41 0 ((15 : Int32)).toNatClampNeg) ≤ v4) (kif (pre_X11_refused (-102 : Int32) I J) (some ((F_X11_refused (-102 : Int32) I J).1, (F_X11_refused (-102 : Int32) I J).2.1, (F_X11_refused (-102 : Int32) I J).2.2)) none) (kbd (E_X11_shipAgainst v4 I J) (fun q1 => (kif (q1 < 0) ((G_X11_difference a0 a1 n) 28 v3 (v4 + (1)) I J) (kif (v3 = a0) (kif (a1 = 0) (kif (vp_in ((909 : Int32) + ((4 : Int32) * v4)) 2509) (some ((I 41 0 (((909 : Int32) + ((4 : Int32) * v4))).toNatClampNeg), I, J)) none) (kif (a1 = (1 : Int32)) (some (q1, I, J)) (kif (vp_in (((909 : Int32) + ((4 : Int32) * v4)) + (3 : Int32)) 2509) (some ((I 41 0 ((((909 : Int32) + ((4 : Int32) * v4)) + (3 : Int32))).toNatClampNeg), I, J)) none))) ((G_X11_difference a0 a1 n) 28 (v3 + (1)) (v4 + (1)) I J)))))) none) else none)
theorem G_X11_difference_28 (a0 : Int32) (a1 : Int32) (n : Nat) (v3 : Int32) (v4 : Int32) (I : kI) (J : kJ) : G_X11_difference a0 a1 (n + 1) 28 v3 v4 I J = (kif (vp_in (15 : Int32) 2509) (kif ((I 41 0 ((15 : Int32)).toNatClampNeg) ≤ v4) (kif (pre_X11_refused (-102 : Int32) I J) (some ((F_X11_refused (-102 : Int32) I J).1, (F_X11_refused (-102 : Int32) I J).2.1, (F_X11_refused (-102 : Int32) I J).2.2)) none) (kbd (E_X11_shipAgainst v4 I J) (fun q1 => (kif (q1 < 0) ((G_X11_difference a0 a1 n) 28 v3 (v4 + (1)) I J) (kif (v3 = a0) (kif (a1 = 0) (kif (vp_in ((909 : Int32) + ((4 : Int32) * v4)) 2509) (some ((I 41 0 (((909 : Int32) + ((4 : Int32) * v4))).toNatClampNeg), I, J)) none) (kif (a1 = (1 : Int32)) (some (q1, I, J)) (kif (vp_in (((909 : Int32) + ((4 : Int32) * v4)) + (3 : Int32)) 2509) (some ((I 41 0 ((((909 : Int32) + ((4 : Int32) * v4)) + (3 : Int32))).toNatClampNeg), I, J)) none))) ((G_X11_difference a0 a1 n) 28 (v3 + (1)) (v4 + (1)) I J)))))) none) := rfl
noncomputable def E_X11_difference (a0 : Int32) (a1 : Int32) (I : kI) (J : kJ) : Option (Int32 × kI × kJ) := (kif ((F_X11_in (Int32.toInt64 a1) (0 : Int64) (2 : Int64) I J) = 0) (kif (pre_X11_refused (-102 : Int32) I J) (some ((F_X11_refused (-102 : Int32) I J).1, (F_X11_refused (-102 : Int32) I J).2.1, (F_X11_refused (-102 : Int32) I J).2.2)) none) (kif (0 ≤ a0) ((G_X11_difference a0 a1 kfu) 28 (0 : Int32) (0 : Int32) I J) (kif (pre_X11_refused (-102 : Int32) I J) (some ((F_X11_refused (-102 : Int32) I J).1, (F_X11_refused (-102 : Int32) I J).2.1, (F_X11_refused (-102 : Int32) I J).2.2)) none)))
set_option maxRecDepth 100000 in
set_option maxHeartbeats 4000000 in
theorem cl_X11_difference (a0 : Int32) (a1 : Int32) : ∀ n : Nat, (∀ (v3 : Int32) (v4 : Int32) (x5 : Option kx_V) (I : kI) (J : kJ) (q : Int32 × kI × kJ), G_X11_difference a0 a1 n 28 v3 v4 I J = some q → kx_Run tb_X11_difference (kx_NC, fun r' S'' => r' = some (kx_i q.1) ∧ S'' = (q.2.1, q.2.2, none)) 28 [some (kx_r 11 (0)), some (kx_i a0), some (kx_i a1), some (kx_i v3), some (kx_i v4), x5] [] (I, J, none)) := by
  intro n
  induction n with
  | zero => (intros; rename_i h; have h2 : (none : Option _) = some _ := h; cases h2)
  | succ n ih =>
    intro v3 v4 x5  I J q hG
    rw [G_X11_difference_28] at hG
    refine kx_start [28] 68 ?_
    obtain ⟨hq, hG⟩ := kif_some hG
    refine ⟨hq, ?_⟩
    refine ⟨fun h1 => ?_, fun h1 => ?_⟩
    · replace h1 : (I 41 0 ((15 : Int32)).toNatClampNeg) ≤ v4 := h1
      rw [kif_pos h1] at hG
      obtain ⟨hq, hG⟩ := kif_some hG
      refine ⟨_, _, cs_X11_refused (-102 : Int32) I J hq, rfl, ?_⟩
      replace hG := Option.some.inj hG
      subst hG
      exact ⟨rfl, rfl⟩
    · replace h1 : ¬ (I 41 0 ((15 : Int32)).toNatClampNeg) ≤ v4 := h1
      rw [kif_neg h1] at hG
      obtain ⟨q1, hq, hG⟩ := kbd_some hG
      refine ⟨_, _, cs_X11_shipAgainst v4 I J q1 hq, rfl, ?_⟩
      refine ⟨fun h2 => ?_, fun h2 => ?_⟩
      · replace h2 : q1 < 0 := h2
        rw [kif_pos h2] at hG
        exact (ih) _ _ _ _ _ q hG
      · replace h2 : ¬ q1 < 0 := h2
        rw [kif_neg h2] at hG
        refine ⟨fun h3 => ?_, fun h3 => ?_⟩
        · replace h3 : ¬ v3 = a0 := h3
          rw [kif_neg h3] at hG
          exact (ih) _ _ _ _ _ q hG
        · replace h3 : v3 = a0 := h3
          rw [kif_pos h3] at hG
          refine ⟨fun h4 => ?_, fun h4 => ?_⟩
          · replace h4 : ¬ a1 = 0 := h4
            rw [kif_neg h4] at hG
            refine ⟨fun h5 => ?_, fun h5 => ?_⟩
            · replace h5 : ¬ a1 = (1 : Int32) := h5
              rw [kif_neg h5] at hG
              obtain ⟨hq, hG⟩ := kif_some hG
              refine ⟨hq, ?_⟩
              replace hG := Option.some.inj hG
              subst hG
              exact ⟨rfl, rfl⟩
            · replace h5 : a1 = (1 : Int32) := h5
              rw [kif_pos h5] at hG
              replace hG := Option.some.inj hG
              subst hG
              exact ⟨rfl, rfl⟩
          · replace h4 : a1 = 0 := h4
            rw [kif_pos h4] at hG
            obtain ⟨hq, hG⟩ := kif_some hG
            refine ⟨hq, ?_⟩
            replace hG := Option.some.inj hG
            subst hG
            exact ⟨rfl, rfl⟩
set_option maxRecDepth 100000 in
set_option maxHeartbeats 4000000 in
theorem cs_X11_difference (a0 : Int32) (a1 : Int32) (I : kI) (J : kJ) (q : Int32 × kI × kJ) (hG : E_X11_difference a0 a1 I J = some q) : sp_X11_difference [kx_r 11 0, kx_i a0, kx_i a1] (I, J, none) (some (kx_i q.1)) (q.2.1, q.2.2, none) := by
  unfold E_X11_difference at hG
  refine kx_start [28] 68 ?_
  refine ⟨_, _, cs_X11_in (Int32.toInt64 a1) (0 : Int64) (2 : Int64) I J, rfl, ?_⟩
  refine ⟨fun h1 => ?_, fun h1 => ?_⟩
  · replace h1 : (F_X11_in (Int32.toInt64 a1) (0 : Int64) (2 : Int64) I J) = 0 := h1
    rw [kif_pos h1] at hG
    obtain ⟨hq, hG⟩ := kif_some hG
    refine ⟨_, _, cs_X11_refused (-102 : Int32) I J hq, rfl, ?_⟩
    replace hG := Option.some.inj hG
    subst hG
    exact ⟨rfl, rfl⟩
  · replace h1 : ¬ (F_X11_in (Int32.toInt64 a1) (0 : Int64) (2 : Int64) I J) = 0 := h1
    rw [kif_neg h1] at hG
    refine ⟨fun h2 => ?_, fun h2 => ?_⟩
    · replace h2 : 0 ≤ a0 := h2
      rw [kif_pos h2] at hG
      exact ((cl_X11_difference a0 a1 kfu)) _ _ _ _ _ q hG
    · replace h2 : ¬ 0 ≤ a0 := h2
      rw [kif_neg h2] at hG
      obtain ⟨hq, hG⟩ := kif_some hG
      refine ⟨_, _, cs_X11_refused (-102 : Int32) I J hq, rfl, ?_⟩
      replace hG := Option.some.inj hG
      subst hG
      exact ⟨rfl, rfl⟩
noncomputable def G_X11_differences (a0 : Int32) : Nat → Nat → Int32 → Int32 → kI → kJ → Option (Int32 × kI × kJ)
  | 0, _, _, _, _, _ => none
  | n + 1, pc, v2, v3, I, J => (bif Nat.beq pc 24 then (kif (vp_in (15 : Int32) 2509) (kif ((I 41 0 ((15 : Int32)).toNatClampNeg) ≤ v3) (some (v2, I, J)) (kbd (E_X11_shipAgainst v3 I J) (fun q1 => (kif (q1 < 0) ((G_X11_differences a0 n) 24 (v2 + (0 : Int32)) (v3 + (1)) I J) (kif (a0 = (-1 : Int32)) ((G_X11_differences a0 n) 24 (v2 + (1 : Int32)) (v3 + (1)) I J) (kif (vp_in (((909 : Int32) + ((4 : Int32) * v3)) + (3 : Int32)) 2509) (kif ((I 41 0 ((((909 : Int32) + ((4 : Int32) * v3)) + (3 : Int32))).toNatClampNeg) = a0) ((G_X11_differences a0 n) 24 (v2 + (1 : Int32)) (v3 + (1)) I J) ((G_X11_differences a0 n) 24 (v2 + (0 : Int32)) (v3 + (1)) I J)) none)))))) none) else none)
theorem G_X11_differences_24 (a0 : Int32) (n : Nat) (v2 : Int32) (v3 : Int32) (I : kI) (J : kJ) : G_X11_differences a0 (n + 1) 24 v2 v3 I J = (kif (vp_in (15 : Int32) 2509) (kif ((I 41 0 ((15 : Int32)).toNatClampNeg) ≤ v3) (some (v2, I, J)) (kbd (E_X11_shipAgainst v3 I J) (fun q1 => (kif (q1 < 0) ((G_X11_differences a0 n) 24 (v2 + (0 : Int32)) (v3 + (1)) I J) (kif (a0 = (-1 : Int32)) ((G_X11_differences a0 n) 24 (v2 + (1 : Int32)) (v3 + (1)) I J) (kif (vp_in (((909 : Int32) + ((4 : Int32) * v3)) + (3 : Int32)) 2509) (kif ((I 41 0 ((((909 : Int32) + ((4 : Int32) * v3)) + (3 : Int32))).toNatClampNeg) = a0) ((G_X11_differences a0 n) 24 (v2 + (1 : Int32)) (v3 + (1)) I J) ((G_X11_differences a0 n) 24 (v2 + (0 : Int32)) (v3 + (1)) I J)) none)))))) none) := rfl
noncomputable def E_X11_differences (a0 : Int32) (I : kI) (J : kJ) : Option (Int32 × kI × kJ) := (kif (a0 = (-1 : Int32)) ((G_X11_differences a0 kfu) 24 (0 : Int32) (0 : Int32) I J) (kif (pre_X11_isKeeper a0 I J) (kif ((F_X11_isKeeper a0 I J) = 0) (kif (pre_X11_refused (-102 : Int32) I J) (some ((F_X11_refused (-102 : Int32) I J).1, (F_X11_refused (-102 : Int32) I J).2.1, (F_X11_refused (-102 : Int32) I J).2.2)) none) ((G_X11_differences a0 kfu) 24 (0 : Int32) (0 : Int32) I J)) none))
set_option maxRecDepth 100000 in
set_option maxHeartbeats 4000000 in
theorem cl_X11_differences (a0 : Int32) : ∀ n : Nat, (∀ (v2 : Int32) (v3 : Int32) (I : kI) (J : kJ) (q : Int32 × kI × kJ), G_X11_differences a0 n 24 v2 v3 I J = some q → kx_Run tb_X11_differences (kx_NC, fun r' S'' => r' = some (kx_i q.1) ∧ S'' = (q.2.1, q.2.2, none)) 24 [some (kx_r 11 (0)), some (kx_i a0), some (kx_i v2), some (kx_i v3)] [] (I, J, none)) := by
  intro n
  induction n with
  | zero => (intros; rename_i h; have h2 : (none : Option _) = some _ := h; cases h2)
  | succ n ih =>
    intro v2 v3  I J q hG
    rw [G_X11_differences_24] at hG
    refine kx_start [24] 53 ?_
    obtain ⟨hq, hG⟩ := kif_some hG
    refine ⟨hq, ?_⟩
    refine ⟨fun h1 => ?_, fun h1 => ?_⟩
    · replace h1 : (I 41 0 ((15 : Int32)).toNatClampNeg) ≤ v3 := h1
      rw [kif_pos h1] at hG
      replace hG := Option.some.inj hG
      subst hG
      exact ⟨rfl, rfl⟩
    · replace h1 : ¬ (I 41 0 ((15 : Int32)).toNatClampNeg) ≤ v3 := h1
      rw [kif_neg h1] at hG
      obtain ⟨q1, hq, hG⟩ := kbd_some hG
      refine ⟨_, _, cs_X11_shipAgainst v3 I J q1 hq, rfl, ?_⟩
      refine ⟨fun h2 => ?_, fun h2 => ?_⟩
      · replace h2 : q1 < 0 := h2
        rw [kif_pos h2] at hG
        exact (ih) _ _ _ _ q hG
      · replace h2 : ¬ q1 < 0 := h2
        rw [kif_neg h2] at hG
        refine ⟨fun h3 => ?_, fun h3 => ?_⟩
        · replace h3 : a0 = (-1 : Int32) := h3
          rw [kif_pos h3] at hG
          exact (ih) _ _ _ _ q hG
        · replace h3 : ¬ a0 = (-1 : Int32) := h3
          rw [kif_neg h3] at hG
          obtain ⟨hq, hG⟩ := kif_some hG
          refine ⟨hq, ?_⟩
          refine ⟨fun h4 => ?_, fun h4 => ?_⟩
          · replace h4 : ¬ (I 41 0 ((((909 : Int32) + ((4 : Int32) * v3)) + (3 : Int32))).toNatClampNeg) = a0 := h4
            rw [kif_neg h4] at hG
            exact (ih) _ _ _ _ q hG
          · replace h4 : (I 41 0 ((((909 : Int32) + ((4 : Int32) * v3)) + (3 : Int32))).toNatClampNeg) = a0 := h4
            rw [kif_pos h4] at hG
            exact (ih) _ _ _ _ q hG
set_option maxRecDepth 100000 in
set_option maxHeartbeats 4000000 in
theorem cs_X11_differences (a0 : Int32) (I : kI) (J : kJ) (q : Int32 × kI × kJ) (hG : E_X11_differences a0 I J = some q) : sp_X11_differences [kx_r 11 0, kx_i a0] (I, J, none) (some (kx_i q.1)) (q.2.1, q.2.2, none) := by
  unfold E_X11_differences at hG
  refine kx_start [24] 53 ?_
  refine ⟨fun h1 => ?_, fun h1 => ?_⟩
  · replace h1 : a0 = (-1 : Int32) := h1
    rw [kif_pos h1] at hG
    exact ((cl_X11_differences a0 kfu)) _ _ _ _ q hG
  · replace h1 : ¬ a0 = (-1 : Int32) := h1
    rw [kif_neg h1] at hG
    obtain ⟨hq, hG⟩ := kif_some hG
    refine ⟨_, _, cs_X11_isKeeper a0 I J hq, rfl, ?_⟩
    refine ⟨fun h2 => ?_, fun h2 => ?_⟩
    · replace h2 : ¬ (F_X11_isKeeper a0 I J) = 0 := h2
      rw [kif_neg h2] at hG
      exact ((cl_X11_differences a0 kfu)) _ _ _ _ q hG
    · replace h2 : (F_X11_isKeeper a0 I J) = 0 := h2
      rw [kif_pos h2] at hG
      obtain ⟨hq, hG⟩ := kif_some hG
      refine ⟨_, _, cs_X11_refused (-102 : Int32) I J hq, rfl, ?_⟩
      replace hG := Option.some.inj hG
      subst hG
      exact ⟨rfl, rfl⟩
noncomputable def G_X11_became (a0 : Int32) : Nat → Nat → Int32 → Int32 → kI → kJ → Option (Int32)
  | 0, _, _, _, _, _ => none
  | n + 1, pc, v2, v3, I, J => (bif Nat.beq pc 4 then (kif (vp_in (14 : Int32) 2509) (kif ((I 41 0 ((14 : Int32)).toNatClampNeg) ≤ v3) (some v2) (kif (pre_X11_ofShip v3 (2 : Int32) I J) (kif ((F_X11_ofShip v3 (2 : Int32) I J) = a0) ((G_X11_became a0 n) 4 (v2 + (1 : Int32)) (v3 + (1)) I J) ((G_X11_became a0 n) 4 (v2 + (0 : Int32)) (v3 + (1)) I J)) none)) none) else none)
theorem G_X11_became_4 (a0 : Int32) (n : Nat) (v2 : Int32) (v3 : Int32) (I : kI) (J : kJ) : G_X11_became a0 (n + 1) 4 v2 v3 I J = (kif (vp_in (14 : Int32) 2509) (kif ((I 41 0 ((14 : Int32)).toNatClampNeg) ≤ v3) (some v2) (kif (pre_X11_ofShip v3 (2 : Int32) I J) (kif ((F_X11_ofShip v3 (2 : Int32) I J) = a0) ((G_X11_became a0 n) 4 (v2 + (1 : Int32)) (v3 + (1)) I J) ((G_X11_became a0 n) 4 (v2 + (0 : Int32)) (v3 + (1)) I J)) none)) none) := rfl
noncomputable def E_X11_became (a0 : Int32) (I : kI) (J : kJ) : Option (Int32) := ((G_X11_became a0 kfu) 4 (0 : Int32) (0 : Int32) I J)
set_option maxRecDepth 100000 in
set_option maxHeartbeats 4000000 in
theorem cl_X11_became (a0 : Int32) (I0 : kI) (J0 : kJ) : ∀ n : Nat, (∀ (v2 : Int32) (v3 : Int32) (I : kI) (J : kJ) (q : Int32), I = I0 → J = J0 → G_X11_became a0 n 4 v2 v3 I J = some q → kx_Run tb_X11_became (kx_NC, fun r' S'' => r' = some (kx_i q) ∧ S'' = (I0, J0, none)) 4 [some (kx_r 11 (0)), some (kx_i a0), some (kx_i v2), some (kx_i v3)] [] (I, J, none)) := by
  intro n
  induction n with
  | zero => (intros; rename_i h; have h2 : (none : Option _) = some _ := h; cases h2)
  | succ n ih =>
    intro v2 v3  I J q hI0 hJ0 hG
    subst hI0 hJ0
    rw [G_X11_became_4] at hG
    refine kx_start [4] 29 ?_
    obtain ⟨hq, hG⟩ := kif_some hG
    refine ⟨hq, ?_⟩
    refine ⟨fun h1 => ?_, fun h1 => ?_⟩
    · replace h1 : (I 41 0 ((14 : Int32)).toNatClampNeg) ≤ v3 := h1
      rw [kif_pos h1] at hG
      replace hG := Option.some.inj hG
      subst hG
      exact ⟨rfl, rfl⟩
    · replace h1 : ¬ (I 41 0 ((14 : Int32)).toNatClampNeg) ≤ v3 := h1
      rw [kif_neg h1] at hG
      obtain ⟨hq, hG⟩ := kif_some hG
      refine ⟨_, _, cs_X11_ofShip v3 (2 : Int32) I J hq, rfl, ?_⟩
      refine ⟨fun h2 => ?_, fun h2 => ?_⟩
      · replace h2 : ¬ (F_X11_ofShip v3 (2 : Int32) I J) = a0 := h2
        rw [kif_neg h2] at hG
        exact (ih) _ _ _ _ q rfl rfl hG
      · replace h2 : (F_X11_ofShip v3 (2 : Int32) I J) = a0 := h2
        rw [kif_pos h2] at hG
        exact (ih) _ _ _ _ q rfl rfl hG
set_option maxRecDepth 100000 in
set_option maxHeartbeats 4000000 in
theorem cs_X11_became (a0 : Int32) (I : kI) (J : kJ) (q : Int32) (hG : E_X11_became a0 I J = some q) : sp_X11_became [kx_r 11 0, kx_i a0] (I, J, none) (some (kx_i q)) (I, J, none) := by
  unfold E_X11_became at hG
  refine kx_start [4] 29 ?_
  exact ((cl_X11_became a0 I J kfu)) _ _ _ _ q rfl rfl hG
noncomputable def E_X11_would (a0 : Int32) (a1 : Int32) (I : kI) (J : kJ) : Option (Int32 × kI × kJ) := (kif ((F_X11_in (Int32.toInt64 a0) (0 : Int64) (200 : Int64) I J) = 0) (kif (pre_X11_refused (-102 : Int32) I J) (some ((F_X11_refused (-102 : Int32) I J).1, (F_X11_refused (-102 : Int32) I J).2.1, (F_X11_refused (-102 : Int32) I J).2.2)) none) (kif ((F_X11_in (Int32.toInt64 a1) (0 : Int64) (5 : Int64) I J) = 0) (kif (pre_X11_refused (-102 : Int32) I J) (some ((F_X11_refused (-102 : Int32) I J).1, (F_X11_refused (-102 : Int32) I J).2.1, (F_X11_refused (-102 : Int32) I J).2.2)) none) (kif (pre_X11_copies (0) (1) I J) (kbd (E_X11_became (1 : Int32) (F_X11_copies (0) (1) I J).1 (F_X11_copies (0) (1) I J).2) (fun q1 => (kbd (E_X11_became (2 : Int32) (F_X11_copies (0) (1) I J).1 (F_X11_copies (0) (1) I J).2) (fun q2 => (kif (vp_in (20 : Int32) 2509) (kbd (E_X11_passes a0 (F_X11_copies (0) (1) I J).1 (F_X11_copies (0) (1) I J).2) (fun q3 => (kif (a1 = 0) (kif (pre_X11_copies (1) (0) q3.2.1 q3.2.2) (some (q3.1, (F_X11_copies (1) (0) q3.2.1 q3.2.2).1, (F_X11_copies (1) (0) q3.2.1 q3.2.2).2)) none) (kif (a1 = (1 : Int32)) (kif (vp_in (4 : Int32) 2509) (kif (pre_X11_copies (1) (0) q3.2.1 q3.2.2) (some ((q3.2.1 41 0 ((4 : Int32)).toNatClampNeg), (F_X11_copies (1) (0) q3.2.1 q3.2.2).1, (F_X11_copies (1) (0) q3.2.1 q3.2.2).2)) none) none) (kif (a1 = (2 : Int32)) (kif (vp_in (5 : Int32) 2509) (kif (pre_X11_copies (1) (0) q3.2.1 q3.2.2) (some ((q3.2.1 41 0 ((5 : Int32)).toNatClampNeg), (F_X11_copies (1) (0) q3.2.1 q3.2.2).1, (F_X11_copies (1) (0) q3.2.1 q3.2.2).2)) none) none) (kif (a1 = (3 : Int32)) (kbd (E_X11_became (1 : Int32) q3.2.1 q3.2.2) (fun q5 => (kif (pre_X11_copies (1) (0) q3.2.1 q3.2.2) (some ((q5 - q1), (F_X11_copies (1) (0) q3.2.1 q3.2.2).1, (F_X11_copies (1) (0) q3.2.1 q3.2.2).2)) none))) (kif (a1 = (4 : Int32)) (kbd (E_X11_became (2 : Int32) q3.2.1 q3.2.2) (fun q4 => (kif (pre_X11_copies (1) (0) q3.2.1 q3.2.2) (some ((q4 - q2), (F_X11_copies (1) (0) q3.2.1 q3.2.2).1, (F_X11_copies (1) (0) q3.2.1 q3.2.2).2)) none))) (kif (vp_in (20 : Int32) 2509) (kif (pre_X11_copies (1) (0) q3.2.1 q3.2.2) (some (((q3.2.1 41 0 ((20 : Int32)).toNatClampNeg) - ((F_X11_copies (0) (1) I J).1 41 0 ((20 : Int32)).toNatClampNeg)), (F_X11_copies (1) (0) q3.2.1 q3.2.2).1, (F_X11_copies (1) (0) q3.2.1 q3.2.2).2)) none) none)))))))) none))))) none)))
set_option maxRecDepth 100000 in
set_option maxHeartbeats 4000000 in
theorem cs_X11_would (a0 : Int32) (a1 : Int32) (I : kI) (J : kJ) (q : Int32 × kI × kJ) (hG : E_X11_would a0 a1 I J = some q) : sp_X11_would [kx_r 11 0, kx_i a0, kx_i a1] (I, J, none) (some (kx_i q.1)) (q.2.1, q.2.2, none) := by
  unfold E_X11_would at hG
  refine kx_start [] 93 ?_
  refine ⟨_, _, cs_X11_in (Int32.toInt64 a0) (0 : Int64) (200 : Int64) I J, rfl, ?_⟩
  refine ⟨fun h1 => ?_, fun h1 => ?_⟩
  · replace h1 : (F_X11_in (Int32.toInt64 a0) (0 : Int64) (200 : Int64) I J) = 0 := h1
    rw [kif_pos h1] at hG
    obtain ⟨hq, hG⟩ := kif_some hG
    refine ⟨_, _, cs_X11_refused (-102 : Int32) I J hq, rfl, ?_⟩
    replace hG := Option.some.inj hG
    subst hG
    exact ⟨rfl, rfl⟩
  · replace h1 : ¬ (F_X11_in (Int32.toInt64 a0) (0 : Int64) (200 : Int64) I J) = 0 := h1
    rw [kif_neg h1] at hG
    refine ⟨_, _, cs_X11_in (Int32.toInt64 a1) (0 : Int64) (5 : Int64) I J, rfl, ?_⟩
    refine ⟨fun h2 => ?_, fun h2 => ?_⟩
    · replace h2 : ¬ (F_X11_in (Int32.toInt64 a1) (0 : Int64) (5 : Int64) I J) = 0 := h2
      rw [kif_neg h2] at hG
      obtain ⟨hq, hG⟩ := kif_some hG
      refine ⟨_, _, ct_X11_copies (0) (1) I J hq, rfl, ?_⟩
      obtain ⟨q1, hq, hG⟩ := kbd_some hG
      refine ⟨_, _, cs_X11_became (1 : Int32) (F_X11_copies (0) (1) I J).1 (F_X11_copies (0) (1) I J).2 q1 hq, rfl, ?_⟩
      obtain ⟨q2, hq, hG⟩ := kbd_some hG
      refine ⟨_, _, cs_X11_became (2 : Int32) (F_X11_copies (0) (1) I J).1 (F_X11_copies (0) (1) I J).2 q2 hq, rfl, ?_⟩
      obtain ⟨hq, hG⟩ := kif_some hG
      refine ⟨hq, ?_⟩
      obtain ⟨q3, hq, hG⟩ := kbd_some hG
      refine ⟨_, _, cs_X11_passes a0 (F_X11_copies (0) (1) I J).1 (F_X11_copies (0) (1) I J).2 q3 hq, rfl, ?_⟩
      refine ⟨fun h3 => ?_, fun h3 => ?_⟩
      · replace h3 : ¬ a1 = 0 := h3
        rw [kif_neg h3] at hG
        refine ⟨fun h4 => ?_, fun h4 => ?_⟩
        · replace h4 : ¬ a1 = (1 : Int32) := h4
          rw [kif_neg h4] at hG
          refine ⟨fun h5 => ?_, fun h5 => ?_⟩
          · replace h5 : ¬ a1 = (2 : Int32) := h5
            rw [kif_neg h5] at hG
            refine ⟨fun h6 => ?_, fun h6 => ?_⟩
            · replace h6 : ¬ a1 = (3 : Int32) := h6
              rw [kif_neg h6] at hG
              refine ⟨fun h7 => ?_, fun h7 => ?_⟩
              · replace h7 : ¬ a1 = (4 : Int32) := h7
                rw [kif_neg h7] at hG
                obtain ⟨hq, hG⟩ := kif_some hG
                refine ⟨hq, ?_⟩
                obtain ⟨hq, hG⟩ := kif_some hG
                refine ⟨_, _, ct_X11_copies (1) (0) q3.2.1 q3.2.2 hq, rfl, ?_⟩
                replace hG := Option.some.inj hG
                subst hG
                exact ⟨rfl, rfl⟩
              · replace h7 : a1 = (4 : Int32) := h7
                rw [kif_pos h7] at hG
                obtain ⟨q4, hq, hG⟩ := kbd_some hG
                refine ⟨_, _, cs_X11_became (2 : Int32) q3.2.1 q3.2.2 q4 hq, rfl, ?_⟩
                obtain ⟨hq, hG⟩ := kif_some hG
                refine ⟨_, _, ct_X11_copies (1) (0) q3.2.1 q3.2.2 hq, rfl, ?_⟩
                replace hG := Option.some.inj hG
                subst hG
                exact ⟨rfl, rfl⟩
            · replace h6 : a1 = (3 : Int32) := h6
              rw [kif_pos h6] at hG
              obtain ⟨q5, hq, hG⟩ := kbd_some hG
              refine ⟨_, _, cs_X11_became (1 : Int32) q3.2.1 q3.2.2 q5 hq, rfl, ?_⟩
              obtain ⟨hq, hG⟩ := kif_some hG
              refine ⟨_, _, ct_X11_copies (1) (0) q3.2.1 q3.2.2 hq, rfl, ?_⟩
              replace hG := Option.some.inj hG
              subst hG
              exact ⟨rfl, rfl⟩
          · replace h5 : a1 = (2 : Int32) := h5
            rw [kif_pos h5] at hG
            obtain ⟨hq, hG⟩ := kif_some hG
            refine ⟨hq, ?_⟩
            obtain ⟨hq, hG⟩ := kif_some hG
            refine ⟨_, _, ct_X11_copies (1) (0) q3.2.1 q3.2.2 hq, rfl, ?_⟩
            replace hG := Option.some.inj hG
            subst hG
            exact ⟨rfl, rfl⟩
        · replace h4 : a1 = (1 : Int32) := h4
          rw [kif_pos h4] at hG
          obtain ⟨hq, hG⟩ := kif_some hG
          refine ⟨hq, ?_⟩
          obtain ⟨hq, hG⟩ := kif_some hG
          refine ⟨_, _, ct_X11_copies (1) (0) q3.2.1 q3.2.2 hq, rfl, ?_⟩
          replace hG := Option.some.inj hG
          subst hG
          exact ⟨rfl, rfl⟩
      · replace h3 : a1 = 0 := h3
        rw [kif_pos h3] at hG
        obtain ⟨hq, hG⟩ := kif_some hG
        refine ⟨_, _, ct_X11_copies (1) (0) q3.2.1 q3.2.2 hq, rfl, ?_⟩
        replace hG := Option.some.inj hG
        subst hG
        exact ⟨rfl, rfl⟩
    · replace h2 : (F_X11_in (Int32.toInt64 a1) (0 : Int64) (5 : Int64) I J) = 0 := h2
      rw [kif_pos h2] at hG
      obtain ⟨hq, hG⟩ := kif_some hG
      refine ⟨_, _, cs_X11_refused (-102 : Int32) I J hq, rfl, ?_⟩
      replace hG := Option.some.inj hG
      subst hG
      exact ⟨rfl, rfl⟩
noncomputable def G_X11_fails  : Nat → Nat → Int32 → Int32 → kI → kJ → Option (Int32 × kI × kJ)
  | 0, _, _, _, _, _ => none
  | n + 1, pc, v1, v2, I, J => (bif Nat.beq pc 15 then (kif ((200 : Int32) ≤ v2) (kif (pre_X11_copies (1) (0) I J) (some (v1, (F_X11_copies (1) (0) I J).1, (F_X11_copies (1) (0) I J).2)) none) (kif (0 ≤ v1) (kif (pre_X11_copies (1) (0) I J) (some (v1, (F_X11_copies (1) (0) I J).1, (F_X11_copies (1) (0) I J).2)) none) (kbd (E_X11_passes (1 : Int32) I J) (fun q1 => (kif (q1.1 ≤ 0) ((G_X11_fails  n) 15 (-1 : Int32) (v2 + (1)) q1.2.1 q1.2.2) (kif (vp_in (0 : Int32) 2509) ((G_X11_fails  n) 15 ((q1.2.1 41 0 ((0 : Int32)).toNatClampNeg) - (1 : Int32)) (v2 + (1)) q1.2.1 q1.2.2) none)))))) else none)
theorem G_X11_fails_15  (n : Nat) (v1 : Int32) (v2 : Int32) (I : kI) (J : kJ) : G_X11_fails  (n + 1) 15 v1 v2 I J = (kif ((200 : Int32) ≤ v2) (kif (pre_X11_copies (1) (0) I J) (some (v1, (F_X11_copies (1) (0) I J).1, (F_X11_copies (1) (0) I J).2)) none) (kif (0 ≤ v1) (kif (pre_X11_copies (1) (0) I J) (some (v1, (F_X11_copies (1) (0) I J).1, (F_X11_copies (1) (0) I J).2)) none) (kbd (E_X11_passes (1 : Int32) I J) (fun q1 => (kif (q1.1 ≤ 0) ((G_X11_fails  n) 15 (-1 : Int32) (v2 + (1)) q1.2.1 q1.2.2) (kif (vp_in (0 : Int32) 2509) ((G_X11_fails  n) 15 ((q1.2.1 41 0 ((0 : Int32)).toNatClampNeg) - (1 : Int32)) (v2 + (1)) q1.2.1 q1.2.2) none)))))) := rfl
noncomputable def E_X11_fails  (I : kI) (J : kJ) : Option (Int32 × kI × kJ) := (kif (pre_X11_copies (0) (1) I J) ((G_X11_fails  kfu) 15 (-1 : Int32) (0 : Int32) (F_X11_copies (0) (1) I J).1 (F_X11_copies (0) (1) I J).2) none)
set_option maxRecDepth 100000 in
set_option maxHeartbeats 4000000 in
theorem cl_X11_fails  : ∀ n : Nat, (∀ (v1 : Int32) (v2 : Int32) (I : kI) (J : kJ) (q : Int32 × kI × kJ), G_X11_fails  n 15 v1 v2 I J = some q → kx_Run tb_X11_fails (kx_NC, fun r' S'' => r' = some (kx_i q.1) ∧ S'' = (q.2.1, q.2.2, none)) 15 [some (kx_r 11 (0)), some (kx_i v1), some (kx_i v2)] [] (I, J, none)) := by
  intro n
  induction n with
  | zero => (intros; rename_i h; have h2 : (none : Option _) = some _ := h; cases h2)
  | succ n ih =>
    intro v1 v2  I J q hG
    rw [G_X11_fails_15] at hG
    refine kx_start [15] 39 ?_
    refine ⟨fun h1 => ?_, fun h1 => ?_⟩
    · replace h1 : (200 : Int32) ≤ v2 := h1
      rw [kif_pos h1] at hG
      obtain ⟨hq, hG⟩ := kif_some hG
      refine ⟨_, _, ct_X11_copies (1) (0) I J hq, rfl, ?_⟩
      replace hG := Option.some.inj hG
      subst hG
      exact ⟨rfl, rfl⟩
    · replace h1 : ¬ (200 : Int32) ≤ v2 := h1
      rw [kif_neg h1] at hG
      refine ⟨fun h2 => ?_, fun h2 => ?_⟩
      · replace h2 : 0 ≤ v1 := h2
        rw [kif_pos h2] at hG
        obtain ⟨hq, hG⟩ := kif_some hG
        refine ⟨_, _, ct_X11_copies (1) (0) I J hq, rfl, ?_⟩
        replace hG := Option.some.inj hG
        subst hG
        exact ⟨rfl, rfl⟩
      · replace h2 : ¬ 0 ≤ v1 := h2
        rw [kif_neg h2] at hG
        obtain ⟨q1, hq, hG⟩ := kbd_some hG
        refine ⟨_, _, cs_X11_passes (1 : Int32) I J q1 hq, rfl, ?_⟩
        refine ⟨fun h3 => ?_, fun h3 => ?_⟩
        · replace h3 : q1.1 ≤ 0 := h3
          rw [kif_pos h3] at hG
          exact (ih) _ _ _ _ q hG
        · replace h3 : ¬ q1.1 ≤ 0 := h3
          rw [kif_neg h3] at hG
          obtain ⟨hq, hG⟩ := kif_some hG
          refine ⟨hq, ?_⟩
          exact (ih) _ _ _ _ q hG
set_option maxRecDepth 100000 in
set_option maxHeartbeats 4000000 in
theorem cs_X11_fails  (I : kI) (J : kJ) (q : Int32 × kI × kJ) (hG : E_X11_fails  I J = some q) : sp_X11_fails [kx_r 11 0] (I, J, none) (some (kx_i q.1)) (q.2.1, q.2.2, none) := by
  unfold E_X11_fails at hG
  refine kx_start [15] 39 ?_
  obtain ⟨hq, hG⟩ := kif_some hG
  refine ⟨_, _, ct_X11_copies (0) (1) I J hq, rfl, ?_⟩
  exact ((cl_X11_fails  kfu)) _ _ _ _ q hG
noncomputable def G_X11_comes  : Nat → Nat → Int32 → Int32 → kI → kJ → Option (Int32 × kI × kJ)
  | 0, _, _, _, _, _ => none
  | n + 1, pc, v1, v2, I, J => (bif Nat.beq pc 15 then (kif ((400 : Int32) ≤ v2) (kif (pre_X11_copies (1) (0) I J) (some (v1, (F_X11_copies (1) (0) I J).1, (F_X11_copies (1) (0) I J).2)) none) (kif (0 ≤ v1) (kif (pre_X11_copies (1) (0) I J) (some (v1, (F_X11_copies (1) (0) I J).1, (F_X11_copies (1) (0) I J).2)) none) (kbd (E_X11_hourPasses  I J) (fun q1 => (kif ((q1.1 11 0 7) = 0) ((G_X11_comes  n) 15 (-1 : Int32) (v2 + (1)) q1.1 q1.2) (kif (vp_in (0 : Int32) 2509) ((G_X11_comes  n) 15 ((q1.1 41 0 ((0 : Int32)).toNatClampNeg) - (1 : Int32)) (v2 + (1)) q1.1 q1.2) none)))))) else none)
theorem G_X11_comes_15  (n : Nat) (v1 : Int32) (v2 : Int32) (I : kI) (J : kJ) : G_X11_comes  (n + 1) 15 v1 v2 I J = (kif ((400 : Int32) ≤ v2) (kif (pre_X11_copies (1) (0) I J) (some (v1, (F_X11_copies (1) (0) I J).1, (F_X11_copies (1) (0) I J).2)) none) (kif (0 ≤ v1) (kif (pre_X11_copies (1) (0) I J) (some (v1, (F_X11_copies (1) (0) I J).1, (F_X11_copies (1) (0) I J).2)) none) (kbd (E_X11_hourPasses  I J) (fun q1 => (kif ((q1.1 11 0 7) = 0) ((G_X11_comes  n) 15 (-1 : Int32) (v2 + (1)) q1.1 q1.2) (kif (vp_in (0 : Int32) 2509) ((G_X11_comes  n) 15 ((q1.1 41 0 ((0 : Int32)).toNatClampNeg) - (1 : Int32)) (v2 + (1)) q1.1 q1.2) none)))))) := rfl
noncomputable def E_X11_comes  (I : kI) (J : kJ) : Option (Int32 × kI × kJ) := (kif (pre_X11_copies (0) (1) I J) ((G_X11_comes  kfu) 15 (-1 : Int32) (0 : Int32) (F_X11_copies (0) (1) I J).1 (F_X11_copies (0) (1) I J).2) none)
set_option maxRecDepth 100000 in
set_option maxHeartbeats 4000000 in
theorem cl_X11_comes  : ∀ n : Nat, (∀ (v1 : Int32) (v2 : Int32) (I : kI) (J : kJ) (q : Int32 × kI × kJ), G_X11_comes  n 15 v1 v2 I J = some q → kx_Run tb_X11_comes (kx_NC, fun r' S'' => r' = some (kx_i q.1) ∧ S'' = (q.2.1, q.2.2, none)) 15 [some (kx_r 11 (0)), some (kx_i v1), some (kx_i v2)] [] (I, J, none)) := by
  intro n
  induction n with
  | zero => (intros; rename_i h; have h2 : (none : Option _) = some _ := h; cases h2)
  | succ n ih =>
    intro v1 v2  I J q hG
    rw [G_X11_comes_15] at hG
    refine kx_start [15] 40 ?_
    refine ⟨fun h1 => ?_, fun h1 => ?_⟩
    · replace h1 : (400 : Int32) ≤ v2 := h1
      rw [kif_pos h1] at hG
      obtain ⟨hq, hG⟩ := kif_some hG
      refine ⟨_, _, ct_X11_copies (1) (0) I J hq, rfl, ?_⟩
      replace hG := Option.some.inj hG
      subst hG
      exact ⟨rfl, rfl⟩
    · replace h1 : ¬ (400 : Int32) ≤ v2 := h1
      rw [kif_neg h1] at hG
      refine ⟨fun h2 => ?_, fun h2 => ?_⟩
      · replace h2 : 0 ≤ v1 := h2
        rw [kif_pos h2] at hG
        obtain ⟨hq, hG⟩ := kif_some hG
        refine ⟨_, _, ct_X11_copies (1) (0) I J hq, rfl, ?_⟩
        replace hG := Option.some.inj hG
        subst hG
        exact ⟨rfl, rfl⟩
      · replace h2 : ¬ 0 ≤ v1 := h2
        rw [kif_neg h2] at hG
        obtain ⟨q1, hq, hG⟩ := kbd_some hG
        refine ⟨_, _, cs_X11_hourPasses  I J q1 hq, rfl, ?_⟩
        refine ⟨fun h3 => ?_, fun h3 => ?_⟩
        · replace h3 : (q1.1 11 0 7) = 0 := h3
          rw [kif_pos h3] at hG
          exact (ih) _ _ _ _ q hG
        · replace h3 : ¬ (q1.1 11 0 7) = 0 := h3
          rw [kif_neg h3] at hG
          obtain ⟨hq, hG⟩ := kif_some hG
          refine ⟨hq, ?_⟩
          exact (ih) _ _ _ _ q hG
set_option maxRecDepth 100000 in
set_option maxHeartbeats 4000000 in
theorem cs_X11_comes  (I : kI) (J : kJ) (q : Int32 × kI × kJ) (hG : E_X11_comes  I J = some q) : sp_X11_comes [kx_r 11 0] (I, J, none) (some (kx_i q.1)) (q.2.1, q.2.2, none) := by
  unfold E_X11_comes at hG
  refine kx_start [15] 40 ?_
  obtain ⟨hq, hG⟩ := kif_some hG
  refine ⟨_, _, ct_X11_copies (0) (1) I J hq, rfl, ?_⟩
  exact ((cl_X11_comes  kfu)) _ _ _ _ q hG
noncomputable def G_X11_unlitBy (a0 : Int32) (a1 : Int32) : Nat → Nat → Int32 → Int32 → Int32 → Int32 → Int32 → Int32 → Int32 → Int32 → kI → kJ → Option (Int32)
  | 0, _, _, _, _, _, _, _, _, _, _, _ => none
  | n + 1, pc, v3, v4, v5, v6, v7, v8, s0, s1, I, J => (bif Nat.beq pc 18 then (kif (vp_in (7 : Int32) 2509) (kif ((I 41 0 ((7 : Int32)).toNatClampNeg) ≤ 0) ((G_X11_unlitBy a0 a1 n) 35 v3 s0 0 0 0 0 (0 : Int32) 0 I J) ((G_X11_unlitBy a0 a1 n) 35 v3 s0 0 0 0 0 (1 : Int32) 0 I J)) none) else (bif Nat.beq pc 35 then ((G_X11_unlitBy a0 a1 n) 43 v3 v4 s0 (0 : Int32) (0 : Int32) 0 0 0 I J) else (bif Nat.beq pc 43 then (kif (a1 ≤ v7) (some v6) (kif (vp_in v7 200) (kif ((I 45 0 (v7).toNatClampNeg) = 0) ((G_X11_unlitBy a0 a1 n) 93 v3 0 0 v6 v7 0 0 0 I J) (kif (vp_in v7 200) (kif ((I 46 0 (v7).toNatClampNeg) = 0) (kif (v4 = 0) ((G_X11_unlitBy a0 a1 n) 93 v3 0 0 v6 v7 0 0 0 I J) (kif (v5 = 0) ((G_X11_unlitBy a0 a1 n) 79 v3 0 0 v6 v7 0 0 0 I J) ((G_X11_unlitBy a0 a1 n) 93 v3 0 0 v6 v7 0 0 0 I J))) ((G_X11_unlitBy a0 a1 n) 79 v3 0 0 v6 v7 0 0 0 I J)) none)) none)) else (bif Nat.beq pc 79 then (kif (vp_in (3 : Int32) 2509) (kif (v3 < (I 41 0 ((3 : Int32)).toNatClampNeg)) ((G_X11_unlitBy a0 a1 n) 93 v3 0 0 v6 v7 0 0 0 I J) ((G_X11_unlitBy a0 a1 n) 94 v3 0 0 v6 v7 0 (1 : Int32) 0 I J)) none) else (bif Nat.beq pc 93 then ((G_X11_unlitBy a0 a1 n) 94 v3 0 0 v6 v7 0 (0 : Int32) 0 I J) else (bif Nat.beq pc 94 then (kif (s0 = 0) ((G_X11_unlitBy a0 a1 n) 112 0 0 0 v6 v7 s0 v3 (0 : Int32) I J) (kif (vp_in (3 : Int32) 2509) ((G_X11_unlitBy a0 a1 n) 112 0 0 0 v6 v7 s0 v3 (I 41 0 ((3 : Int32)).toNatClampNeg) I J) none)) else (bif Nat.beq pc 112 then (kif (v8 = 0) ((G_X11_unlitBy a0 a1 n) 133 (s0 - s1) 0 0 v6 v7 v8 0 0 I J) (kif (vp_in v7 200) (kif ((I 46 0 (v7).toNatClampNeg) = 0) ((G_X11_unlitBy a0 a1 n) 134 (s0 - s1) 0 0 v6 v7 v8 (1 : Int32) 0 I J) ((G_X11_unlitBy a0 a1 n) 133 (s0 - s1) 0 0 v6 v7 v8 0 0 I J)) none)) else (bif Nat.beq pc 133 then ((G_X11_unlitBy a0 a1 n) 134 v3 0 0 v6 v7 v8 (0 : Int32) 0 I J) else (bif Nat.beq pc 134 then (kif (vp_in v7 200) (kif ((I 45 0 (v7).toNatClampNeg) = 0) ((G_X11_unlitBy a0 a1 n) 161 v3 v8 s0 0 v7 0 v6 0 I J) (kif (v8 = 0) ((G_X11_unlitBy a0 a1 n) 162 v3 v8 s0 0 v7 0 v6 (1 : Int32) I J) ((G_X11_unlitBy a0 a1 n) 161 v3 v8 s0 0 v7 0 v6 0 I J))) none) else (bif Nat.beq pc 161 then ((G_X11_unlitBy a0 a1 n) 162 v3 v4 v5 0 v7 0 s0 (0 : Int32) I J) else (bif Nat.beq pc 162 then (kif (vp_in v7 200) (kif ((I 47 0 (v7).toNatClampNeg) = 0) ((G_X11_unlitBy a0 a1 n) 194 0 v4 v5 (s0 + s1) v7 0 v3 0 I J) (kif (vp_in (10 : Int32) 2509) ((G_X11_unlitBy a0 a1 n) 194 0 v4 v5 (s0 + s1) v7 0 (if (v3 + (I 41 0 ((10 : Int32)).toNatClampNeg)) < (9999 : Int32) then (v3 + (I 41 0 ((10 : Int32)).toNatClampNeg)) else (9999 : Int32)) 0 I J) none)) none) else (bif Nat.beq pc 194 then ((G_X11_unlitBy a0 a1 n) 43 s0 v4 v5 v6 (v7 + (1)) 0 0 0 I J) else none))))))))))))
theorem G_X11_unlitBy_18 (a0 : Int32) (a1 : Int32) (n : Nat) (v3 : Int32) (v4 : Int32) (v5 : Int32) (v6 : Int32) (v7 : Int32) (v8 : Int32) (s0 : Int32) (s1 : Int32) (I : kI) (J : kJ) : G_X11_unlitBy a0 a1 (n + 1) 18 v3 v4 v5 v6 v7 v8 s0 s1 I J = (kif (vp_in (7 : Int32) 2509) (kif ((I 41 0 ((7 : Int32)).toNatClampNeg) ≤ 0) ((G_X11_unlitBy a0 a1 n) 35 v3 s0 0 0 0 0 (0 : Int32) 0 I J) ((G_X11_unlitBy a0 a1 n) 35 v3 s0 0 0 0 0 (1 : Int32) 0 I J)) none) := rfl
theorem G_X11_unlitBy_35 (a0 : Int32) (a1 : Int32) (n : Nat) (v3 : Int32) (v4 : Int32) (v5 : Int32) (v6 : Int32) (v7 : Int32) (v8 : Int32) (s0 : Int32) (s1 : Int32) (I : kI) (J : kJ) : G_X11_unlitBy a0 a1 (n + 1) 35 v3 v4 v5 v6 v7 v8 s0 s1 I J = ((G_X11_unlitBy a0 a1 n) 43 v3 v4 s0 (0 : Int32) (0 : Int32) 0 0 0 I J) := rfl
theorem G_X11_unlitBy_43 (a0 : Int32) (a1 : Int32) (n : Nat) (v3 : Int32) (v4 : Int32) (v5 : Int32) (v6 : Int32) (v7 : Int32) (v8 : Int32) (s0 : Int32) (s1 : Int32) (I : kI) (J : kJ) : G_X11_unlitBy a0 a1 (n + 1) 43 v3 v4 v5 v6 v7 v8 s0 s1 I J = (kif (a1 ≤ v7) (some v6) (kif (vp_in v7 200) (kif ((I 45 0 (v7).toNatClampNeg) = 0) ((G_X11_unlitBy a0 a1 n) 93 v3 0 0 v6 v7 0 0 0 I J) (kif (vp_in v7 200) (kif ((I 46 0 (v7).toNatClampNeg) = 0) (kif (v4 = 0) ((G_X11_unlitBy a0 a1 n) 93 v3 0 0 v6 v7 0 0 0 I J) (kif (v5 = 0) ((G_X11_unlitBy a0 a1 n) 79 v3 0 0 v6 v7 0 0 0 I J) ((G_X11_unlitBy a0 a1 n) 93 v3 0 0 v6 v7 0 0 0 I J))) ((G_X11_unlitBy a0 a1 n) 79 v3 0 0 v6 v7 0 0 0 I J)) none)) none)) := rfl
theorem G_X11_unlitBy_79 (a0 : Int32) (a1 : Int32) (n : Nat) (v3 : Int32) (v4 : Int32) (v5 : Int32) (v6 : Int32) (v7 : Int32) (v8 : Int32) (s0 : Int32) (s1 : Int32) (I : kI) (J : kJ) : G_X11_unlitBy a0 a1 (n + 1) 79 v3 v4 v5 v6 v7 v8 s0 s1 I J = (kif (vp_in (3 : Int32) 2509) (kif (v3 < (I 41 0 ((3 : Int32)).toNatClampNeg)) ((G_X11_unlitBy a0 a1 n) 93 v3 0 0 v6 v7 0 0 0 I J) ((G_X11_unlitBy a0 a1 n) 94 v3 0 0 v6 v7 0 (1 : Int32) 0 I J)) none) := rfl
theorem G_X11_unlitBy_93 (a0 : Int32) (a1 : Int32) (n : Nat) (v3 : Int32) (v4 : Int32) (v5 : Int32) (v6 : Int32) (v7 : Int32) (v8 : Int32) (s0 : Int32) (s1 : Int32) (I : kI) (J : kJ) : G_X11_unlitBy a0 a1 (n + 1) 93 v3 v4 v5 v6 v7 v8 s0 s1 I J = ((G_X11_unlitBy a0 a1 n) 94 v3 0 0 v6 v7 0 (0 : Int32) 0 I J) := rfl
theorem G_X11_unlitBy_94 (a0 : Int32) (a1 : Int32) (n : Nat) (v3 : Int32) (v4 : Int32) (v5 : Int32) (v6 : Int32) (v7 : Int32) (v8 : Int32) (s0 : Int32) (s1 : Int32) (I : kI) (J : kJ) : G_X11_unlitBy a0 a1 (n + 1) 94 v3 v4 v5 v6 v7 v8 s0 s1 I J = (kif (s0 = 0) ((G_X11_unlitBy a0 a1 n) 112 0 0 0 v6 v7 s0 v3 (0 : Int32) I J) (kif (vp_in (3 : Int32) 2509) ((G_X11_unlitBy a0 a1 n) 112 0 0 0 v6 v7 s0 v3 (I 41 0 ((3 : Int32)).toNatClampNeg) I J) none)) := rfl
theorem G_X11_unlitBy_112 (a0 : Int32) (a1 : Int32) (n : Nat) (v3 : Int32) (v4 : Int32) (v5 : Int32) (v6 : Int32) (v7 : Int32) (v8 : Int32) (s0 : Int32) (s1 : Int32) (I : kI) (J : kJ) : G_X11_unlitBy a0 a1 (n + 1) 112 v3 v4 v5 v6 v7 v8 s0 s1 I J = (kif (v8 = 0) ((G_X11_unlitBy a0 a1 n) 133 (s0 - s1) 0 0 v6 v7 v8 0 0 I J) (kif (vp_in v7 200) (kif ((I 46 0 (v7).toNatClampNeg) = 0) ((G_X11_unlitBy a0 a1 n) 134 (s0 - s1) 0 0 v6 v7 v8 (1 : Int32) 0 I J) ((G_X11_unlitBy a0 a1 n) 133 (s0 - s1) 0 0 v6 v7 v8 0 0 I J)) none)) := rfl
theorem G_X11_unlitBy_133 (a0 : Int32) (a1 : Int32) (n : Nat) (v3 : Int32) (v4 : Int32) (v5 : Int32) (v6 : Int32) (v7 : Int32) (v8 : Int32) (s0 : Int32) (s1 : Int32) (I : kI) (J : kJ) : G_X11_unlitBy a0 a1 (n + 1) 133 v3 v4 v5 v6 v7 v8 s0 s1 I J = ((G_X11_unlitBy a0 a1 n) 134 v3 0 0 v6 v7 v8 (0 : Int32) 0 I J) := rfl
theorem G_X11_unlitBy_134 (a0 : Int32) (a1 : Int32) (n : Nat) (v3 : Int32) (v4 : Int32) (v5 : Int32) (v6 : Int32) (v7 : Int32) (v8 : Int32) (s0 : Int32) (s1 : Int32) (I : kI) (J : kJ) : G_X11_unlitBy a0 a1 (n + 1) 134 v3 v4 v5 v6 v7 v8 s0 s1 I J = (kif (vp_in v7 200) (kif ((I 45 0 (v7).toNatClampNeg) = 0) ((G_X11_unlitBy a0 a1 n) 161 v3 v8 s0 0 v7 0 v6 0 I J) (kif (v8 = 0) ((G_X11_unlitBy a0 a1 n) 162 v3 v8 s0 0 v7 0 v6 (1 : Int32) I J) ((G_X11_unlitBy a0 a1 n) 161 v3 v8 s0 0 v7 0 v6 0 I J))) none) := rfl
theorem G_X11_unlitBy_161 (a0 : Int32) (a1 : Int32) (n : Nat) (v3 : Int32) (v4 : Int32) (v5 : Int32) (v6 : Int32) (v7 : Int32) (v8 : Int32) (s0 : Int32) (s1 : Int32) (I : kI) (J : kJ) : G_X11_unlitBy a0 a1 (n + 1) 161 v3 v4 v5 v6 v7 v8 s0 s1 I J = ((G_X11_unlitBy a0 a1 n) 162 v3 v4 v5 0 v7 0 s0 (0 : Int32) I J) := rfl
theorem G_X11_unlitBy_162 (a0 : Int32) (a1 : Int32) (n : Nat) (v3 : Int32) (v4 : Int32) (v5 : Int32) (v6 : Int32) (v7 : Int32) (v8 : Int32) (s0 : Int32) (s1 : Int32) (I : kI) (J : kJ) : G_X11_unlitBy a0 a1 (n + 1) 162 v3 v4 v5 v6 v7 v8 s0 s1 I J = (kif (vp_in v7 200) (kif ((I 47 0 (v7).toNatClampNeg) = 0) ((G_X11_unlitBy a0 a1 n) 194 0 v4 v5 (s0 + s1) v7 0 v3 0 I J) (kif (vp_in (10 : Int32) 2509) ((G_X11_unlitBy a0 a1 n) 194 0 v4 v5 (s0 + s1) v7 0 (if (v3 + (I 41 0 ((10 : Int32)).toNatClampNeg)) < (9999 : Int32) then (v3 + (I 41 0 ((10 : Int32)).toNatClampNeg)) else (9999 : Int32)) 0 I J) none)) none) := rfl
theorem G_X11_unlitBy_194 (a0 : Int32) (a1 : Int32) (n : Nat) (v3 : Int32) (v4 : Int32) (v5 : Int32) (v6 : Int32) (v7 : Int32) (v8 : Int32) (s0 : Int32) (s1 : Int32) (I : kI) (J : kJ) : G_X11_unlitBy a0 a1 (n + 1) 194 v3 v4 v5 v6 v7 v8 s0 s1 I J = ((G_X11_unlitBy a0 a1 n) 43 s0 v4 v5 v6 (v7 + (1)) 0 0 0 I J) := rfl
noncomputable def E_X11_unlitBy (a0 : Int32) (a1 : Int32) (I : kI) (J : kJ) : Option (Int32) := (kif (vp_in (6 : Int32) 2509) (kif ((I 41 0 ((6 : Int32)).toNatClampNeg) = (1 : Int32)) ((G_X11_unlitBy a0 a1 kfu) 18 a0 0 0 0 0 0 (1 : Int32) 0 I J) ((G_X11_unlitBy a0 a1 kfu) 18 a0 0 0 0 0 0 (0 : Int32) 0 I J)) none)
set_option maxRecDepth 100000 in
set_option maxHeartbeats 4000000 in
theorem cl_X11_unlitBy (a0 : Int32) (a1 : Int32) (I0 : kI) (J0 : kJ) : ∀ n : Nat, (∀ (v3 : Int32) (v4 : Int32) (v5 : Int32) (v6 : Int32) (v7 : Int32) (v8 : Int32) (s0 : Int32) (s1 : Int32) (x1 x4 x5 x6 x7 x8 : Option kx_V) (I : kI) (J : kJ) (q : Int32), I = I0 → J = J0 → G_X11_unlitBy a0 a1 n 18 v3 v4 v5 v6 v7 v8 s0 s1 I J = some q → kx_Run tb_X11_unlitBy (kx_NC, fun r' S'' => r' = some (kx_i q) ∧ S'' = (I0, J0, none)) 18 [some (kx_r 11 (0)), x1, some (kx_i a1), some (kx_i v3), x4, x5, x6, x7, x8] [kx_i s0] (I, J, none)) ∧ (∀ (v3 : Int32) (v4 : Int32) (v5 : Int32) (v6 : Int32) (v7 : Int32) (v8 : Int32) (s0 : Int32) (s1 : Int32) (x1 x5 x6 x7 x8 : Option kx_V) (I : kI) (J : kJ) (q : Int32), I = I0 → J = J0 → G_X11_unlitBy a0 a1 n 35 v3 v4 v5 v6 v7 v8 s0 s1 I J = some q → kx_Run tb_X11_unlitBy (kx_NC, fun r' S'' => r' = some (kx_i q) ∧ S'' = (I0, J0, none)) 35 [some (kx_r 11 (0)), x1, some (kx_i a1), some (kx_i v3), some (kx_i v4), x5, x6, x7, x8] [kx_i s0] (I, J, none)) ∧ (∀ (v3 : Int32) (v4 : Int32) (v5 : Int32) (v6 : Int32) (v7 : Int32) (v8 : Int32) (s0 : Int32) (s1 : Int32) (x1 x8 : Option kx_V) (I : kI) (J : kJ) (q : Int32), I = I0 → J = J0 → G_X11_unlitBy a0 a1 n 43 v3 v4 v5 v6 v7 v8 s0 s1 I J = some q → kx_Run tb_X11_unlitBy (kx_NC, fun r' S'' => r' = some (kx_i q) ∧ S'' = (I0, J0, none)) 43 [some (kx_r 11 (0)), x1, some (kx_i a1), some (kx_i v3), some (kx_i v4), some (kx_i v5), some (kx_i v6), some (kx_i v7), x8] [] (I, J, none)) ∧ (∀ (v3 : Int32) (v4 : Int32) (v5 : Int32) (v6 : Int32) (v7 : Int32) (v8 : Int32) (s0 : Int32) (s1 : Int32) (x1 x4 x5 x8 : Option kx_V) (I : kI) (J : kJ) (q : Int32), I = I0 → J = J0 → G_X11_unlitBy a0 a1 n 79 v3 v4 v5 v6 v7 v8 s0 s1 I J = some q → kx_Run tb_X11_unlitBy (kx_NC, fun r' S'' => r' = some (kx_i q) ∧ S'' = (I0, J0, none)) 79 [some (kx_r 11 (0)), x1, some (kx_i a1), some (kx_i v3), x4, x5, some (kx_i v6), some (kx_i v7), x8] [] (I, J, none)) ∧ (∀ (v3 : Int32) (v4 : Int32) (v5 : Int32) (v6 : Int32) (v7 : Int32) (v8 : Int32) (s0 : Int32) (s1 : Int32) (x1 x4 x5 x8 : Option kx_V) (I : kI) (J : kJ) (q : Int32), I = I0 → J = J0 → G_X11_unlitBy a0 a1 n 93 v3 v4 v5 v6 v7 v8 s0 s1 I J = some q → kx_Run tb_X11_unlitBy (kx_NC, fun r' S'' => r' = some (kx_i q) ∧ S'' = (I0, J0, none)) 93 [some (kx_r 11 (0)), x1, some (kx_i a1), some (kx_i v3), x4, x5, some (kx_i v6), some (kx_i v7), x8] [] (I, J, none)) ∧ (∀ (v3 : Int32) (v4 : Int32) (v5 : Int32) (v6 : Int32) (v7 : Int32) (v8 : Int32) (s0 : Int32) (s1 : Int32) (x1 x4 x5 x8 : Option kx_V) (I : kI) (J : kJ) (q : Int32), I = I0 → J = J0 → G_X11_unlitBy a0 a1 n 94 v3 v4 v5 v6 v7 v8 s0 s1 I J = some q → kx_Run tb_X11_unlitBy (kx_NC, fun r' S'' => r' = some (kx_i q) ∧ S'' = (I0, J0, none)) 94 [some (kx_r 11 (0)), x1, some (kx_i a1), some (kx_i v3), x4, x5, some (kx_i v6), some (kx_i v7), x8] [kx_i s0] (I, J, none)) ∧ (∀ (v3 : Int32) (v4 : Int32) (v5 : Int32) (v6 : Int32) (v7 : Int32) (v8 : Int32) (s0 : Int32) (s1 : Int32) (x1 x3 x4 x5 : Option kx_V) (I : kI) (J : kJ) (q : Int32), I = I0 → J = J0 → G_X11_unlitBy a0 a1 n 112 v3 v4 v5 v6 v7 v8 s0 s1 I J = some q → kx_Run tb_X11_unlitBy (kx_NC, fun r' S'' => r' = some (kx_i q) ∧ S'' = (I0, J0, none)) 112 [some (kx_r 11 (0)), x1, some (kx_i a1), x3, x4, x5, some (kx_i v6), some (kx_i v7), some (kx_i v8)] [kx_i s1, kx_i s0] (I, J, none)) ∧ (∀ (v3 : Int32) (v4 : Int32) (v5 : Int32) (v6 : Int32) (v7 : Int32) (v8 : Int32) (s0 : Int32) (s1 : Int32) (x1 x4 x5 : Option kx_V) (I : kI) (J : kJ) (q : Int32), I = I0 → J = J0 → G_X11_unlitBy a0 a1 n 133 v3 v4 v5 v6 v7 v8 s0 s1 I J = some q → kx_Run tb_X11_unlitBy (kx_NC, fun r' S'' => r' = some (kx_i q) ∧ S'' = (I0, J0, none)) 133 [some (kx_r 11 (0)), x1, some (kx_i a1), some (kx_i v3), x4, x5, some (kx_i v6), some (kx_i v7), some (kx_i v8)] [] (I, J, none)) ∧ (∀ (v3 : Int32) (v4 : Int32) (v5 : Int32) (v6 : Int32) (v7 : Int32) (v8 : Int32) (s0 : Int32) (s1 : Int32) (x1 x4 x5 : Option kx_V) (I : kI) (J : kJ) (q : Int32), I = I0 → J = J0 → G_X11_unlitBy a0 a1 n 134 v3 v4 v5 v6 v7 v8 s0 s1 I J = some q → kx_Run tb_X11_unlitBy (kx_NC, fun r' S'' => r' = some (kx_i q) ∧ S'' = (I0, J0, none)) 134 [some (kx_r 11 (0)), x1, some (kx_i a1), some (kx_i v3), x4, x5, some (kx_i v6), some (kx_i v7), some (kx_i v8)] [kx_i s0] (I, J, none)) ∧ (∀ (v3 : Int32) (v4 : Int32) (v5 : Int32) (v6 : Int32) (v7 : Int32) (v8 : Int32) (s0 : Int32) (s1 : Int32) (x1 x6 x8 : Option kx_V) (I : kI) (J : kJ) (q : Int32), I = I0 → J = J0 → G_X11_unlitBy a0 a1 n 161 v3 v4 v5 v6 v7 v8 s0 s1 I J = some q → kx_Run tb_X11_unlitBy (kx_NC, fun r' S'' => r' = some (kx_i q) ∧ S'' = (I0, J0, none)) 161 [some (kx_r 11 (0)), x1, some (kx_i a1), some (kx_i v3), some (kx_i v4), some (kx_i v5), x6, some (kx_i v7), x8] [kx_i s0] (I, J, none)) ∧ (∀ (v3 : Int32) (v4 : Int32) (v5 : Int32) (v6 : Int32) (v7 : Int32) (v8 : Int32) (s0 : Int32) (s1 : Int32) (x1 x6 x8 : Option kx_V) (I : kI) (J : kJ) (q : Int32), I = I0 → J = J0 → G_X11_unlitBy a0 a1 n 162 v3 v4 v5 v6 v7 v8 s0 s1 I J = some q → kx_Run tb_X11_unlitBy (kx_NC, fun r' S'' => r' = some (kx_i q) ∧ S'' = (I0, J0, none)) 162 [some (kx_r 11 (0)), x1, some (kx_i a1), some (kx_i v3), some (kx_i v4), some (kx_i v5), x6, some (kx_i v7), x8] [kx_i s1, kx_i s0] (I, J, none)) ∧ (∀ (v3 : Int32) (v4 : Int32) (v5 : Int32) (v6 : Int32) (v7 : Int32) (v8 : Int32) (s0 : Int32) (s1 : Int32) (x1 x3 x8 : Option kx_V) (I : kI) (J : kJ) (q : Int32), I = I0 → J = J0 → G_X11_unlitBy a0 a1 n 194 v3 v4 v5 v6 v7 v8 s0 s1 I J = some q → kx_Run tb_X11_unlitBy (kx_NC, fun r' S'' => r' = some (kx_i q) ∧ S'' = (I0, J0, none)) 194 [some (kx_r 11 (0)), x1, some (kx_i a1), x3, some (kx_i v4), some (kx_i v5), some (kx_i v6), some (kx_i v7), x8] [kx_i s0] (I, J, none)) := by
  intro n
  induction n with
  | zero => refine ⟨?_, ?_, ?_, ?_, ?_, ?_, ?_, ?_, ?_, ?_, ?_, ?_⟩ <;> (intros; rename_i h; have h2 : (none : Option _) = some _ := h; cases h2)
  | succ n ih =>
    refine ⟨?_, ?_, ?_, ?_, ?_, ?_, ?_, ?_, ?_, ?_, ?_, ?_⟩
    · intro v3 v4 v5 v6 v7 v8 s0 s1 x1 x4 x5 x6 x7 x8  I J q hI0 hJ0 hG
      subst hI0 hJ0
      rw [G_X11_unlitBy_18] at hG
      refine kx_start [18, 35, 43, 79, 93, 94, 112, 133, 134, 161, 162, 194] 112 ?_
      obtain ⟨hq, hG⟩ := kif_some hG
      refine ⟨hq, ?_⟩
      refine ⟨fun h1 => ?_, fun h1 => ?_⟩
      · replace h1 : (I 41 0 ((7 : Int32)).toNatClampNeg) ≤ 0 := h1
        rw [kif_pos h1] at hG
        exact (ih.2.1) _ _ _ _ _ _ _ _ _ _ _ _ _ _ _ q rfl rfl hG
      · replace h1 : ¬ (I 41 0 ((7 : Int32)).toNatClampNeg) ≤ 0 := h1
        rw [kif_neg h1] at hG
        exact (ih.2.1) _ _ _ _ _ _ _ _ _ _ _ _ _ _ _ q rfl rfl hG
    · intro v3 v4 v5 v6 v7 v8 s0 s1 x1 x5 x6 x7 x8  I J q hI0 hJ0 hG
      subst hI0 hJ0
      rw [G_X11_unlitBy_35] at hG
      refine kx_start [18, 35, 43, 79, 93, 94, 112, 133, 134, 161, 162, 194] 112 ?_
      exact (ih.2.2.1) _ _ _ _ _ _ _ _ _ _ _ _ q rfl rfl hG
    · intro v3 v4 v5 v6 v7 v8 s0 s1 x1 x8  I J q hI0 hJ0 hG
      subst hI0 hJ0
      rw [G_X11_unlitBy_43] at hG
      refine kx_start [18, 35, 43, 79, 93, 94, 112, 133, 134, 161, 162, 194] 112 ?_
      refine ⟨fun h2 => ?_, fun h2 => ?_⟩
      · replace h2 : a1 ≤ v7 := h2
        rw [kif_pos h2] at hG
        replace hG := Option.some.inj hG
        subst hG
        exact ⟨rfl, rfl⟩
      · replace h2 : ¬ a1 ≤ v7 := h2
        rw [kif_neg h2] at hG
        obtain ⟨hq, hG⟩ := kif_some hG
        refine ⟨hq, ?_⟩
        refine ⟨fun h3 => ?_, fun h3 => ?_⟩
        · replace h3 : (I 45 0 (v7).toNatClampNeg) = 0 := h3
          rw [kif_pos h3] at hG
          exact (ih.2.2.2.2.1) _ _ _ _ _ _ _ _ _ _ _ _ _ _ q rfl rfl hG
        · replace h3 : ¬ (I 45 0 (v7).toNatClampNeg) = 0 := h3
          rw [kif_neg h3] at hG
          obtain ⟨hq, hG⟩ := kif_some hG
          refine ⟨hq, ?_⟩
          refine ⟨fun h4 => ?_, fun h4 => ?_⟩
          · replace h4 : ¬ (I 46 0 (v7).toNatClampNeg) = 0 := h4
            rw [kif_neg h4] at hG
            exact (ih.2.2.2.1) _ _ _ _ _ _ _ _ _ _ _ _ _ _ q rfl rfl hG
          · replace h4 : (I 46 0 (v7).toNatClampNeg) = 0 := h4
            rw [kif_pos h4] at hG
            refine ⟨fun h5 => ?_, fun h5 => ?_⟩
            · replace h5 : v4 = 0 := h5
              rw [kif_pos h5] at hG
              exact (ih.2.2.2.2.1) _ _ _ _ _ _ _ _ _ _ _ _ _ _ q rfl rfl hG
            · replace h5 : ¬ v4 = 0 := h5
              rw [kif_neg h5] at hG
              refine ⟨fun h6 => ?_, fun h6 => ?_⟩
              · replace h6 : ¬ v5 = 0 := h6
                rw [kif_neg h6] at hG
                exact (ih.2.2.2.2.1) _ _ _ _ _ _ _ _ _ _ _ _ _ _ q rfl rfl hG
              · replace h6 : v5 = 0 := h6
                rw [kif_pos h6] at hG
                exact (ih.2.2.2.1) _ _ _ _ _ _ _ _ _ _ _ _ _ _ q rfl rfl hG
    · intro v3 v4 v5 v6 v7 v8 s0 s1 x1 x4 x5 x8  I J q hI0 hJ0 hG
      subst hI0 hJ0
      rw [G_X11_unlitBy_79] at hG
      refine kx_start [18, 35, 43, 79, 93, 94, 112, 133, 134, 161, 162, 194] 112 ?_
      obtain ⟨hq, hG⟩ := kif_some hG
      refine ⟨hq, ?_⟩
      refine ⟨fun h7 => ?_, fun h7 => ?_⟩
      · replace h7 : v3 < (I 41 0 ((3 : Int32)).toNatClampNeg) := h7
        rw [kif_pos h7] at hG
        exact (ih.2.2.2.2.1) _ _ _ _ _ _ _ _ _ _ _ _ _ _ q rfl rfl hG
      · replace h7 : ¬ v3 < (I 41 0 ((3 : Int32)).toNatClampNeg) := h7
        rw [kif_neg h7] at hG
        exact (ih.2.2.2.2.2.1) _ _ _ _ _ _ _ _ _ _ _ _ _ _ q rfl rfl hG
    · intro v3 v4 v5 v6 v7 v8 s0 s1 x1 x4 x5 x8  I J q hI0 hJ0 hG
      subst hI0 hJ0
      rw [G_X11_unlitBy_93] at hG
      refine kx_start [18, 35, 43, 79, 93, 94, 112, 133, 134, 161, 162, 194] 112 ?_
      exact (ih.2.2.2.2.2.1) _ _ _ _ _ _ _ _ _ _ _ _ _ _ q rfl rfl hG
    · intro v3 v4 v5 v6 v7 v8 s0 s1 x1 x4 x5 x8  I J q hI0 hJ0 hG
      subst hI0 hJ0
      rw [G_X11_unlitBy_94] at hG
      refine kx_start [18, 35, 43, 79, 93, 94, 112, 133, 134, 161, 162, 194] 112 ?_
      refine ⟨fun h8 => ?_, fun h8 => ?_⟩
      · replace h8 : s0 = 0 := h8
        rw [kif_pos h8] at hG
        exact (ih.2.2.2.2.2.2.1) _ _ _ _ _ _ _ _ _ _ _ _ _ _ q rfl rfl hG
      · replace h8 : ¬ s0 = 0 := h8
        rw [kif_neg h8] at hG
        obtain ⟨hq, hG⟩ := kif_some hG
        refine ⟨hq, ?_⟩
        exact (ih.2.2.2.2.2.2.1) _ _ _ _ _ _ _ _ _ _ _ _ _ _ q rfl rfl hG
    · intro v3 v4 v5 v6 v7 v8 s0 s1 x1 x3 x4 x5  I J q hI0 hJ0 hG
      subst hI0 hJ0
      rw [G_X11_unlitBy_112] at hG
      refine kx_start [18, 35, 43, 79, 93, 94, 112, 133, 134, 161, 162, 194] 112 ?_
      refine ⟨fun h9 => ?_, fun h9 => ?_⟩
      · replace h9 : v8 = 0 := h9
        rw [kif_pos h9] at hG
        exact (ih.2.2.2.2.2.2.2.1) _ _ _ _ _ _ _ _ _ _ _ _ _ q rfl rfl hG
      · replace h9 : ¬ v8 = 0 := h9
        rw [kif_neg h9] at hG
        obtain ⟨hq, hG⟩ := kif_some hG
        refine ⟨hq, ?_⟩
        refine ⟨fun h10 => ?_, fun h10 => ?_⟩
        · replace h10 : ¬ (I 46 0 (v7).toNatClampNeg) = 0 := h10
          rw [kif_neg h10] at hG
          exact (ih.2.2.2.2.2.2.2.1) _ _ _ _ _ _ _ _ _ _ _ _ _ q rfl rfl hG
        · replace h10 : (I 46 0 (v7).toNatClampNeg) = 0 := h10
          rw [kif_pos h10] at hG
          exact (ih.2.2.2.2.2.2.2.2.1) _ _ _ _ _ _ _ _ _ _ _ _ _ q rfl rfl hG
    · intro v3 v4 v5 v6 v7 v8 s0 s1 x1 x4 x5  I J q hI0 hJ0 hG
      subst hI0 hJ0
      rw [G_X11_unlitBy_133] at hG
      refine kx_start [18, 35, 43, 79, 93, 94, 112, 133, 134, 161, 162, 194] 112 ?_
      exact (ih.2.2.2.2.2.2.2.2.1) _ _ _ _ _ _ _ _ _ _ _ _ _ q rfl rfl hG
    · intro v3 v4 v5 v6 v7 v8 s0 s1 x1 x4 x5  I J q hI0 hJ0 hG
      subst hI0 hJ0
      rw [G_X11_unlitBy_134] at hG
      refine kx_start [18, 35, 43, 79, 93, 94, 112, 133, 134, 161, 162, 194] 112 ?_
      obtain ⟨hq, hG⟩ := kif_some hG
      refine ⟨hq, ?_⟩
      refine ⟨fun h11 => ?_, fun h11 => ?_⟩
      · replace h11 : (I 45 0 (v7).toNatClampNeg) = 0 := h11
        rw [kif_pos h11] at hG
        exact (ih.2.2.2.2.2.2.2.2.2.1) _ _ _ _ _ _ _ _ _ _ _ _ _ q rfl rfl hG
      · replace h11 : ¬ (I 45 0 (v7).toNatClampNeg) = 0 := h11
        rw [kif_neg h11] at hG
        refine ⟨fun h12 => ?_, fun h12 => ?_⟩
        · replace h12 : ¬ v8 = 0 := h12
          rw [kif_neg h12] at hG
          exact (ih.2.2.2.2.2.2.2.2.2.1) _ _ _ _ _ _ _ _ _ _ _ _ _ q rfl rfl hG
        · replace h12 : v8 = 0 := h12
          rw [kif_pos h12] at hG
          exact (ih.2.2.2.2.2.2.2.2.2.2.1) _ _ _ _ _ _ _ _ _ _ _ _ _ q rfl rfl hG
    · intro v3 v4 v5 v6 v7 v8 s0 s1 x1 x6 x8  I J q hI0 hJ0 hG
      subst hI0 hJ0
      rw [G_X11_unlitBy_161] at hG
      refine kx_start [18, 35, 43, 79, 93, 94, 112, 133, 134, 161, 162, 194] 112 ?_
      exact (ih.2.2.2.2.2.2.2.2.2.2.1) _ _ _ _ _ _ _ _ _ _ _ _ _ q rfl rfl hG
    · intro v3 v4 v5 v6 v7 v8 s0 s1 x1 x6 x8  I J q hI0 hJ0 hG
      subst hI0 hJ0
      rw [G_X11_unlitBy_162] at hG
      refine kx_start [18, 35, 43, 79, 93, 94, 112, 133, 134, 161, 162, 194] 112 ?_
      obtain ⟨hq, hG⟩ := kif_some hG
      refine ⟨hq, ?_⟩
      refine ⟨fun h13 => ?_, fun h13 => ?_⟩
      · replace h13 : (I 47 0 (v7).toNatClampNeg) = 0 := h13
        rw [kif_pos h13] at hG
        exact (ih.2.2.2.2.2.2.2.2.2.2.2) _ _ _ _ _ _ _ _ _ _ _ _ _ q rfl rfl hG
      · replace h13 : ¬ (I 47 0 (v7).toNatClampNeg) = 0 := h13
        rw [kif_neg h13] at hG
        obtain ⟨hq, hG⟩ := kif_some hG
        refine ⟨hq, ?_⟩
        exact (ih.2.2.2.2.2.2.2.2.2.2.2) _ _ _ _ _ _ _ _ _ _ _ _ _ q rfl rfl hG
    · intro v3 v4 v5 v6 v7 v8 s0 s1 x1 x3 x8  I J q hI0 hJ0 hG
      subst hI0 hJ0
      rw [G_X11_unlitBy_194] at hG
      refine kx_start [18, 35, 43, 79, 93, 94, 112, 133, 134, 161, 162, 194] 112 ?_
      exact (ih.2.2.1) _ _ _ _ _ _ _ _ _ _ _ _ q rfl rfl hG
set_option maxRecDepth 100000 in
set_option maxHeartbeats 4000000 in
theorem cs_X11_unlitBy (a0 : Int32) (a1 : Int32) (I : kI) (J : kJ) (q : Int32) (hG : E_X11_unlitBy a0 a1 I J = some q) : sp_X11_unlitBy [kx_r 11 0, kx_i a0, kx_i a1] (I, J, none) (some (kx_i q)) (I, J, none) := by
  unfold E_X11_unlitBy at hG
  refine kx_start [18, 35, 43, 79, 93, 94, 112, 133, 134, 161, 162, 194] 112 ?_
  obtain ⟨hq, hG⟩ := kif_some hG
  refine ⟨hq, ?_⟩
  refine ⟨fun h1 => ?_, fun h1 => ?_⟩
  · replace h1 : ¬ (I 41 0 ((6 : Int32)).toNatClampNeg) = (1 : Int32) := h1
    rw [kif_neg h1] at hG
    exact ((cl_X11_unlitBy a0 a1 I J kfu).1) _ _ _ _ _ _ _ _ _ _ _ _ _ _ _ _ q rfl rfl hG
  · replace h1 : (I 41 0 ((6 : Int32)).toNatClampNeg) = (1 : Int32) := h1
    rw [kif_pos h1] at hG
    exact ((cl_X11_unlitBy a0 a1 I J kfu).1) _ _ _ _ _ _ _ _ _ _ _ _ _ _ _ _ q rfl rfl hG

noncomputable def E_X10_says (a0 : Int32) (a1 : Int32) (I : kI) (J : kJ) : Option (Int32 × kI × kJ) := (kif ((F_X10_isWithin a0 0 7 I J) = 0) (kif (pre_X10_refuse (-102 : Int32) I J) (some ((F_X10_refuse (-102 : Int32) I J).1, (F_X10_refuse (-102 : Int32) I J).2.1, (F_X10_refuse (-102 : Int32) I J).2.2)) none) (kif (pre_X10_isKind a1 I J) (kif ((F_X10_isKind a1 I J) = 0) (kif (pre_X10_refuse (-102 : Int32) I J) (some ((F_X10_refuse (-102 : Int32) I J).1, (F_X10_refuse (-102 : Int32) I J).2.1, (F_X10_refuse (-102 : Int32) I J).2.2)) none) (kif ((F_X4_isEmpty ((a0).toNatClampNeg) I J) = 0) (kif ((F_X2_has (0) (F_X4_shipNumber ((a0).toNatClampNeg) I J) I J) = 0) (kif (pre_X10_refuse (-103 : Int32) I J) (some ((F_X10_refuse (-103 : Int32) I J).1, (F_X10_refuse (-103 : Int32) I J).2.1, (F_X10_refuse (-103 : Int32) I J).2.2)) none) (kif (pre_X2_kindOf (0) (F_X4_shipNumber ((a0).toNatClampNeg) I J) I J) (kif ((F_X10_isUnder (F_X2_kindOf (0) (F_X4_shipNumber ((a0).toNatClampNeg) I J) I J) a1 I J) = 0) (kif (pre_X10_refuse (-103 : Int32) I J) (some ((F_X10_refuse (-103 : Int32) I J).1, (F_X10_refuse (-103 : Int32) I J).2.1, (F_X10_refuse (-103 : Int32) I J).2.2)) none) (kbd (E_X10_saidAs a1 (F_X4_shipNumber ((a0).toNatClampNeg) I J) I J) (fun q1 => (some (q1, I, J))))) none)) (kif (pre_X10_refuse (-104 : Int32) I J) (some ((F_X10_refuse (-104 : Int32) I J).1, (F_X10_refuse (-104 : Int32) I J).2.1, (F_X10_refuse (-104 : Int32) I J).2.2)) none))) none))
def sp_X10_says : kx_Sp := fun av0 S0 r0 S1 => ∃ (a0 : Int32) (a1 : Int32) (I : kI) (J : kJ) (q : Int32 × kI × kJ) (hG : E_X10_says a0 a1 I J = some q), av0 = [kx_r 10 0, kx_i a0, kx_i a1] ∧ S0 = (I, J, none) ∧ r0 = (some (kx_i q.1)) ∧ S1 = (q.2.1, q.2.2, none)
theorem cs_X10_says (a0 : Int32) (a1 : Int32) (I : kI) (J : kJ) (q : Int32 × kI × kJ) (hG : E_X10_says a0 a1 I J = some q) : sp_X10_says [kx_r 10 0, kx_i a0, kx_i a1] (I, J, none) (some (kx_i q.1)) (q.2.1, q.2.2, none) := ⟨a0, a1, I, J, q, hG, rfl, rfl, rfl, rfl⟩
noncomputable def E_X10_sky  (I : kI) (J : kJ) : Option (Int32 × kI × kJ) := (kbd (E_X7_readInto (0) (3) I J) (fun q1 => (kif (q1.1 = (-1 : Int32)) (kif (pre_X5_become (0) (3) (kw q1.2.1 7 0 1 (0 : Int32)) q1.2.2) (some (((F_X5_become (0) (3) (kw q1.2.1 7 0 1 (0 : Int32)) q1.2.2).1 5 3 2), (F_X5_become (0) (3) (kw q1.2.1 7 0 1 (0 : Int32)) q1.2.2).1, (F_X5_become (0) (3) (kw q1.2.1 7 0 1 (0 : Int32)) q1.2.2).2)) none) (kif (pre_X10_refuse (-102 : Int32) (kw q1.2.1 7 0 1 (0 : Int32)) q1.2.2) (some (((-300 : Int32) - q1.1), (F_X10_refuse (-102 : Int32) (kw q1.2.1 7 0 1 (0 : Int32)) q1.2.2).2.1, (F_X10_refuse (-102 : Int32) (kw q1.2.1 7 0 1 (0 : Int32)) q1.2.2).2.2)) none))))
set_option maxRecDepth 100000 in
set_option maxHeartbeats 4000000 in
theorem cs_X10_sky  (I : kI) (J : kJ) (q : Int32 × kI × kJ) (hG : E_X10_sky  I J = some q) : sp_X10_sky [kx_r 10 0] (I, J, none) (some (kx_i q.1)) (q.2.1, q.2.2, none) := by
  unfold E_X10_sky at hG
  refine kx_start [] 35 ?_
  obtain ⟨q1, hq, hG⟩ := kbd_some hG
  refine ⟨_, _, cs_X7_readInto (0) (3) I J q1 hq, rfl, ?_⟩
  refine ⟨fun h1 => ?_, fun h1 => ?_⟩
  · replace h1 : q1.1 = (-1 : Int32) := h1
    rw [kif_pos h1] at hG
    obtain ⟨hq, hG⟩ := kif_some hG
    refine ⟨_, _, cs_X5_become (0) (3) (kw q1.2.1 7 0 1 (0 : Int32)) q1.2.2 hq, rfl, ?_⟩
    replace hG := Option.some.inj hG
    subst hG
    exact ⟨rfl, rfl⟩
  · replace h1 : ¬ q1.1 = (-1 : Int32) := h1
    rw [kif_neg h1] at hG
    obtain ⟨hq, hG⟩ := kif_some hG
    refine ⟨_, _, cs_X10_refuse (-102 : Int32) (kw q1.2.1 7 0 1 (0 : Int32)) q1.2.2 hq, rfl, ?_⟩
    replace hG := Option.some.inj hG
    subst hG
    exact ⟨rfl, rfl⟩
noncomputable def E_X10_weather (a0 : Int32) (I : kI) (J : kJ) : Option (Int32 × kI × kJ) := (kif (0 ≤ a0) (kif (pre_X5_weatherAt (0) a0 I J) (some ((F_X5_weatherAt (0) a0 I J), I, J)) none) (kif (pre_X10_refuse (-102 : Int32) I J) (some ((F_X10_refuse (-102 : Int32) I J).1, (F_X10_refuse (-102 : Int32) I J).2.1, (F_X10_refuse (-102 : Int32) I J).2.2)) none))
def sp_X10_weather : kx_Sp := fun av0 S0 r0 S1 => ∃ (a0 : Int32) (I : kI) (J : kJ) (q : Int32 × kI × kJ) (hG : E_X10_weather a0 I J = some q), av0 = [kx_r 10 0, kx_i a0] ∧ S0 = (I, J, none) ∧ r0 = (some (kx_i q.1)) ∧ S1 = (q.2.1, q.2.2, none)
theorem cs_X10_weather (a0 : Int32) (I : kI) (J : kJ) (q : Int32 × kI × kJ) (hG : E_X10_weather a0 I J = some q) : sp_X10_weather [kx_r 10 0, kx_i a0] (I, J, none) (some (kx_i q.1)) (q.2.1, q.2.2, none) := ⟨a0, I, J, q, hG, rfl, rfl, rfl, rfl⟩
noncomputable def E_X10_keeper (a0 : Int32) (I : kI) (J : kJ) : Option (Int32 × kI × kJ) := (kif ((F_X10_isWithin a0 (0 : Int32) (2 : Int32) I J) = 0) (kif (pre_X10_refuse (-102 : Int32) I J) (some ((F_X10_refuse (-102 : Int32) I J).1, (F_X10_refuse (-102 : Int32) I J).2.1, (F_X10_refuse (-102 : Int32) I J).2.2)) none) (kif ((F_X1_isFull (0) I J) = 0) (kbd (E_X1_hire (0) a0 I J) (fun q1 => (some (q1.1, q1.2.1, q1.2.2)))) (kif (pre_X10_refuse (-106 : Int32) I J) (some ((F_X10_refuse (-106 : Int32) I J).1, (F_X10_refuse (-106 : Int32) I J).2.1, (F_X10_refuse (-106 : Int32) I J).2.2)) none)))
set_option maxRecDepth 100000 in
set_option maxHeartbeats 4000000 in
theorem cs_X10_keeper (a0 : Int32) (I : kI) (J : kJ) (q : Int32 × kI × kJ) (hG : E_X10_keeper a0 I J = some q) : sp_X10_keeper [kx_r 10 0, kx_i a0] (I, J, none) (some (kx_i q.1)) (q.2.1, q.2.2, none) := by
  unfold E_X10_keeper at hG
  refine kx_start [] 29 ?_
  refine ⟨_, _, cs_X10_isWithin a0 (0 : Int32) (2 : Int32) I J, rfl, ?_⟩
  refine ⟨fun h1 => ?_, fun h1 => ?_⟩
  · replace h1 : ¬ (F_X10_isWithin a0 (0 : Int32) (2 : Int32) I J) = 0 := h1
    rw [kif_neg h1] at hG
    refine ⟨_, _, cs_X1_isFull (0) I J, rfl, ?_⟩
    refine ⟨fun h2 => ?_, fun h2 => ?_⟩
    · replace h2 : (F_X1_isFull (0) I J) = 0 := h2
      rw [kif_pos h2] at hG
      obtain ⟨q1, hq, hG⟩ := kbd_some hG
      refine ⟨_, _, cs_X1_hire (0) a0 I J q1 hq, rfl, ?_⟩
      replace hG := Option.some.inj hG
      subst hG
      exact ⟨rfl, rfl⟩
    · replace h2 : ¬ (F_X1_isFull (0) I J) = 0 := h2
      rw [kif_neg h2] at hG
      obtain ⟨hq, hG⟩ := kif_some hG
      refine ⟨_, _, cs_X10_refuse (-106 : Int32) I J hq, rfl, ?_⟩
      replace hG := Option.some.inj hG
      subst hG
      exact ⟨rfl, rfl⟩
  · replace h1 : (F_X10_isWithin a0 (0 : Int32) (2 : Int32) I J) = 0 := h1
    rw [kif_pos h1] at hG
    obtain ⟨hq, hG⟩ := kif_some hG
    refine ⟨_, _, cs_X10_refuse (-102 : Int32) I J hq, rfl, ?_⟩
    replace hG := Option.some.inj hG
    subst hG
    exact ⟨rfl, rfl⟩
noncomputable def G_X10_againstPlanIn (a0 : Int32) : Nat → Nat → Int32 → kI → kJ → Option (Int32)
  | 0, _, _, _, _ => none
  | n + 1, pc, v4, I, J => (bif Nat.beq pc 38 then (kif ((24 : Int32) ≤ v4) (some (0 : Int32)) (kif (pre_X4_valueAt ((a0).toNatClampNeg) v4 I J) (kif ((lg_cmp (F_X4_valueAt ((a0).toNatClampNeg) v4 I J) (-1 : Int64)) < 0) (some (-102 : Int32)) (kif ((lg_cmp (F_X4_valueAt ((a0).toNatClampNeg) v4 I J) (Int32.toInt64 (I 1 0 5))) < 0) ((G_X10_againstPlanIn a0 n) 38 (v4 + (1)) I J) (some (-102 : Int32)))) none)) else none)
theorem G_X10_againstPlanIn_38 (a0 : Int32) (n : Nat) (v4 : Int32) (I : kI) (J : kJ) : G_X10_againstPlanIn a0 (n + 1) 38 v4 I J = (kif ((24 : Int32) ≤ v4) (some (0 : Int32)) (kif (pre_X4_valueAt ((a0).toNatClampNeg) v4 I J) (kif ((lg_cmp (F_X4_valueAt ((a0).toNatClampNeg) v4 I J) (-1 : Int64)) < 0) (some (-102 : Int32)) (kif ((lg_cmp (F_X4_valueAt ((a0).toNatClampNeg) v4 I J) (Int32.toInt64 (I 1 0 5))) < 0) ((G_X10_againstPlanIn a0 n) 38 (v4 + (1)) I J) (some (-102 : Int32)))) none)) := rfl
noncomputable def E_X10_againstPlanIn (a0 : Int32) (I : kI) (J : kJ) : Option (Int32) := (kbd (E_X10_againstRowIn a0 I J) (fun q1 => (kif ((F_X10_isWithin a0 0 7 I J) = 0) (kif (q1 = 0) (some q1) (some q1)) (kif (q1 = 0) (kif ((F_X4_hasElements ((a0).toNatClampNeg) (0 : Int32) (24 : Int32) I J) = 0) (some (-102 : Int32)) ((G_X10_againstPlanIn a0 kfu) 38 (0 : Int32) I J)) (some q1)))))
def sp_X10_againstPlanIn : kx_Sp := fun av0 S0 r0 S1 => ∃ (a0 : Int32) (I : kI) (J : kJ) (q : Int32) (hG : E_X10_againstPlanIn a0 I J = some q), av0 = [kx_r 10 0, kx_i a0] ∧ S0 = (I, J, none) ∧ r0 = (some (kx_i q)) ∧ S1 = (I, J, none)
theorem cs_X10_againstPlanIn (a0 : Int32) (I : kI) (J : kJ) (q : Int32) (hG : E_X10_againstPlanIn a0 I J = some q) : sp_X10_againstPlanIn [kx_r 10 0, kx_i a0] (I, J, none) (some (kx_i q)) (I, J, none) := ⟨a0, I, J, q, hG, rfl, rfl, rfl, rfl⟩
noncomputable def G_X10_assignAll (o0 : Nat) (o1 : Nat) : Nat → Nat → Int32 → kI → kJ → Option (kI × kJ)
  | 0, _, _, _, _ => none
  | n + 1, pc, v2, I, J => (bif Nat.beq pc 7 then (kif ((24 : Int32) ≤ v2) (some (I, J)) (kif (pre_X4_valueAt (o1) v2 I J) (kif (pre_X6_assign (o0) v2 (Int64.toInt32 (F_X4_valueAt (o1) v2 I J)) I J) ((G_X10_assignAll o0 o1 n) 7 (v2 + (1)) (F_X6_assign (o0) v2 (Int64.toInt32 (F_X4_valueAt (o1) v2 I J)) I J).1 (F_X6_assign (o0) v2 (Int64.toInt32 (F_X4_valueAt (o1) v2 I J)) I J).2) none) none)) else none)
theorem G_X10_assignAll_7 (o0 : Nat) (o1 : Nat) (n : Nat) (v2 : Int32) (I : kI) (J : kJ) : G_X10_assignAll o0 o1 (n + 1) 7 v2 I J = (kif ((24 : Int32) ≤ v2) (some (I, J)) (kif (pre_X4_valueAt (o1) v2 I J) (kif (pre_X6_assign (o0) v2 (Int64.toInt32 (F_X4_valueAt (o1) v2 I J)) I J) ((G_X10_assignAll o0 o1 n) 7 (v2 + (1)) (F_X6_assign (o0) v2 (Int64.toInt32 (F_X4_valueAt (o1) v2 I J)) I J).1 (F_X6_assign (o0) v2 (Int64.toInt32 (F_X4_valueAt (o1) v2 I J)) I J).2) none) none)) := rfl
noncomputable def E_X10_assignAll (o0 : Nat) (o1 : Nat) (I : kI) (J : kJ) : Option (kI × kJ) := ((G_X10_assignAll o0 o1 kfu) 7 (0 : Int32) I J)
def sp_X10_assignAll : kx_Sp := fun av0 S0 r0 S1 => ∃ (o0 : Nat) (o1 : Nat) (I : kI) (J : kJ) (q : kI × kJ) (hG : E_X10_assignAll o0 o1 I J = some q), av0 = [kx_r 6 o0, kx_r 4 o1] ∧ S0 = (I, J, none) ∧ r0 = (none) ∧ S1 = (q.1, q.2, none)
theorem cs_X10_assignAll (o0 : Nat) (o1 : Nat) (I : kI) (J : kJ) (q : kI × kJ) (hG : E_X10_assignAll o0 o1 I J = some q) : sp_X10_assignAll [kx_r 6 o0, kx_r 4 o1] (I, J, none) (none) (q.1, q.2, none) := ⟨o0, o1, I, J, q, hG, rfl, rfl, rfl, rfl⟩
noncomputable def E_X10_plans (a0 : Int32) (I : kI) (J : kJ) : Option (Int32 × kI × kJ) := (kbd (E_X10_againstPlanIn a0 I J) (fun q1 => (kif (q1 = 0) (kif ((F_X10_isWithin a0 0 7 I J) = 0) none (kbd (E_X10_assignAll (0) ((a0).toNatClampNeg) I J) (fun q2 => (some ((1 : Int32), q2.1, q2.2))))) (kif (pre_X10_refuse q1 I J) (some ((F_X10_refuse q1 I J).1, (F_X10_refuse q1 I J).2.1, (F_X10_refuse q1 I J).2.2)) none))))
def sp_X10_plans : kx_Sp := fun av0 S0 r0 S1 => ∃ (a0 : Int32) (I : kI) (J : kJ) (q : Int32 × kI × kJ) (hG : E_X10_plans a0 I J = some q), av0 = [kx_r 10 0, kx_i a0] ∧ S0 = (I, J, none) ∧ r0 = (some (kx_i q.1)) ∧ S1 = (q.2.1, q.2.2, none)
theorem cs_X10_plans (a0 : Int32) (I : kI) (J : kJ) (q : Int32 × kI × kJ) (hG : E_X10_plans a0 I J = some q) : sp_X10_plans [kx_r 10 0, kx_i a0] (I, J, none) (some (kx_i q.1)) (q.2.1, q.2.2, none) := ⟨a0, I, J, q, hG, rfl, rfl, rfl, rfl⟩
noncomputable def E_X10_keeperOf (a0 : Int32) (a1 : Int32) (I : kI) (J : kJ) : Option (Int32 × kI × kJ) := (kif ((F_X1_has (0) a0 I J) = 0) (kif (pre_X10_refuse (-102 : Int32) I J) (some ((F_X10_refuse (-102 : Int32) I J).1, (F_X10_refuse (-102 : Int32) I J).2.1, (F_X10_refuse (-102 : Int32) I J).2.2)) none) (kif (a1 = (0)) (kif (pre_X1_rankOf (0) a0 I J) (some ((F_X1_rankOf (0) a0 I J), I, J)) none) (kif (a1 = (1)) (kif (pre_X1_tiredOf (0) a0 I J) (some ((F_X1_tiredOf (0) a0 I J), I, J)) none) (kif (a1 = (2)) (kif (pre_X1_lastsOf (0) a0 I J) (some ((F_X1_lastsOf (0) a0 I J), I, J)) none) (kif (a1 = (3)) (some ((F_X6_hoursPlannedFor (0) a0 I J), I, J)) (kif (a1 = (4)) (kif (pre_X1_tendedBy (0) a0 I J) (some ((F_X1_tendedBy (0) a0 I J), I, J)) none) (kif (a1 = (5)) (kif (pre_X1_sleptBy (0) a0 I J) (some ((F_X1_sleptBy (0) a0 I J), I, J)) none) (kif (pre_X10_refuse (-102 : Int32) I J) (some ((F_X10_refuse (-102 : Int32) I J).1, (F_X10_refuse (-102 : Int32) I J).2.1, (F_X10_refuse (-102 : Int32) I J).2.2)) none))))))))
def sp_X10_keeperOf : kx_Sp := fun av0 S0 r0 S1 => ∃ (a0 : Int32) (a1 : Int32) (I : kI) (J : kJ) (q : Int32 × kI × kJ) (hG : E_X10_keeperOf a0 a1 I J = some q), av0 = [kx_r 10 0, kx_i a0, kx_i a1] ∧ S0 = (I, J, none) ∧ r0 = (some (kx_i q.1)) ∧ S1 = (q.2.1, q.2.2, none)
theorem cs_X10_keeperOf (a0 : Int32) (a1 : Int32) (I : kI) (J : kJ) (q : Int32 × kI × kJ) (hG : E_X10_keeperOf a0 a1 I J = some q) : sp_X10_keeperOf [kx_r 10 0, kx_i a0, kx_i a1] (I, J, none) (some (kx_i q.1)) (q.2.1, q.2.2, none) := ⟨a0, a1, I, J, q, hG, rfl, rfl, rfl, rfl⟩
noncomputable def E_X10_ship (a0 : Int32) (a1 : Int32) (I : kI) (J : kJ) : Option (Int32 × kI × kJ) := (kif ((F_X10_isWithin a0 (3 : Int32) (7 : Int32) I J) = 0) (kif (pre_X10_refuse (-102 : Int32) I J) (some ((F_X10_refuse (-102 : Int32) I J).1, (F_X10_refuse (-102 : Int32) I J).2.1, (F_X10_refuse (-102 : Int32) I J).2.2)) none) (kif ((F_X10_isWithin a1 (I 6 0 4) ((I 6 0 4) + (999 : Int32)) I J) = 0) (kif (pre_X10_refuse (-102 : Int32) I J) (some ((F_X10_refuse (-102 : Int32) I J).1, (F_X10_refuse (-102 : Int32) I J).2.1, (F_X10_refuse (-102 : Int32) I J).2.2)) none) (kif ((F_X2_isFull (0) I J) = 0) (kbd (E_X2_expect (0) a0 a1 I J) (fun q1 => (some (q1.1, q1.2.1, q1.2.2)))) (kif (pre_X10_refuse (-106 : Int32) I J) (some ((F_X10_refuse (-106 : Int32) I J).1, (F_X10_refuse (-106 : Int32) I J).2.1, (F_X10_refuse (-106 : Int32) I J).2.2)) none))))
set_option maxRecDepth 100000 in
set_option maxHeartbeats 4000000 in
theorem cs_X10_ship (a0 : Int32) (a1 : Int32) (I : kI) (J : kJ) (q : Int32 × kI × kJ) (hG : E_X10_ship a0 a1 I J = some q) : sp_X10_ship [kx_r 10 0, kx_i a0, kx_i a1] (I, J, none) (some (kx_i q.1)) (q.2.1, q.2.2, none) := by
  unfold E_X10_ship at hG
  refine kx_start [] 40 ?_
  refine ⟨_, _, cs_X10_isWithin a0 (3 : Int32) (7 : Int32) I J, rfl, ?_⟩
  refine ⟨fun h1 => ?_, fun h1 => ?_⟩
  · replace h1 : (F_X10_isWithin a0 (3 : Int32) (7 : Int32) I J) = 0 := h1
    rw [kif_pos h1] at hG
    obtain ⟨hq, hG⟩ := kif_some hG
    refine ⟨_, _, cs_X10_refuse (-102 : Int32) I J hq, rfl, ?_⟩
    replace hG := Option.some.inj hG
    subst hG
    exact ⟨rfl, rfl⟩
  · replace h1 : ¬ (F_X10_isWithin a0 (3 : Int32) (7 : Int32) I J) = 0 := h1
    rw [kif_neg h1] at hG
    refine ⟨_, _, cs_X10_isWithin a1 (I 6 0 4) ((I 6 0 4) + (999 : Int32)) I J, rfl, ?_⟩
    refine ⟨fun h2 => ?_, fun h2 => ?_⟩
    · replace h2 : ¬ (F_X10_isWithin a1 (I 6 0 4) ((I 6 0 4) + (999 : Int32)) I J) = 0 := h2
      rw [kif_neg h2] at hG
      refine ⟨_, _, cs_X2_isFull (0) I J, rfl, ?_⟩
      refine ⟨fun h3 => ?_, fun h3 => ?_⟩
      · replace h3 : (F_X2_isFull (0) I J) = 0 := h3
        rw [kif_pos h3] at hG
        obtain ⟨q1, hq, hG⟩ := kbd_some hG
        refine ⟨_, _, cs_X2_expect (0) a0 a1 I J q1 hq, rfl, ?_⟩
        replace hG := Option.some.inj hG
        subst hG
        exact ⟨rfl, rfl⟩
      · replace h3 : ¬ (F_X2_isFull (0) I J) = 0 := h3
        rw [kif_neg h3] at hG
        obtain ⟨hq, hG⟩ := kif_some hG
        refine ⟨_, _, cs_X10_refuse (-106 : Int32) I J hq, rfl, ?_⟩
        replace hG := Option.some.inj hG
        subst hG
        exact ⟨rfl, rfl⟩
    · replace h2 : (F_X10_isWithin a1 (I 6 0 4) ((I 6 0 4) + (999 : Int32)) I J) = 0 := h2
      rw [kif_pos h2] at hG
      obtain ⟨hq, hG⟩ := kif_some hG
      refine ⟨_, _, cs_X10_refuse (-102 : Int32) I J hq, rfl, ?_⟩
      replace hG := Option.some.inj hG
      subst hG
      exact ⟨rfl, rfl⟩
noncomputable def E_X10_shipAt (a0 : Int32) (a1 : Int32) (I : kI) (J : kJ) : Option (Int32 × kI × kJ) := (kif (0 ≤ a0) (kbd (E_X2_firstPlaceOf (0) a0 I J) (fun q1 => (kif ((F_X10_isWithin a1 (0 : Int32) (200 : Int32) I J) = 0) (some ((-1 : Int32), I, J)) (kif (pre_X2_isPlaceOf (0) a0 (q1 + a1) I J) (kif ((F_X2_isPlaceOf (0) a0 (q1 + a1) I J) = 0) (some ((-1 : Int32), I, J)) (kif (pre_X2_shipInPlace (0) (q1 + a1) I J) (some ((F_X2_shipInPlace (0) (q1 + a1) I J), I, J)) none)) none)))) (kif (pre_X10_refuse (-102 : Int32) I J) (some ((F_X10_refuse (-102 : Int32) I J).1, (F_X10_refuse (-102 : Int32) I J).2.1, (F_X10_refuse (-102 : Int32) I J).2.2)) none))
def sp_X10_shipAt : kx_Sp := fun av0 S0 r0 S1 => ∃ (a0 : Int32) (a1 : Int32) (I : kI) (J : kJ) (q : Int32 × kI × kJ) (hG : E_X10_shipAt a0 a1 I J = some q), av0 = [kx_r 10 0, kx_i a0, kx_i a1] ∧ S0 = (I, J, none) ∧ r0 = (some (kx_i q.1)) ∧ S1 = (q.2.1, q.2.2, none)
theorem cs_X10_shipAt (a0 : Int32) (a1 : Int32) (I : kI) (J : kJ) (q : Int32 × kI × kJ) (hG : E_X10_shipAt a0 a1 I J = some q) : sp_X10_shipAt [kx_r 10 0, kx_i a0, kx_i a1] (I, J, none) (some (kx_i q.1)) (q.2.1, q.2.2, none) := ⟨a0, a1, I, J, q, hG, rfl, rfl, rfl, rfl⟩
noncomputable def E_X10_many (a0 : Int32) (a1 : Int32) (I : kI) (J : kJ) : Option (Int32 × kI × kJ) := (kif (pre_X10_isKind a0 I J) (kif ((F_X10_isKind a0 I J) = 0) (kif (pre_X10_refuse (-102 : Int32) I J) (some ((F_X10_refuse (-102 : Int32) I J).1, (F_X10_refuse (-102 : Int32) I J).2.1, (F_X10_refuse (-102 : Int32) I J).2.2)) none) (kif ((F_X10_isWithin a1 (0 : Int32) (2 : Int32) I J) = 0) (kif (pre_X10_refuse (-102 : Int32) I J) (some ((F_X10_refuse (-102 : Int32) I J).1, (F_X10_refuse (-102 : Int32) I J).2.1, (F_X10_refuse (-102 : Int32) I J).2.2)) none) (kif (pre_X2_countFates (0) a0 a1 I J) (some ((F_X2_countFates (0) a0 a1 I J), I, J)) none))) none)
set_option maxRecDepth 100000 in
set_option maxHeartbeats 4000000 in
theorem cs_X10_many (a0 : Int32) (a1 : Int32) (I : kI) (J : kJ) (q : Int32 × kI × kJ) (hG : E_X10_many a0 a1 I J = some q) : sp_X10_many [kx_r 10 0, kx_i a0, kx_i a1] (I, J, none) (some (kx_i q.1)) (q.2.1, q.2.2, none) := by
  unfold E_X10_many at hG
  refine kx_start [] 22 ?_
  obtain ⟨hq, hG⟩ := kif_some hG
  refine ⟨_, _, cs_X10_isKind a0 I J hq, rfl, ?_⟩
  refine ⟨fun h1 => ?_, fun h1 => ?_⟩
  · replace h1 : (F_X10_isKind a0 I J) = 0 := h1
    rw [kif_pos h1] at hG
    obtain ⟨hq, hG⟩ := kif_some hG
    refine ⟨_, _, cs_X10_refuse (-102 : Int32) I J hq, rfl, ?_⟩
    replace hG := Option.some.inj hG
    subst hG
    exact ⟨rfl, rfl⟩
  · replace h1 : ¬ (F_X10_isKind a0 I J) = 0 := h1
    rw [kif_neg h1] at hG
    refine ⟨_, _, cs_X10_isWithin a1 (0 : Int32) (2 : Int32) I J, rfl, ?_⟩
    refine ⟨fun h2 => ?_, fun h2 => ?_⟩
    · replace h2 : ¬ (F_X10_isWithin a1 (0 : Int32) (2 : Int32) I J) = 0 := h2
      rw [kif_neg h2] at hG
      obtain ⟨hq, hG⟩ := kif_some hG
      refine ⟨_, _, ct_X2_countFates (0) a0 a1 I J hq, rfl, ?_⟩
      replace hG := Option.some.inj hG
      subst hG
      exact ⟨rfl, rfl⟩
    · replace h2 : (F_X10_isWithin a1 (0 : Int32) (2 : Int32) I J) = 0 := h2
      rw [kif_pos h2] at hG
      obtain ⟨hq, hG⟩ := kif_some hG
      refine ⟨_, _, cs_X10_refuse (-102 : Int32) I J hq, rfl, ?_⟩
      replace hG := Option.some.inj hG
      subst hG
      exact ⟨rfl, rfl⟩
noncomputable def G_X10_pass (a0 : Int32) : Nat → Nat → Int32 → Int32 → kI → kJ → Option (Int32 × kI × kJ)
  | 0, _, _, _, _, _ => none
  | n + 1, pc, v2, v3, I, J => (bif Nat.beq pc 24 then (kif (a0 ≤ v3) (some (((I 9 0 3) - v2), I, J)) (kbd (E_X9_passHour (0) I J) (fun q1 => ((G_X10_pass a0 n) 24 v2 (v3 + (1)) q1.1 q1.2)))) else none)
theorem G_X10_pass_24 (a0 : Int32) (n : Nat) (v2 : Int32) (v3 : Int32) (I : kI) (J : kJ) : G_X10_pass a0 (n + 1) 24 v2 v3 I J = (kif (a0 ≤ v3) (some (((I 9 0 3) - v2), I, J)) (kbd (E_X9_passHour (0) I J) (fun q1 => ((G_X10_pass a0 n) 24 v2 (v3 + (1)) q1.1 q1.2)))) := rfl
noncomputable def E_X10_pass (a0 : Int32) (I : kI) (J : kJ) : Option (Int32 × kI × kJ) := (kif (pre_X10_areHours a0 I J) (kif ((F_X10_areHours a0 I J) = 0) (kif (pre_X10_refuse (-102 : Int32) I J) (some ((F_X10_refuse (-102 : Int32) I J).1, (F_X10_refuse (-102 : Int32) I J).2.1, (F_X10_refuse (-102 : Int32) I J).2.2)) none) ((G_X10_pass a0 kfu) 24 (I 9 0 3) (0 : Int32) I J)) none)
set_option maxRecDepth 100000 in
set_option maxHeartbeats 4000000 in
theorem cl_X10_pass (a0 : Int32) : ∀ n : Nat, (∀ (v2 : Int32) (v3 : Int32) (I : kI) (J : kJ) (q : Int32 × kI × kJ), G_X10_pass a0 n 24 v2 v3 I J = some q → kx_Run tb_X10_pass (kx_NC, fun r' S'' => r' = some (kx_i q.1) ∧ S'' = (q.2.1, q.2.2, none)) 24 [some (kx_r 10 (0)), some (kx_i a0), some (kx_i v2), some (kx_i v3)] [] (I, J, none)) := by
  intro n
  induction n with
  | zero => (intros; rename_i h; have h2 : (none : Option _) = some _ := h; cases h2)
  | succ n ih =>
    intro v2 v3  I J q hG
    rw [G_X10_pass_24] at hG
    refine kx_start [24] 30 ?_
    refine ⟨fun h1 => ?_, fun h1 => ?_⟩
    · replace h1 : a0 ≤ v3 := h1
      rw [kif_pos h1] at hG
      replace hG := Option.some.inj hG
      subst hG
      exact ⟨rfl, rfl⟩
    · replace h1 : ¬ a0 ≤ v3 := h1
      rw [kif_neg h1] at hG
      obtain ⟨q1, hq, hG⟩ := kbd_some hG
      refine ⟨_, _, cs_X9_passHour (0) I J q1 hq, rfl, ?_⟩
      exact (ih) _ _ _ _ q hG
set_option maxRecDepth 100000 in
set_option maxHeartbeats 4000000 in
theorem cs_X10_pass (a0 : Int32) (I : kI) (J : kJ) (q : Int32 × kI × kJ) (hG : E_X10_pass a0 I J = some q) : sp_X10_pass [kx_r 10 0, kx_i a0] (I, J, none) (some (kx_i q.1)) (q.2.1, q.2.2, none) := by
  unfold E_X10_pass at hG
  refine kx_start [24] 30 ?_
  obtain ⟨hq, hG⟩ := kif_some hG
  refine ⟨_, _, cs_X10_areHours a0 I J hq, rfl, ?_⟩
  refine ⟨fun h1 => ?_, fun h1 => ?_⟩
  · replace h1 : ¬ (F_X10_areHours a0 I J) = 0 := h1
    rw [kif_neg h1] at hG
    exact ((cl_X10_pass a0 kfu)) _ _ _ _ q hG
  · replace h1 : (F_X10_areHours a0 I J) = 0 := h1
    rw [kif_pos h1] at hG
    obtain ⟨hq, hG⟩ := kif_some hG
    refine ⟨_, _, cs_X10_refuse (-102 : Int32) I J hq, rfl, ?_⟩
    replace hG := Option.some.inj hG
    subst hG
    exact ⟨rfl, rfl⟩
noncomputable def G_X10_days (a0 : Int32) : Nat → Nat → Int32 → Int32 → kI → kJ → Option (Int32 × kI × kJ)
  | 0, _, _, _, _, _ => none
  | n + 1, pc, v2, v3, I, J => (bif Nat.beq pc 27 then (kif (a0 ≤ v3) (some (((I 9 0 3) - v2), I, J)) (kbd (E_X9_passDay (0) I J) (fun q1 => ((G_X10_days a0 n) 27 v2 (v3 + (1)) q1.1 q1.2)))) else none)
theorem G_X10_days_27 (a0 : Int32) (n : Nat) (v2 : Int32) (v3 : Int32) (I : kI) (J : kJ) : G_X10_days a0 (n + 1) 27 v2 v3 I J = (kif (a0 ≤ v3) (some (((I 9 0 3) - v2), I, J)) (kbd (E_X9_passDay (0) I J) (fun q1 => ((G_X10_days a0 n) 27 v2 (v3 + (1)) q1.1 q1.2)))) := rfl
noncomputable def E_X10_days (a0 : Int32) (I : kI) (J : kJ) : Option (Int32 × kI × kJ) := (kif ((F_X10_isWithin a0 (1 : Int32) (60 : Int32) I J) = 0) (kif (pre_X10_refuse (-102 : Int32) I J) (some ((F_X10_refuse (-102 : Int32) I J).1, (F_X10_refuse (-102 : Int32) I J).2.1, (F_X10_refuse (-102 : Int32) I J).2.2)) none) ((G_X10_days a0 kfu) 27 (I 9 0 3) (0 : Int32) I J))
def sp_X10_days : kx_Sp := fun av0 S0 r0 S1 => ∃ (a0 : Int32) (I : kI) (J : kJ) (q : Int32 × kI × kJ) (hG : E_X10_days a0 I J = some q), av0 = [kx_r 10 0, kx_i a0] ∧ S0 = (I, J, none) ∧ r0 = (some (kx_i q.1)) ∧ S1 = (q.2.1, q.2.2, none)
theorem cs_X10_days (a0 : Int32) (I : kI) (J : kJ) (q : Int32 × kI × kJ) (hG : E_X10_days a0 I J = some q) : sp_X10_days [kx_r 10 0, kx_i a0] (I, J, none) (some (kx_i q.1)) (q.2.1, q.2.2, none) := ⟨a0, I, J, q, hG, rfl, rfl, rfl, rfl⟩
noncomputable def E_X10_logged (a0 : Int32) (I : kI) (J : kJ) : Option (Int32 × kI × kJ) := (kif ((F_X10_isWithin a0 (0 : Int32) (6 : Int32) I J) = 0) (kif (pre_X10_refuse (-102 : Int32) I J) (some ((F_X10_refuse (-102 : Int32) I J).1, (F_X10_refuse (-102 : Int32) I J).2.1, (F_X10_refuse (-102 : Int32) I J).2.2)) none) (kif (a0 = 0) (some ((I 3 0 4), I, J)) (kif (pre_X3_countOf (0) a0 I J) (some ((F_X3_countOf (0) a0 I J), I, J)) none)))
set_option maxRecDepth 100000 in
set_option maxHeartbeats 4000000 in
theorem cs_X10_logged (a0 : Int32) (I : kI) (J : kJ) (q : Int32 × kI × kJ) (hG : E_X10_logged a0 I J = some q) : sp_X10_logged [kx_r 10 0, kx_i a0] (I, J, none) (some (kx_i q.1)) (q.2.1, q.2.2, none) := by
  unfold E_X10_logged at hG
  refine kx_start [] 25 ?_
  refine ⟨_, _, cs_X10_isWithin a0 (0 : Int32) (6 : Int32) I J, rfl, ?_⟩
  refine ⟨fun h1 => ?_, fun h1 => ?_⟩
  · replace h1 : ¬ (F_X10_isWithin a0 (0 : Int32) (6 : Int32) I J) = 0 := h1
    rw [kif_neg h1] at hG
    refine ⟨fun h2 => ?_, fun h2 => ?_⟩
    · replace h2 : ¬ a0 = 0 := h2
      rw [kif_neg h2] at hG
      obtain ⟨hq, hG⟩ := kif_some hG
      refine ⟨_, _, ct_X3_countOf (0) a0 I J hq, rfl, ?_⟩
      replace hG := Option.some.inj hG
      subst hG
      exact ⟨rfl, rfl⟩
    · replace h2 : a0 = 0 := h2
      rw [kif_pos h2] at hG
      replace hG := Option.some.inj hG
      subst hG
      exact ⟨rfl, rfl⟩
  · replace h1 : (F_X10_isWithin a0 (0 : Int32) (6 : Int32) I J) = 0 := h1
    rw [kif_pos h1] at hG
    obtain ⟨hq, hG⟩ := kif_some hG
    refine ⟨_, _, cs_X10_refuse (-102 : Int32) I J hq, rfl, ?_⟩
    replace hG := Option.some.inj hG
    subst hG
    exact ⟨rfl, rfl⟩
noncomputable def E_X10_difference (a0 : Int32) (a1 : Int32) (I : kI) (J : kJ) : Option (Int32 × kI × kJ) := (kbd (E_X9_entryOfDifference (0) a0 I J) (fun q1 => (kif ((F_X3_has (0) q1 I J) = 0) (kif (pre_X10_refuse (-102 : Int32) I J) (some ((F_X10_refuse (-102 : Int32) I J).1, (F_X10_refuse (-102 : Int32) I J).2.1, (F_X10_refuse (-102 : Int32) I J).2.2)) none) (kif (a1 = (0)) (kif (pre_X3_hourOf (0) q1 I J) (some ((F_X3_hourOf (0) q1 I J), I, J)) none) (kif (a1 = (1)) (kbd (E_X9_shipAgainst (0) q1 I J) (fun q2 => (some (q2, I, J)))) (kif (a1 = (2)) (kif (pre_X3_writerOf (0) q1 I J) (some ((F_X3_writerOf (0) q1 I J), I, J)) none) (kif (pre_X10_refuse (-102 : Int32) I J) (some ((F_X10_refuse (-102 : Int32) I J).1, (F_X10_refuse (-102 : Int32) I J).2.1, (F_X10_refuse (-102 : Int32) I J).2.2)) none)))))))
set_option maxRecDepth 100000 in
set_option maxHeartbeats 4000000 in
theorem cs_X10_difference (a0 : Int32) (a1 : Int32) (I : kI) (J : kJ) (q : Int32 × kI × kJ) (hG : E_X10_difference a0 a1 I J = some q) : sp_X10_difference [kx_r 10 0, kx_i a0, kx_i a1] (I, J, none) (some (kx_i q.1)) (q.2.1, q.2.2, none) := by
  unfold E_X10_difference at hG
  refine kx_start [] 41 ?_
  obtain ⟨q1, hq, hG⟩ := kbd_some hG
  refine ⟨_, _, cs_X9_entryOfDifference (0) a0 I J q1 hq, rfl, ?_⟩
  refine ⟨_, _, cs_X3_has (0) q1 I J, rfl, ?_⟩
  refine ⟨fun h1 => ?_, fun h1 => ?_⟩
  · replace h1 : ¬ (F_X3_has (0) q1 I J) = 0 := h1
    rw [kif_neg h1] at hG
    refine ⟨fun h2 => ?_, fun h2 => ?_⟩
    · replace h2 : a1 = (0) := h2
      rw [kif_pos h2] at hG
      obtain ⟨hq, hG⟩ := kif_some hG
      refine ⟨_, _, cs_X3_hourOf (0) q1 I J hq, rfl, ?_⟩
      replace hG := Option.some.inj hG
      subst hG
      exact ⟨rfl, rfl⟩
    · replace h2 : ¬ a1 = (0) := h2
      rw [kif_neg h2] at hG
      refine ⟨fun h3 => ?_, fun h3 => ?_⟩
      · replace h3 : a1 = (1) := h3
        rw [kif_pos h3] at hG
        obtain ⟨q2, hq, hG⟩ := kbd_some hG
        refine ⟨_, _, cs_X9_shipAgainst (0) q1 I J q2 hq, rfl, ?_⟩
        replace hG := Option.some.inj hG
        subst hG
        exact ⟨rfl, rfl⟩
      · replace h3 : ¬ a1 = (1) := h3
        rw [kif_neg h3] at hG
        refine ⟨fun h4 => ?_, fun h4 => ?_⟩
        · replace h4 : a1 = (2) := h4
          rw [kif_pos h4] at hG
          obtain ⟨hq, hG⟩ := kif_some hG
          refine ⟨_, _, cs_X3_writerOf (0) q1 I J hq, rfl, ?_⟩
          replace hG := Option.some.inj hG
          subst hG
          exact ⟨rfl, rfl⟩
        · replace h4 : ¬ a1 = (2) := h4
          rw [kif_neg h4] at hG
          obtain ⟨hq, hG⟩ := kif_some hG
          refine ⟨_, _, cs_X10_refuse (-102 : Int32) I J hq, rfl, ?_⟩
          replace hG := Option.some.inj hG
          subst hG
          exact ⟨rfl, rfl⟩
  · replace h1 : (F_X3_has (0) q1 I J) = 0 := h1
    rw [kif_pos h1] at hG
    obtain ⟨hq, hG⟩ := kif_some hG
    refine ⟨_, _, cs_X10_refuse (-102 : Int32) I J hq, rfl, ?_⟩
    replace hG := Option.some.inj hG
    subst hG
    exact ⟨rfl, rfl⟩
noncomputable def E_X10_differences (a0 : Int32) (I : kI) (J : kJ) : Option (Int32 × kI × kJ) := (kif ((F_X10_isKeeperOrNone a0 I J) = 0) (kif (pre_X10_refuse (-102 : Int32) I J) (some ((F_X10_refuse (-102 : Int32) I J).1, (F_X10_refuse (-102 : Int32) I J).2.1, (F_X10_refuse (-102 : Int32) I J).2.2)) none) (kbd (E_X9_countDifferences (0) a0 I J) (fun q1 => (some (q1, I, J)))))
set_option maxRecDepth 100000 in
set_option maxHeartbeats 4000000 in
theorem cs_X10_differences (a0 : Int32) (I : kI) (J : kJ) (q : Int32 × kI × kJ) (hG : E_X10_differences a0 I J = some q) : sp_X10_differences [kx_r 10 0, kx_i a0] (I, J, none) (some (kx_i q.1)) (q.2.1, q.2.2, none) := by
  unfold E_X10_differences at hG
  refine kx_start [] 16 ?_
  refine ⟨_, _, cs_X10_isKeeperOrNone a0 I J, rfl, ?_⟩
  refine ⟨fun h1 => ?_, fun h1 => ?_⟩
  · replace h1 : (F_X10_isKeeperOrNone a0 I J) = 0 := h1
    rw [kif_pos h1] at hG
    obtain ⟨hq, hG⟩ := kif_some hG
    refine ⟨_, _, cs_X10_refuse (-102 : Int32) I J hq, rfl, ?_⟩
    replace hG := Option.some.inj hG
    subst hG
    exact ⟨rfl, rfl⟩
  · replace h1 : ¬ (F_X10_isKeeperOrNone a0 I J) = 0 := h1
    rw [kif_neg h1] at hG
    obtain ⟨q1, hq, hG⟩ := kbd_some hG
    refine ⟨_, _, cs_X9_countDifferences (0) a0 I J q1 hq, rfl, ?_⟩
    replace hG := Option.some.inj hG
    subst hG
    exact ⟨rfl, rfl⟩
noncomputable def G_X10_judge (a0 : Int32) (a1 : Int32) (a2 : Int32) : Nat → Nat → Int32 → kI → kJ → Option (Int32 × kI × kJ)
  | 0, _, _, _, _ => none
  | n + 1, pc, v6, I, J => (bif Nat.beq pc 74 then (kif (a2 ≤ v6) (some ((-1 : Int32), I, J)) (kif (pre_X10_isAsTold a0 v6 ((a1).toNatClampNeg) I J) (kif ((F_X10_isAsTold a0 v6 ((a1).toNatClampNeg) I J) = 0) (some (v6, I, J)) ((G_X10_judge a0 a1 a2 n) 74 (v6 + (1)) I J)) none)) else none)
theorem G_X10_judge_74 (a0 : Int32) (a1 : Int32) (a2 : Int32) (n : Nat) (v6 : Int32) (I : kI) (J : kJ) : G_X10_judge a0 a1 a2 (n + 1) 74 v6 I J = (kif (a2 ≤ v6) (some ((-1 : Int32), I, J)) (kif (pre_X10_isAsTold a0 v6 ((a1).toNatClampNeg) I J) (kif ((F_X10_isAsTold a0 v6 ((a1).toNatClampNeg) I J) = 0) (some (v6, I, J)) ((G_X10_judge a0 a1 a2 n) 74 (v6 + (1)) I J)) none)) := rfl
noncomputable def E_X10_judge (a0 : Int32) (a1 : Int32) (a2 : Int32) (I : kI) (J : kJ) : Option (Int32 × kI × kJ) := (kif ((F_X10_isWithin a1 0 7 I J) = 0) (kif (a0 < 0) (kif (pre_X10_refuse (-102 : Int32) I J) (some ((F_X10_refuse (-102 : Int32) I J).1, (F_X10_refuse (-102 : Int32) I J).2.1, (F_X10_refuse (-102 : Int32) I J).2.2)) none) (kif (pre_X10_refuse (-102 : Int32) I J) (some ((F_X10_refuse (-102 : Int32) I J).1, (F_X10_refuse (-102 : Int32) I J).2.1, (F_X10_refuse (-102 : Int32) I J).2.2)) none)) (kif (a0 < 0) (kif (pre_X10_refuse (-102 : Int32) I J) (some ((F_X10_refuse (-102 : Int32) I J).1, (F_X10_refuse (-102 : Int32) I J).2.1, (F_X10_refuse (-102 : Int32) I J).2.2)) none) (kif ((F_X10_isWithin a2 (0 : Int32) (20 : Int32) I J) = 0) (kif (pre_X10_refuse (-102 : Int32) I J) (some ((F_X10_refuse (-102 : Int32) I J).1, (F_X10_refuse (-102 : Int32) I J).2.1, (F_X10_refuse (-102 : Int32) I J).2.2)) none) (kbd (E_X10_againstRowIn a1 I J) (fun q1 => (kif (q1 = 0) (kif ((F_X4_hasElements ((a1).toNatClampNeg) (0 : Int32) ((2 : Int32) * a2) I J) = 0) (kif (pre_X10_refuse (-102 : Int32) I J) (some ((F_X10_refuse (-102 : Int32) I J).1, (F_X10_refuse (-102 : Int32) I J).2.1, (F_X10_refuse (-102 : Int32) I J).2.2)) none) ((G_X10_judge a0 a1 a2 kfu) 74 (0 : Int32) I J)) (kif (pre_X10_refuse q1 I J) (some ((F_X10_refuse q1 I J).1, (F_X10_refuse q1 I J).2.1, (F_X10_refuse q1 I J).2.2)) none)))))))
def sp_X10_judge : kx_Sp := fun av0 S0 r0 S1 => ∃ (a0 : Int32) (a1 : Int32) (a2 : Int32) (I : kI) (J : kJ) (q : Int32 × kI × kJ) (hG : E_X10_judge a0 a1 a2 I J = some q), av0 = [kx_r 10 0, kx_i a0, kx_i a1, kx_i a2] ∧ S0 = (I, J, none) ∧ r0 = (some (kx_i q.1)) ∧ S1 = (q.2.1, q.2.2, none)
theorem cs_X10_judge (a0 : Int32) (a1 : Int32) (a2 : Int32) (I : kI) (J : kJ) (q : Int32 × kI × kJ) (hG : E_X10_judge a0 a1 a2 I J = some q) : sp_X10_judge [kx_r 10 0, kx_i a0, kx_i a1, kx_i a2] (I, J, none) (some (kx_i q.1)) (q.2.1, q.2.2, none) := ⟨a0, a1, a2, I, J, q, hG, rfl, rfl, rfl, rfl⟩
noncomputable def E_X10_would (a0 : Int32) (a1 : Int32) (I : kI) (J : kJ) : Option (Int32 × kI × kJ) := (kif (pre_X10_areHours a0 I J) (kif ((F_X10_areHours a0 I J) = 0) (kif (pre_X10_refuse (-102 : Int32) I J) (some ((F_X10_refuse (-102 : Int32) I J).1, (F_X10_refuse (-102 : Int32) I J).2.1, (F_X10_refuse (-102 : Int32) I J).2.2)) none) (kif ((F_X10_isWithin a1 (0 : Int32) (5 : Int32) I J) = 0) (kif (pre_X10_refuse (-102 : Int32) I J) (some ((F_X10_refuse (-102 : Int32) I J).1, (F_X10_refuse (-102 : Int32) I J).2.1, (F_X10_refuse (-102 : Int32) I J).2.2)) none) (kbd (E_X8_begin (0) (0) I J) (fun q1 => (kbd (E_X8_passHours (0) (0) a0 q1.1 q1.2) (fun q2 => (kif (a1 = (0)) (some ((q2.2.1 8 0 1), q2.2.1, q2.2.2)) (kif (a1 = (1)) (some ((q2.2.1 6 2 8), q2.2.1, q2.2.2)) (kif (a1 = (2)) (some ((q2.2.1 6 2 9), q2.2.1, q2.2.2)) (kif (a1 = (3)) (some ((q2.2.1 8 0 2), q2.2.1, q2.2.2)) (kif (a1 = (4)) (some ((q2.2.1 8 0 3), q2.2.1, q2.2.2)) (some ((q2.2.1 8 0 4), q2.2.1, q2.2.2))))))))))))) none)
set_option maxRecDepth 100000 in
set_option maxHeartbeats 4000000 in
theorem cs_X10_would (a0 : Int32) (a1 : Int32) (I : kI) (J : kJ) (q : Int32 × kI × kJ) (hG : E_X10_would a0 a1 I J = some q) : sp_X10_would [kx_r 10 0, kx_i a0, kx_i a1] (I, J, none) (some (kx_i q.1)) (q.2.1, q.2.2, none) := by
  unfold E_X10_would at hG
  refine kx_start [] 56 ?_
  obtain ⟨hq, hG⟩ := kif_some hG
  refine ⟨_, _, cs_X10_areHours a0 I J hq, rfl, ?_⟩
  refine ⟨fun h1 => ?_, fun h1 => ?_⟩
  · replace h1 : (F_X10_areHours a0 I J) = 0 := h1
    rw [kif_pos h1] at hG
    obtain ⟨hq, hG⟩ := kif_some hG
    refine ⟨_, _, cs_X10_refuse (-102 : Int32) I J hq, rfl, ?_⟩
    replace hG := Option.some.inj hG
    subst hG
    exact ⟨rfl, rfl⟩
  · replace h1 : ¬ (F_X10_areHours a0 I J) = 0 := h1
    rw [kif_neg h1] at hG
    refine ⟨_, _, cs_X10_isWithin a1 (0 : Int32) (5 : Int32) I J, rfl, ?_⟩
    refine ⟨fun h2 => ?_, fun h2 => ?_⟩
    · replace h2 : ¬ (F_X10_isWithin a1 (0 : Int32) (5 : Int32) I J) = 0 := h2
      rw [kif_neg h2] at hG
      obtain ⟨q1, hq, hG⟩ := kbd_some hG
      refine ⟨_, _, cs_X8_begin (0) (0) I J q1 hq, rfl, ?_⟩
      obtain ⟨q2, hq, hG⟩ := kbd_some hG
      refine ⟨_, _, cs_X8_passHours (0) (0) a0 q1.1 q1.2 q2 hq, rfl, ?_⟩
      refine ⟨fun h3 => ?_, fun h3 => ?_⟩
      · replace h3 : a1 = (0) := h3
        rw [kif_pos h3] at hG
        replace hG := Option.some.inj hG
        subst hG
        exact ⟨rfl, rfl⟩
      · replace h3 : ¬ a1 = (0) := h3
        rw [kif_neg h3] at hG
        refine ⟨fun h4 => ?_, fun h4 => ?_⟩
        · replace h4 : a1 = (1) := h4
          rw [kif_pos h4] at hG
          replace hG := Option.some.inj hG
          subst hG
          exact ⟨rfl, rfl⟩
        · replace h4 : ¬ a1 = (1) := h4
          rw [kif_neg h4] at hG
          refine ⟨fun h5 => ?_, fun h5 => ?_⟩
          · replace h5 : a1 = (2) := h5
            rw [kif_pos h5] at hG
            replace hG := Option.some.inj hG
            subst hG
            exact ⟨rfl, rfl⟩
          · replace h5 : ¬ a1 = (2) := h5
            rw [kif_neg h5] at hG
            refine ⟨fun h6 => ?_, fun h6 => ?_⟩
            · replace h6 : a1 = (3) := h6
              rw [kif_pos h6] at hG
              replace hG := Option.some.inj hG
              subst hG
              exact ⟨rfl, rfl⟩
            · replace h6 : ¬ a1 = (3) := h6
              rw [kif_neg h6] at hG
              refine ⟨fun h7 => ?_, fun h7 => ?_⟩
              · replace h7 : a1 = (4) := h7
                rw [kif_pos h7] at hG
                replace hG := Option.some.inj hG
                subst hG
                exact ⟨rfl, rfl⟩
              · replace h7 : ¬ a1 = (4) := h7
                rw [kif_neg h7] at hG
                replace hG := Option.some.inj hG
                subst hG
                exact ⟨rfl, rfl⟩
    · replace h2 : (F_X10_isWithin a1 (0 : Int32) (5 : Int32) I J) = 0 := h2
      rw [kif_pos h2] at hG
      obtain ⟨hq, hG⟩ := kif_some hG
      refine ⟨_, _, cs_X10_refuse (-102 : Int32) I J hq, rfl, ?_⟩
      replace hG := Option.some.inj hG
      subst hG
      exact ⟨rfl, rfl⟩
noncomputable def G_X10_fails  : Nat → Nat → Int32 → kI → kJ → Option (Int32 × kI × kJ)
  | 0, _, _, _, _ => none
  | n + 1, pc, v1, I, J => (bif Nat.beq pc 13 then (kif ((200 : Int32) ≤ v1) (some ((-1 : Int32), I, J)) (kbd (E_X8_passHour (0) (0) I J) (fun q1 => (kif ((q1.1 8 0 1) ≤ 0) ((G_X10_fails  n) 13 (v1 + (1)) q1.1 q1.2) (some ((I 6 2 4), q1.1, q1.2)))))) else none)
theorem G_X10_fails_13  (n : Nat) (v1 : Int32) (I : kI) (J : kJ) : G_X10_fails  (n + 1) 13 v1 I J = (kif ((200 : Int32) ≤ v1) (some ((-1 : Int32), I, J)) (kbd (E_X8_passHour (0) (0) I J) (fun q1 => (kif ((q1.1 8 0 1) ≤ 0) ((G_X10_fails  n) 13 (v1 + (1)) q1.1 q1.2) (some ((I 6 2 4), q1.1, q1.2)))))) := rfl
noncomputable def E_X10_fails  (I : kI) (J : kJ) : Option (Int32 × kI × kJ) := (kbd (E_X8_begin (0) (0) I J) (fun q1 => ((G_X10_fails  kfu) 13 (0 : Int32) q1.1 q1.2)))
def sp_X10_fails : kx_Sp := fun av0 S0 r0 S1 => ∃ (I : kI) (J : kJ) (q : Int32 × kI × kJ) (hG : E_X10_fails  I J = some q), av0 = [kx_r 10 0] ∧ S0 = (I, J, none) ∧ r0 = (some (kx_i q.1)) ∧ S1 = (q.2.1, q.2.2, none)
theorem cs_X10_fails  (I : kI) (J : kJ) (q : Int32 × kI × kJ) (hG : E_X10_fails  I J = some q) : sp_X10_fails [kx_r 10 0] (I, J, none) (some (kx_i q.1)) (q.2.1, q.2.2, none) := ⟨I, J, q, hG, rfl, rfl, rfl, rfl⟩
noncomputable def G_X10_comes  : Nat → Nat → Int32 → kI → kJ → Option (Int32 × kI × kJ)
  | 0, _, _, _, _ => none
  | n + 1, pc, v1, I, J => (bif Nat.beq pc 13 then (kif ((400 : Int32) ≤ v1) (some ((-1 : Int32), I, J)) (kbd (E_X8_passHour (0) (0) I J) (fun q1 => (kif ((q1.1 0 2 4) = (I 0 2 4)) ((G_X10_comes  n) 13 (v1 + (1)) q1.1 q1.2) (some ((I 6 2 4), q1.1, q1.2)))))) else none)
theorem G_X10_comes_13  (n : Nat) (v1 : Int32) (I : kI) (J : kJ) : G_X10_comes  (n + 1) 13 v1 I J = (kif ((400 : Int32) ≤ v1) (some ((-1 : Int32), I, J)) (kbd (E_X8_passHour (0) (0) I J) (fun q1 => (kif ((q1.1 0 2 4) = (I 0 2 4)) ((G_X10_comes  n) 13 (v1 + (1)) q1.1 q1.2) (some ((I 6 2 4), q1.1, q1.2)))))) := rfl
noncomputable def E_X10_comes  (I : kI) (J : kJ) : Option (Int32 × kI × kJ) := (kbd (E_X8_begin (0) (0) I J) (fun q1 => ((G_X10_comes  kfu) 13 (0 : Int32) q1.1 q1.2)))
def sp_X10_comes : kx_Sp := fun av0 S0 r0 S1 => ∃ (I : kI) (J : kJ) (q : Int32 × kI × kJ) (hG : E_X10_comes  I J = some q), av0 = [kx_r 10 0] ∧ S0 = (I, J, none) ∧ r0 = (some (kx_i q.1)) ∧ S1 = (q.2.1, q.2.2, none)
theorem cs_X10_comes  (I : kI) (J : kJ) (q : Int32 × kI × kJ) (hG : E_X10_comes  I J = some q) : sp_X10_comes [kx_r 10 0] (I, J, none) (some (kx_i q.1)) (q.2.1, q.2.2, none) := ⟨I, J, q, hG, rfl, rfl, rfl, rfl⟩
noncomputable def E_X10_unlitWithOil (a0 : Int32) (a1 : Int32) (I : kI) (J : kJ) : Option (Int32 × kI × kJ) := (kbd (E_X8_begin (0) (0) I J) (fun q1 => (kbd (E_X8_passHours (0) (0) a0 (kw q1.1 6 2 8 a1) q1.2) (fun q2 => (some (q2.1, q2.2.1, q2.2.2))))))
def sp_X10_unlitWithOil : kx_Sp := fun av0 S0 r0 S1 => ∃ (a0 : Int32) (a1 : Int32) (I : kI) (J : kJ) (q : Int32 × kI × kJ) (hG : E_X10_unlitWithOil a0 a1 I J = some q), av0 = [kx_r 10 0, kx_i a0, kx_i a1] ∧ S0 = (I, J, none) ∧ r0 = (some (kx_i q.1)) ∧ S1 = (q.2.1, q.2.2, none)
theorem cs_X10_unlitWithOil (a0 : Int32) (a1 : Int32) (I : kI) (J : kJ) (q : Int32 × kI × kJ) (hG : E_X10_unlitWithOil a0 a1 I J = some q) : sp_X10_unlitWithOil [kx_r 10 0, kx_i a0, kx_i a1] (I, J, none) (some (kx_i q.1)) (q.2.1, q.2.2, none) := ⟨a0, a1, I, J, q, hG, rfl, rfl, rfl, rfl⟩
noncomputable def G_X10_oil (a0 : Int32) : Nat → Nat → Int32 → Int32 → Int32 → Int32 → kI → kJ → Option (Int32 × kI × kJ)
  | 0, _, _, _, _, _, _, _ => none
  | n + 1, pc, v2, v3, v4, v5, I, J => (bif Nat.beq pc 33 then (kif ((32 : Int32) ≤ v5) (some (v4, I, J)) (kif (v4 ≤ v3) (some (v4, I, J)) (kif (¬ (2 : Int32) = 0) (kbd (E_X10_unlitWithOil a0 ((v3 + v4) / (2 : Int32)) I J) (fun q1 => (kif (v2 < q1.1) ((G_X10_oil a0 n) 33 v2 (((v3 + v4) / (2 : Int32)) + (1 : Int32)) v4 (v5 + (1)) q1.2.1 q1.2.2) ((G_X10_oil a0 n) 33 v2 v3 ((v3 + v4) / (2 : Int32)) (v5 + (1)) q1.2.1 q1.2.2)))) none))) else none)
theorem G_X10_oil_33 (a0 : Int32) (n : Nat) (v2 : Int32) (v3 : Int32) (v4 : Int32) (v5 : Int32) (I : kI) (J : kJ) : G_X10_oil a0 (n + 1) 33 v2 v3 v4 v5 I J = (kif ((32 : Int32) ≤ v5) (some (v4, I, J)) (kif (v4 ≤ v3) (some (v4, I, J)) (kif (¬ (2 : Int32) = 0) (kbd (E_X10_unlitWithOil a0 ((v3 + v4) / (2 : Int32)) I J) (fun q1 => (kif (v2 < q1.1) ((G_X10_oil a0 n) 33 v2 (((v3 + v4) / (2 : Int32)) + (1 : Int32)) v4 (v5 + (1)) q1.2.1 q1.2.2) ((G_X10_oil a0 n) 33 v2 v3 ((v3 + v4) / (2 : Int32)) (v5 + (1)) q1.2.1 q1.2.2)))) none))) := rfl
noncomputable def E_X10_oil (a0 : Int32) (I : kI) (J : kJ) : Option (Int32 × kI × kJ) := (kif (pre_X10_areHours a0 I J) (kif ((F_X10_areHours a0 I J) = 0) (kif (pre_X10_refuse (-102 : Int32) I J) (some ((F_X10_refuse (-102 : Int32) I J).1, (F_X10_refuse (-102 : Int32) I J).2.1, (F_X10_refuse (-102 : Int32) I J).2.2)) none) (kbd (E_X10_unlitWithOil a0 (9999 : Int32) I J) (fun q1 => ((G_X10_oil a0 kfu) 33 q1.1 (0 : Int32) (9999 : Int32) (0 : Int32) q1.2.1 q1.2.2)))) none)
def sp_X10_oil : kx_Sp := fun av0 S0 r0 S1 => ∃ (a0 : Int32) (I : kI) (J : kJ) (q : Int32 × kI × kJ) (hG : E_X10_oil a0 I J = some q), av0 = [kx_r 10 0, kx_i a0] ∧ S0 = (I, J, none) ∧ r0 = (some (kx_i q.1)) ∧ S1 = (q.2.1, q.2.2, none)
theorem cs_X10_oil (a0 : Int32) (I : kI) (J : kJ) (q : Int32 × kI × kJ) (hG : E_X10_oil a0 I J = some q) : sp_X10_oil [kx_r 10 0, kx_i a0] (I, J, none) (some (kx_i q.1)) (q.2.1, q.2.2, none) := ⟨a0, I, J, q, hG, rfl, rfl, rfl, rfl⟩
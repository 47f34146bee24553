noncomputable def E_X10_unlitAsPlanned (a0 : Int32) (I : kI) (J : kJ) : Option (Int32 × kI × kJ) := (kbd (E_X8_begin (0) (0) I J) (fun q1 => (kbd (E_X8_passHours (0) (0) a0 q1.1 q1.2) (fun q2 => (some (q2.1, q2.2.1, q2.2.2))))))
def sp_X10_unlitAsPlanned : kx_Sp := fun av0 S0 r0 S1 => ∃ (a0 : Int32) (I : kI) (J : kJ) (q : Int32 × kI × kJ) (hG : E_X10_unlitAsPlanned a0 I J = some q), av0 = [kx_r 10 0, kx_i a0] ∧ S0 = (I, J, none) ∧ r0 = (some (kx_i q.1)) ∧ S1 = (q.2.1, q.2.2, none)
theorem cs_X10_unlitAsPlanned (a0 : Int32) (I : kI) (J : kJ) (q : Int32 × kI × kJ) (hG : E_X10_unlitAsPlanned a0 I J = some q) : sp_X10_unlitAsPlanned [kx_r 10 0, kx_i a0] (I, J, none) (some (kx_i q.1)) (q.2.1, q.2.2, none) := ⟨a0, I, J, q, hG, rfl, rfl, rfl, rfl⟩
noncomputable def G_X10_better (a0 : Int32) (a1 : Int32) : Nat → Nat → Int32 → Int32 → Int32 → kI → kJ → Option (Int32 × kI × kJ)
  | 0, _, _, _, _, _, _ => none
  | n + 1, pc, v3, v4, v5, I, J => (bif Nat.beq pc 56 then (kif ((I 1 0 5) ≤ v5) (some (v4, I, J)) (kbd (E_X8_begin (0) (0) I J) (fun q1 => (kif (pre_X6_assign (2) a0 v5 q1.1 q1.2) (kbd (E_X8_passHours (0) (0) a1 (F_X6_assign (2) a0 v5 q1.1 q1.2).1 (F_X6_assign (2) a0 v5 q1.1 q1.2).2) (fun q2 => (kif (v3 ≤ q2.1) ((G_X10_better a0 a1 n) 56 v3 v4 (v5 + (1)) q2.2.1 q2.2.2) ((G_X10_better a0 a1 n) 56 q2.1 v5 (v5 + (1)) q2.2.1 q2.2.2)))) none)))) else none)
theorem G_X10_better_56 (a0 : Int32) (a1 : Int32) (n : Nat) (v3 : Int32) (v4 : Int32) (v5 : Int32) (I : kI) (J : kJ) : G_X10_better a0 a1 (n + 1) 56 v3 v4 v5 I J = (kif ((I 1 0 5) ≤ v5) (some (v4, I, J)) (kbd (E_X8_begin (0) (0) I J) (fun q1 => (kif (pre_X6_assign (2) a0 v5 q1.1 q1.2) (kbd (E_X8_passHours (0) (0) a1 (F_X6_assign (2) a0 v5 q1.1 q1.2).1 (F_X6_assign (2) a0 v5 q1.1 q1.2).2) (fun q2 => (kif (v3 ≤ q2.1) ((G_X10_better a0 a1 n) 56 v3 v4 (v5 + (1)) q2.2.1 q2.2.2) ((G_X10_better a0 a1 n) 56 q2.1 v5 (v5 + (1)) q2.2.1 q2.2.2)))) none)))) := rfl
noncomputable def E_X10_better (a0 : Int32) (a1 : Int32) (I : kI) (J : kJ) : Option (Int32 × kI × kJ) := (kif (pre_X10_isHourOfDay a0 I J) (kif ((F_X10_isHourOfDay a0 I J) = 0) (kif (pre_X10_refuse (-102 : Int32) I J) (some ((F_X10_refuse (-102 : Int32) I J).1, (F_X10_refuse (-102 : Int32) I J).2.1, (F_X10_refuse (-102 : Int32) I J).2.2)) none) (kif (pre_X10_areHours a1 I J) (kif ((F_X10_areHours a1 I J) = 0) (kif (pre_X10_refuse (-102 : Int32) I J) (some ((F_X10_refuse (-102 : Int32) I J).1, (F_X10_refuse (-102 : Int32) I J).2.1, (F_X10_refuse (-102 : Int32) I J).2.2)) none) (kif ((I 1 0 5) = 0) (kif (pre_X10_refuse (-105 : Int32) I J) (some ((F_X10_refuse (-105 : Int32) I J).1, (F_X10_refuse (-105 : Int32) I J).2.1, (F_X10_refuse (-105 : Int32) I J).2.2)) none) (kbd (E_X10_unlitAsPlanned a1 I J) (fun q1 => ((G_X10_better a0 a1 kfu) 56 q1.1 (-1 : Int32) (0 : Int32) q1.2.1 q1.2.2))))) none)) none)
def sp_X10_better : kx_Sp := fun av0 S0 r0 S1 => ∃ (a0 : Int32) (a1 : Int32) (I : kI) (J : kJ) (q : Int32 × kI × kJ) (hG : E_X10_better a0 a1 I J = some q), av0 = [kx_r 10 0, kx_i a0, kx_i a1] ∧ S0 = (I, J, none) ∧ r0 = (some (kx_i q.1)) ∧ S1 = (q.2.1, q.2.2, none)
theorem cs_X10_better (a0 : Int32) (a1 : Int32) (I : kI) (J : kJ) (q : Int32 × kI × kJ) (hG : E_X10_better a0 a1 I J = some q) : sp_X10_better [kx_r 10 0, kx_i a0, kx_i a1] (I, J, none) (some (kx_i q.1)) (q.2.1, q.2.2, none) := ⟨a0, a1, I, J, q, hG, rfl, rfl, rfl, rfl⟩
noncomputable def E_X10_other (a0 : Int32) (a1 : Int32) (I : kI) (J : kJ) : Option (Int32 × kI × kJ) := (kif (pre_X10_areHours a1 I J) (kif ((F_X10_areHours a1 I J) = 0) (kif (pre_X10_refuse (-102 : Int32) I J) (some ((F_X10_refuse (-102 : Int32) I J).1, (F_X10_refuse (-102 : Int32) I J).2.1, (F_X10_refuse (-102 : Int32) I J).2.2)) none) (kbd (E_X10_againstPlanIn a0 I J) (fun q1 => (kif (q1 = 0) (kbd (E_X10_unlitAsPlanned a1 I J) (fun q2 => (kbd (E_X8_begin (0) (0) q2.2.1 q2.2.2) (fun q3 => (kif ((F_X10_isWithin a0 0 7 q3.1 q3.2) = 0) none (kbd (E_X10_assignAll (2) ((a0).toNatClampNeg) q3.1 q3.2) (fun q4 => (kbd (E_X8_passHours (0) (0) a1 q4.1 q4.2) (fun q5 => (some ((q5.1 - q2.1), q5.2.1, q5.2.2))))))))))) (kif (pre_X10_refuse q1 I J) (some ((F_X10_refuse q1 I J).1, (F_X10_refuse q1 I J).2.1, (F_X10_refuse q1 I J).2.2)) none))))) none)
def sp_X10_other : kx_Sp := fun av0 S0 r0 S1 => ∃ (a0 : Int32) (a1 : Int32) (I : kI) (J : kJ) (q : Int32 × kI × kJ) (hG : E_X10_other a0 a1 I J = some q), av0 = [kx_r 10 0, kx_i a0, kx_i a1] ∧ S0 = (I, J, none) ∧ r0 = (some (kx_i q.1)) ∧ S1 = (q.2.1, q.2.2, none)
theorem cs_X10_other (a0 : Int32) (a1 : Int32) (I : kI) (J : kJ) (q : Int32 × kI × kJ) (hG : E_X10_other a0 a1 I J = some q) : sp_X10_other [kx_r 10 0, kx_i a0, kx_i a1] (I, J, none) (some (kx_i q.1)) (q.2.1, q.2.2, none) := ⟨a0, a1, I, J, q, hG, rfl, rfl, rfl, rfl⟩
noncomputable def G_X10_idle (a0 : Int32) : Nat → Nat → Int32 → Int32 → Int32 → kI → kJ → Option (Int32 × kI × kJ)
  | 0, _, _, _, _, _, _ => none
  | n + 1, pc, v2, v3, v4, I, J => (bif Nat.beq pc 25 then (kif ((I 1 0 5) ≤ v4) (some (v3, I, J)) (kbd (E_X8_begin (0) (0) I J) (fun q1 => (kbd (E_X8_passHours (0) (0) a0 (F_X6_relieve (2) v4 q1.1 q1.2).1 (F_X6_relieve (2) v4 q1.1 q1.2).2) (fun q2 => (kif (v2 < q2.1) ((G_X10_idle a0 n) 25 v2 v3 (v4 + (1)) q2.2.1 q2.2.2) ((G_X10_idle a0 n) 25 v2 (v3 ||| ((1 : Int32) <<< (v4 &&& 31))) (v4 + (1)) q2.2.1 q2.2.2))))))) else none)
theorem G_X10_idle_25 (a0 : Int32) (n : Nat) (v2 : Int32) (v3 : Int32) (v4 : Int32) (I : kI) (J : kJ) : G_X10_idle a0 (n + 1) 25 v2 v3 v4 I J = (kif ((I 1 0 5) ≤ v4) (some (v3, I, J)) (kbd (E_X8_begin (0) (0) I J) (fun q1 => (kbd (E_X8_passHours (0) (0) a0 (F_X6_relieve (2) v4 q1.1 q1.2).1 (F_X6_relieve (2) v4 q1.1 q1.2).2) (fun q2 => (kif (v2 < q2.1) ((G_X10_idle a0 n) 25 v2 v3 (v4 + (1)) q2.2.1 q2.2.2) ((G_X10_idle a0 n) 25 v2 (v3 ||| ((1 : Int32) <<< (v4 &&& 31))) (v4 + (1)) q2.2.1 q2.2.2))))))) := rfl
noncomputable def E_X10_idle (a0 : Int32) (I : kI) (J : kJ) : Option (Int32 × kI × kJ) := (kif (pre_X10_areHours a0 I J) (kif ((F_X10_areHours a0 I J) = 0) (kif (pre_X10_refuse (-102 : Int32) I J) (some ((F_X10_refuse (-102 : Int32) I J).1, (F_X10_refuse (-102 : Int32) I J).2.1, (F_X10_refuse (-102 : Int32) I J).2.2)) none) (kbd (E_X10_unlitAsPlanned a0 I J) (fun q1 => ((G_X10_idle a0 kfu) 25 q1.1 (0 : Int32) (0 : Int32) q1.2.1 q1.2.2)))) none)
def sp_X10_idle : kx_Sp := fun av0 S0 r0 S1 => ∃ (a0 : Int32) (I : kI) (J : kJ) (q : Int32 × kI × kJ) (hG : E_X10_idle a0 I J = some q), av0 = [kx_r 10 0, kx_i a0] ∧ S0 = (I, J, none) ∧ r0 = (some (kx_i q.1)) ∧ S1 = (q.2.1, q.2.2, none)
theorem cs_X10_idle (a0 : Int32) (I : kI) (J : kJ) (q : Int32 × kI × kJ) (hG : E_X10_idle a0 I J = some q) : sp_X10_idle [kx_r 10 0, kx_i a0] (I, J, none) (some (kx_i q.1)) (q.2.1, q.2.2, none) := ⟨a0, I, J, q, hG, rfl, rfl, rfl, rfl⟩
noncomputable def E_X10_image  (I : kI) (J : kJ) : Option (Int32 × kI × kJ) := (kbd (E_X9_become (1) (0) I J) (fun q1 => (some ((1 : Int32), (kw q1.1 10 0 7 (1 : Int32)), q1.2))))
def sp_X10_image : kx_Sp := fun av0 S0 r0 S1 => ∃ (I : kI) (J : kJ) (q : Int32 × kI × kJ) (hG : E_X10_image  I J = some q), av0 = [kx_r 10 0] ∧ S0 = (I, J, none) ∧ r0 = (some (kx_i q.1)) ∧ S1 = (q.2.1, q.2.2, none)
theorem cs_X10_image  (I : kI) (J : kJ) (q : Int32 × kI × kJ) (hG : E_X10_image  I J = some q) : sp_X10_image [kx_r 10 0] (I, J, none) (some (kx_i q.1)) (q.2.1, q.2.2, none) := ⟨I, J, q, hG, rfl, rfl, rfl, rfl⟩
noncomputable def G_X10_back  : Nat → Nat → Int32 → kI → kJ → Option (Int32 × kI × kJ)
  | 0, _, _, _, _ => none
  | n + 1, pc, v1, I, J => (bif Nat.beq pc 27 then (kif ((8 : Int32) ≤ v1) (some ((1 : Int32), I, J)) (kif ((F_X10_isWithin v1 0 7 I J) = 0) ((G_X10_back  n) 27 (v1 + (1)) I J) (kif ((F_X4_isShip ((v1).toNatClampNeg) I J) = 0) ((G_X10_back  n) 27 (v1 + (1)) I J) (kif ((F_X2_has (0) (F_X4_shipNumber ((v1).toNatClampNeg) I J) I J) = 0) ((G_X10_back  n) 27 (v1 + (1)) (F_X4_takeNothing ((v1).toNatClampNeg) I J).1 (F_X4_takeNothing ((v1).toNatClampNeg) I J).2) ((G_X10_back  n) 27 (v1 + (1)) I J))))) else none)
theorem G_X10_back_27  (n : Nat) (v1 : Int32) (I : kI) (J : kJ) : G_X10_back  (n + 1) 27 v1 I J = (kif ((8 : Int32) ≤ v1) (some ((1 : Int32), I, J)) (kif ((F_X10_isWithin v1 0 7 I J) = 0) ((G_X10_back  n) 27 (v1 + (1)) I J) (kif ((F_X4_isShip ((v1).toNatClampNeg) I J) = 0) ((G_X10_back  n) 27 (v1 + (1)) I J) (kif ((F_X2_has (0) (F_X4_shipNumber ((v1).toNatClampNeg) I J) I J) = 0) ((G_X10_back  n) 27 (v1 + (1)) (F_X4_takeNothing ((v1).toNatClampNeg) I J).1 (F_X4_takeNothing ((v1).toNatClampNeg) I J).2) ((G_X10_back  n) 27 (v1 + (1)) I J))))) := rfl
noncomputable def E_X10_back  (I : kI) (J : kJ) : Option (Int32 × kI × kJ) := (kif ((I 10 0 7) = 0) (kif (pre_X10_refuse (-105 : Int32) I J) (some ((F_X10_refuse (-105 : Int32) I J).1, (F_X10_refuse (-105 : Int32) I J).2.1, (F_X10_refuse (-105 : Int32) I J).2.2)) none) (kbd (E_X9_become (0) (1) I J) (fun q1 => ((G_X10_back  kfu) 27 (0 : Int32) q1.1 q1.2))))
def sp_X10_back : kx_Sp := fun av0 S0 r0 S1 => ∃ (I : kI) (J : kJ) (q : Int32 × kI × kJ) (hG : E_X10_back  I J = some q), av0 = [kx_r 10 0] ∧ S0 = (I, J, none) ∧ r0 = (some (kx_i q.1)) ∧ S1 = (q.2.1, q.2.2, none)
theorem cs_X10_back  (I : kI) (J : kJ) (q : Int32 × kI × kJ) (hG : E_X10_back  I J = some q) : sp_X10_back [kx_r 10 0] (I, J, none) (some (kx_i q.1)) (q.2.1, q.2.2, none) := ⟨I, J, q, hG, rfl, rfl, rfl, rfl⟩
noncomputable def G_X10_countFullShelves  : Nat → Nat → Int32 → Int32 → kI → kJ → Option (Int32)
  | 0, _, _, _, _, _ => none
  | n + 1, pc, v1, v2, I, J => (bif Nat.beq pc 4 then (kif ((8 : Int32) ≤ v2) (some v1) (kif ((F_X10_isWithin v2 0 7 I J) = 0) ((G_X10_countFullShelves  n) 4 v1 (v2 + (1)) I J) (kif ((F_X4_isEmpty ((v2).toNatClampNeg) I J) = 0) ((G_X10_countFullShelves  n) 4 (v1 + (1)) (v2 + (1)) I J) ((G_X10_countFullShelves  n) 4 v1 (v2 + (1)) I J)))) else none)
theorem G_X10_countFullShelves_4  (n : Nat) (v1 : Int32) (v2 : Int32) (I : kI) (J : kJ) : G_X10_countFullShelves  (n + 1) 4 v1 v2 I J = (kif ((8 : Int32) ≤ v2) (some v1) (kif ((F_X10_isWithin v2 0 7 I J) = 0) ((G_X10_countFullShelves  n) 4 v1 (v2 + (1)) I J) (kif ((F_X4_isEmpty ((v2).toNatClampNeg) I J) = 0) ((G_X10_countFullShelves  n) 4 (v1 + (1)) (v2 + (1)) I J) ((G_X10_countFullShelves  n) 4 v1 (v2 + (1)) I J)))) := rfl
noncomputable def E_X10_countFullShelves  (I : kI) (J : kJ) : Option (Int32) := ((G_X10_countFullShelves  kfu) 4 (0 : Int32) (0 : Int32) I J)
set_option maxRecDepth 100000 in
set_option maxHeartbeats 4000000 in
theorem cl_X10_countFullShelves  (I0 : kI) (J0 : kJ) : ∀ n : Nat, (∀ (v1 : Int32) (v2 : Int32) (x3 : Option kx_V) (I : kI) (J : kJ) (q : Int32), I = I0 → J = J0 → G_X10_countFullShelves  n 4 v1 v2 I J = some q → kx_Run tb_X10_countFullShelves (kx_NC, fun r' S'' => r' = some (kx_i q) ∧ S'' = (I0, J0, none)) 4 [some (kx_r 10 (0)), some (kx_i v1), some (kx_i v2), x3] [] (I, J, none)) := by
  intro n
  induction n with
  | zero => (intros; rename_i h; have h2 : (none : Option _) = some _ := h; cases h2)
  | succ n ih =>
    intro v1 v2 x3  I J q hI0 hJ0 hG
    subst hI0 hJ0
    rw [G_X10_countFullShelves_4] at hG
    refine kx_start [4] 24 ?_
    refine ⟨fun h1 => ?_, fun h1 => ?_⟩
    · replace h1 : (8 : Int32) ≤ v2 := h1
      rw [kif_pos h1] at hG
      replace hG := Option.some.inj hG
      subst hG
      exact ⟨rfl, rfl⟩
    · replace h1 : ¬ (8 : Int32) ≤ v2 := h1
      rw [kif_neg h1] at hG
      by_cases h2 : (F_X10_isWithin v2 0 7 I J) = 0
      · rw [kif_pos h2] at hG
        refine ⟨_, _, cs_X10_shelfAt0 v2 I J h2, rfl, ?_⟩
        exact (ih) _ _ _ _ _ q rfl rfl hG
      · rw [kif_neg h2] at hG
        refine ⟨_, _, cs_X10_shelfAt1 v2 I J h2, rfl, ?_⟩
        refine ⟨_, _, cs_X4_isEmpty ((v2).toNatClampNeg) I J, rfl, ?_⟩
        refine ⟨fun h3 => ?_, fun h3 => ?_⟩
        · replace h3 : ¬ (F_X4_isEmpty ((v2).toNatClampNeg) I J) = 0 := h3
          rw [kif_neg h3] at hG
          exact (ih) _ _ _ _ _ q rfl rfl hG
        · replace h3 : (F_X4_isEmpty ((v2).toNatClampNeg) I J) = 0 := h3
          rw [kif_pos h3] at hG
          exact (ih) _ _ _ _ _ q rfl rfl hG
set_option maxRecDepth 100000 in
set_option maxHeartbeats 4000000 in
theorem cs_X10_countFullShelves  (I : kI) (J : kJ) (q : Int32) (hG : E_X10_countFullShelves  I J = some q) : sp_X10_countFullShelves [kx_r 10 0] (I, J, none) (some (kx_i q)) (I, J, none) := by
  unfold E_X10_countFullShelves at hG
  refine kx_start [4] 24 ?_
  exact ((cl_X10_countFullShelves  I J kfu)) _ _ _ _ _ q rfl rfl hG
noncomputable def G_X10_status (a0 : Int32) : Nat → Nat → Int32 → kI → kJ → Option (Int32)
  | 0, _, _, _, _ => none
  | n + 1, pc, s0, I, J => (bif Nat.beq pc 131 then (some s0) else (bif Nat.beq pc 244 then (some s0) else none))
theorem G_X10_status_131 (a0 : Int32) (n : Nat) (s0 : Int32) (I : kI) (J : kJ) : G_X10_status a0 (n + 1) 131 s0 I J = (some s0) := rfl
theorem G_X10_status_244 (a0 : Int32) (n : Nat) (s0 : Int32) (I : kI) (J : kJ) : G_X10_status a0 (n + 1) 244 s0 I J = (some s0) := rfl
noncomputable def E_X10_status (a0 : Int32) (I : kI) (J : kJ) : Option (Int32) := (kif (a0 = (0)) (some (I 6 0 4)) (kif (a0 = (1)) (some (I 6 0 8)) (kif (a0 = (2)) (some (I 6 0 9)) (kif (a0 = (3)) (kif ((I 6 0 10) = 0) ((G_X10_status a0 kfu) 131 (0 : Int32) I J) ((G_X10_status a0 kfu) 131 (1 : Int32) I J)) (kif (a0 = (4)) (some (I 6 0 11)) (kif (a0 = (5)) (some (I 1 0 5)) (kif (a0 = (6)) (some (I 2 0 5)) (kif (a0 = (7)) (some (I 3 0 4)) (kif (a0 = (8)) (some (I 9 0 3)) (kif (a0 = (9)) (some (I 0 0 0)) (kif (a0 = (10)) (some (I 5 0 2)) (kif (a0 = (11)) (some (I 0 0 4)) (kif (a0 = (12)) (kif ((F_X10_isWithin a0 (12 : Int32) (16 : Int32) I J) = 0) ((G_X10_status a0 kfu) 244 (-1 : Int32) I J) (kif (vp_in (a0 - (12 : Int32)) 5) ((G_X10_status a0 kfu) 244 (I 40 0 ((a0 - (12 : Int32))).toNatClampNeg) I J) none)) (kif (a0 = (13)) (kif ((F_X10_isWithin a0 (12 : Int32) (16 : Int32) I J) = 0) ((G_X10_status a0 kfu) 244 (-1 : Int32) I J) (kif (vp_in (a0 - (12 : Int32)) 5) ((G_X10_status a0 kfu) 244 (I 40 0 ((a0 - (12 : Int32))).toNatClampNeg) I J) none)) (kif (a0 = (14)) (kif ((F_X10_isWithin a0 (12 : Int32) (16 : Int32) I J) = 0) ((G_X10_status a0 kfu) 244 (-1 : Int32) I J) (kif (vp_in (a0 - (12 : Int32)) 5) ((G_X10_status a0 kfu) 244 (I 40 0 ((a0 - (12 : Int32))).toNatClampNeg) I J) none)) (kif (a0 = (15)) (kif ((F_X10_isWithin a0 (12 : Int32) (16 : Int32) I J) = 0) ((G_X10_status a0 kfu) 244 (-1 : Int32) I J) (kif (vp_in (a0 - (12 : Int32)) 5) ((G_X10_status a0 kfu) 244 (I 40 0 ((a0 - (12 : Int32))).toNatClampNeg) I J) none)) (kif (a0 = (16)) (kif ((F_X10_isWithin a0 (12 : Int32) (16 : Int32) I J) = 0) ((G_X10_status a0 kfu) 244 (-1 : Int32) I J) (kif (vp_in (a0 - (12 : Int32)) 5) ((G_X10_status a0 kfu) 244 (I 40 0 ((a0 - (12 : Int32))).toNatClampNeg) I J) none)) (kif (a0 = (17)) (some (I 7 0 1)) (kif (a0 = (18)) (some (I 9 0 5)) (kif (a0 = (19)) (kbd (E_X10_countFullShelves  I J) (fun q1 => (some q1))) (kif ((F_X10_isWithin a0 (12 : Int32) (16 : Int32) I J) = 0) ((G_X10_status a0 kfu) 244 (-1 : Int32) I J) (kif (vp_in (a0 - (12 : Int32)) 5) ((G_X10_status a0 kfu) 244 (I 40 0 ((a0 - (12 : Int32))).toNatClampNeg) I J) none))))))))))))))))))))))
set_option maxRecDepth 100000 in
set_option maxHeartbeats 4000000 in
theorem cl_X10_status (a0 : Int32) (I0 : kI) (J0 : kJ) : ∀ n : Nat, (∀ (s0 : Int32) (x0 x1 x2 : Option kx_V) (I : kI) (J : kJ) (q : Int32), I = I0 → J = J0 → G_X10_status a0 n 131 s0 I J = some q → kx_Run tb_X10_status (kx_NC, fun r' S'' => r' = some (kx_i q) ∧ S'' = (I0, J0, none)) 131 [x0, x1, x2] [kx_i s0] (I, J, none)) ∧ (∀ (s0 : Int32) (x0 x1 x2 : Option kx_V) (I : kI) (J : kJ) (q : Int32), I = I0 → J = J0 → G_X10_status a0 n 244 s0 I J = some q → kx_Run tb_X10_status (kx_NC, fun r' S'' => r' = some (kx_i q) ∧ S'' = (I0, J0, none)) 244 [x0, x1, x2] [kx_i s0] (I, J, none)) := by
  intro n
  induction n with
  | zero => refine ⟨?_, ?_⟩ <;> (intros; rename_i h; have h2 : (none : Option _) = some _ := h; cases h2)
  | succ n ih =>
    refine ⟨?_, ?_⟩
    · intro s0 x0 x1 x2  I J q hI0 hJ0 hG
      subst hI0 hJ0
      rw [G_X10_status_131] at hG
      refine kx_start [131, 244] 83 ?_
      replace hG := Option.some.inj hG
      subst hG
      exact ⟨rfl, rfl⟩
    · intro s0 x0 x1 x2  I J q hI0 hJ0 hG
      subst hI0 hJ0
      rw [G_X10_status_244] at hG
      refine kx_start [131, 244] 83 ?_
      replace hG := Option.some.inj hG
      subst hG
      exact ⟨rfl, rfl⟩
set_option maxRecDepth 100000 in
set_option maxHeartbeats 4000000 in
theorem cs_X10_status (a0 : Int32) (I : kI) (J : kJ) (q : Int32) (hG : E_X10_status a0 I J = some q) : sp_X10_status [kx_r 10 0, kx_i a0] (I, J, none) (some (kx_i q)) (I, J, none) := by
  unfold E_X10_status at hG
  refine kx_start [131, 244] 83 ?_
  refine ⟨fun h1 => ?_, fun h1 => ?_⟩
  · replace h1 : a0 = (0) := h1
    rw [kif_pos h1] at hG
    replace hG := Option.some.inj hG
    subst hG
    exact ⟨rfl, rfl⟩
  · replace h1 : ¬ a0 = (0) := h1
    rw [kif_neg h1] at hG
    refine ⟨fun h2 => ?_, fun h2 => ?_⟩
    · replace h2 : a0 = (1) := h2
      rw [kif_pos h2] at hG
      replace hG := Option.some.inj hG
      subst hG
      exact ⟨rfl, rfl⟩
    · replace h2 : ¬ a0 = (1) := h2
      rw [kif_neg h2] at hG
      refine ⟨fun h3 => ?_, fun h3 => ?_⟩
      · replace h3 : a0 = (2) := h3
        rw [kif_pos h3] at hG
        replace hG := Option.some.inj hG
        subst hG
        exact ⟨rfl, rfl⟩
      · replace h3 : ¬ a0 = (2) := h3
        rw [kif_neg h3] at hG
        refine ⟨fun h4 => ?_, fun h4 => ?_⟩
        · replace h4 : a0 = (3) := h4
          rw [kif_pos h4] at hG
          refine ⟨fun h5 => ?_, fun h5 => ?_⟩
          · replace h5 : (I 6 0 10) = 0 := h5
            rw [kif_pos h5] at hG
            exact ((cl_X10_status a0 I J kfu).1) _ _ _ _ _ _ q rfl rfl hG
          · replace h5 : ¬ (I 6 0 10) = 0 := h5
            rw [kif_neg h5] at hG
            exact ((cl_X10_status a0 I J kfu).1) _ _ _ _ _ _ q rfl rfl hG
        · replace h4 : ¬ a0 = (3) := h4
          rw [kif_neg h4] at hG
          refine ⟨fun h6 => ?_, fun h6 => ?_⟩
          · replace h6 : a0 = (4) := h6
            rw [kif_pos h6] at hG
            replace hG := Option.some.inj hG
            subst hG
            exact ⟨rfl, rfl⟩
          · replace h6 : ¬ a0 = (4) := h6
            rw [kif_neg h6] at hG
            refine ⟨fun h7 => ?_, fun h7 => ?_⟩
            · replace h7 : a0 = (5) := h7
              rw [kif_pos h7] at hG
              replace hG := Option.some.inj hG
              subst hG
              exact ⟨rfl, rfl⟩
            · replace h7 : ¬ a0 = (5) := h7
              rw [kif_neg h7] at hG
              refine ⟨fun h8 => ?_, fun h8 => ?_⟩
              · replace h8 : a0 = (6) := h8
                rw [kif_pos h8] at hG
                replace hG := Option.some.inj hG
                subst hG
                exact ⟨rfl, rfl⟩
              · replace h8 : ¬ a0 = (6) := h8
                rw [kif_neg h8] at hG
                refine ⟨fun h9 => ?_, fun h9 => ?_⟩
                · replace h9 : a0 = (7) := h9
                  rw [kif_pos h9] at hG
                  replace hG := Option.some.inj hG
                  subst hG
                  exact ⟨rfl, rfl⟩
                · replace h9 : ¬ a0 = (7) := h9
                  rw [kif_neg h9] at hG
                  refine ⟨fun h10 => ?_, fun h10 => ?_⟩
                  · replace h10 : a0 = (8) := h10
                    rw [kif_pos h10] at hG
                    replace hG := Option.some.inj hG
                    subst hG
                    exact ⟨rfl, rfl⟩
                  · replace h10 : ¬ a0 = (8) := h10
                    rw [kif_neg h10] at hG
                    refine ⟨fun h11 => ?_, fun h11 => ?_⟩
                    · replace h11 : a0 = (9) := h11
                      rw [kif_pos h11] at hG
                      replace hG := Option.some.inj hG
                      subst hG
                      exact ⟨rfl, rfl⟩
                    · replace h11 : ¬ a0 = (9) := h11
                      rw [kif_neg h11] at hG
                      refine ⟨fun h12 => ?_, fun h12 => ?_⟩
                      · replace h12 : a0 = (10) := h12
                        rw [kif_pos h12] at hG
                        replace hG := Option.some.inj hG
                        subst hG
                        exact ⟨rfl, rfl⟩
                      · replace h12 : ¬ a0 = (10) := h12
                        rw [kif_neg h12] at hG
                        refine ⟨fun h13 => ?_, fun h13 => ?_⟩
                        · replace h13 : a0 = (11) := h13
                          rw [kif_pos h13] at hG
                          replace hG := Option.some.inj hG
                          subst hG
                          exact ⟨rfl, rfl⟩
                        · replace h13 : ¬ a0 = (11) := h13
                          rw [kif_neg h13] at hG
                          refine ⟨fun h14 => ?_, fun h14 => ?_⟩
                          · replace h14 : a0 = (12) := h14
                            rw [kif_pos h14] at hG
                            refine ⟨_, _, cs_X10_isWithin a0 (12 : Int32) (16 : Int32) I J, rfl, ?_⟩
                            refine ⟨fun h15 => ?_, fun h15 => ?_⟩
                            · replace h15 : (F_X10_isWithin a0 (12 : Int32) (16 : Int32) I J) = 0 := h15
                              rw [kif_pos h15] at hG
                              exact ((cl_X10_status a0 I J kfu).2) _ _ _ _ _ _ q rfl rfl hG
                            · replace h15 : ¬ (F_X10_isWithin a0 (12 : Int32) (16 : Int32) I J) = 0 := h15
                              rw [kif_neg h15] at hG
                              obtain ⟨hq, hG⟩ := kif_some hG
                              refine ⟨hq, ?_⟩
                              exact ((cl_X10_status a0 I J kfu).2) _ _ _ _ _ _ q rfl rfl hG
                          · replace h14 : ¬ a0 = (12) := h14
                            rw [kif_neg h14] at hG
                            refine ⟨fun h16 => ?_, fun h16 => ?_⟩
                            · replace h16 : a0 = (13) := h16
                              rw [kif_pos h16] at hG
                              refine ⟨_, _, cs_X10_isWithin a0 (12 : Int32) (16 : Int32) I J, rfl, ?_⟩
                              refine ⟨fun h17 => ?_, fun h17 => ?_⟩
                              · replace h17 : (F_X10_isWithin a0 (12 : Int32) (16 : Int32) I J) = 0 := h17
                                rw [kif_pos h17] at hG
                                exact ((cl_X10_status a0 I J kfu).2) _ _ _ _ _ _ q rfl rfl hG
                              · replace h17 : ¬ (F_X10_isWithin a0 (12 : Int32) (16 : Int32) I J) = 0 := h17
                                rw [kif_neg h17] at hG
                                obtain ⟨hq, hG⟩ := kif_some hG
                                refine ⟨hq, ?_⟩
                                exact ((cl_X10_status a0 I J kfu).2) _ _ _ _ _ _ q rfl rfl hG
                            · replace h16 : ¬ a0 = (13) := h16
                              rw [kif_neg h16] at hG
                              refine ⟨fun h18 => ?_, fun h18 => ?_⟩
                              · replace h18 : a0 = (14) := h18
                                rw [kif_pos h18] at hG
                                refine ⟨_, _, cs_X10_isWithin a0 (12 : Int32) (16 : Int32) I J, rfl, ?_⟩
                                refine ⟨fun h19 => ?_, fun h19 => ?_⟩
                                · replace h19 : (F_X10_isWithin a0 (12 : Int32) (16 : Int32) I J) = 0 := h19
                                  rw [kif_pos h19] at hG
                                  exact ((cl_X10_status a0 I J kfu).2) _ _ _ _ _ _ q rfl rfl hG
                                · replace h19 : ¬ (F_X10_isWithin a0 (12 : Int32) (16 : Int32) I J) = 0 := h19
                                  rw [kif_neg h19] at hG
                                  obtain ⟨hq, hG⟩ := kif_some hG
                                  refine ⟨hq, ?_⟩
                                  exact ((cl_X10_status a0 I J kfu).2) _ _ _ _ _ _ q rfl rfl hG
                              · replace h18 : ¬ a0 = (14) := h18
                                rw [kif_neg h18] at hG
                                refine ⟨fun h20 => ?_, fun h20 => ?_⟩
                                · replace h20 : a0 = (15) := h20
                                  rw [kif_pos h20] at hG
                                  refine ⟨_, _, cs_X10_isWithin a0 (12 : Int32) (16 : Int32) I J, rfl, ?_⟩
                                  refine ⟨fun h21 => ?_, fun h21 => ?_⟩
                                  · replace h21 : (F_X10_isWithin a0 (12 : Int32) (16 : Int32) I J) = 0 := h21
                                    rw [kif_pos h21] at hG
                                    exact ((cl_X10_status a0 I J kfu).2) _ _ _ _ _ _ q rfl rfl hG
                                  · replace h21 : ¬ (F_X10_isWithin a0 (12 : Int32) (16 : Int32) I J) = 0 := h21
                                    rw [kif_neg h21] at hG
                                    obtain ⟨hq, hG⟩ := kif_some hG
                                    refine ⟨hq, ?_⟩
                                    exact ((cl_X10_status a0 I J kfu).2) _ _ _ _ _ _ q rfl rfl hG
                                · replace h20 : ¬ a0 = (15) := h20
                                  rw [kif_neg h20] at hG
                                  refine ⟨fun h22 => ?_, fun h22 => ?_⟩
                                  · replace h22 : a0 = (16) := h22
                                    rw [kif_pos h22] at hG
                                    refine ⟨_, _, cs_X10_isWithin a0 (12 : Int32) (16 : Int32) I J, rfl, ?_⟩
                                    refine ⟨fun h23 => ?_, fun h23 => ?_⟩
                                    · replace h23 : (F_X10_isWithin a0 (12 : Int32) (16 : Int32) I J) = 0 := h23
                                      rw [kif_pos h23] at hG
                                      exact ((cl_X10_status a0 I J kfu).2) _ _ _ _ _ _ q rfl rfl hG
                                    · replace h23 : ¬ (F_X10_isWithin a0 (12 : Int32) (16 : Int32) I J) = 0 := h23
                                      rw [kif_neg h23] at hG
                                      obtain ⟨hq, hG⟩ := kif_some hG
                                      refine ⟨hq, ?_⟩
                                      exact ((cl_X10_status a0 I J kfu).2) _ _ _ _ _ _ q rfl rfl hG
                                  · replace h22 : ¬ a0 = (16) := h22
                                    rw [kif_neg h22] at hG
                                    refine ⟨fun h24 => ?_, fun h24 => ?_⟩
                                    · replace h24 : a0 = (17) := h24
                                      rw [kif_pos h24] at hG
                                      replace hG := Option.some.inj hG
                                      subst hG
                                      exact ⟨rfl, rfl⟩
                                    · replace h24 : ¬ a0 = (17) := h24
                                      rw [kif_neg h24] at hG
                                      refine ⟨fun h25 => ?_, fun h25 => ?_⟩
                                      · replace h25 : a0 = (18) := h25
                                        rw [kif_pos h25] at hG
                                        replace hG := Option.some.inj hG
                                        subst hG
                                        exact ⟨rfl, rfl⟩
                                      · replace h25 : ¬ a0 = (18) := h25
                                        rw [kif_neg h25] at hG
                                        refine ⟨fun h26 => ?_, fun h26 => ?_⟩
                                        · replace h26 : a0 = (19) := h26
                                          rw [kif_pos h26] at hG
                                          obtain ⟨q1, hq, hG⟩ := kbd_some hG
                                          refine ⟨_, _, cs_X10_countFullShelves  I J q1 hq, rfl, ?_⟩
                                          replace hG := Option.some.inj hG
                                          subst hG
                                          exact ⟨rfl, rfl⟩
                                        · replace h26 : ¬ a0 = (19) := h26
                                          rw [kif_neg h26] at hG
                                          refine ⟨_, _, cs_X10_isWithin a0 (12 : Int32) (16 : Int32) I J, rfl, ?_⟩
                                          refine ⟨fun h27 => ?_, fun h27 => ?_⟩
                                          · replace h27 : (F_X10_isWithin a0 (12 : Int32) (16 : Int32) I J) = 0 := h27
                                            rw [kif_pos h27] at hG
                                            exact ((cl_X10_status a0 I J kfu).2) _ _ _ _ _ _ q rfl rfl hG
                                          · replace h27 : ¬ (F_X10_isWithin a0 (12 : Int32) (16 : Int32) I J) = 0 := h27
                                            rw [kif_neg h27] at hG
                                            obtain ⟨hq, hG⟩ := kif_some hG
                                            refine ⟨hq, ?_⟩
                                            exact ((cl_X10_status a0 I J kfu).2) _ _ _ _ _ _ q rfl rfl hG
noncomputable def G_X11_weatherOf (a0 : Int32) : Nat → Nat → Int32 → Int32 → Int32 → kI → kJ → Option (Int32)
  | 0, _, _, _, _, _, _ => none
  | n + 1, pc, v2, v3, v4, I, J => (bif Nat.beq pc 4 then (kif (vp_in (12 : Int32) 2509) (kif ((I 41 0 ((12 : Int32)).toNatClampNeg) ≤ v3) (kif (v2 = 0) (some (0 : Int32)) (kif (¬ v2 = 0) ((G_X11_weatherOf a0 n) 50 0 (a0 - a0 / v2 * v2) (0 : Int32) I J) none)) (kif (vp_in (((21 : Int32) + ((2 : Int32) * v3)) + (1 : Int32)) 2509) ((G_X11_weatherOf a0 n) 4 (v2 + (I 41 0 ((((21 : Int32) + ((2 : Int32) * v3)) + (1 : Int32))).toNatClampNeg)) (v3 + (1)) 0 I J) none)) none) else (bif Nat.beq pc 50 then (kif (vp_in (((21 : Int32) + ((2 : Int32) * v4)) + (1 : Int32)) 2509) (kif (v3 < (I 41 0 ((((21 : Int32) + ((2 : Int32) * v4)) + (1 : Int32))).toNatClampNeg)) (kif (vp_in ((21 : Int32) + ((2 : Int32) * v4)) 2509) (some (I 41 0 (((21 : Int32) + ((2 : Int32) * v4))).toNatClampNeg)) none) (kif (vp_in (((21 : Int32) + ((2 : Int32) * v4)) + (1 : Int32)) 2509) ((G_X11_weatherOf a0 n) 50 0 (v3 - (I 41 0 ((((21 : Int32) + ((2 : Int32) * v4)) + (1 : Int32))).toNatClampNeg)) (v4 + (1)) I J) none)) none) else none))
theorem G_X11_weatherOf_4 (a0 : Int32) (n : Nat) (v2 : Int32) (v3 : Int32) (v4 : Int32) (I : kI) (J : kJ) : G_X11_weatherOf a0 (n + 1) 4 v2 v3 v4 I J = (kif (vp_in (12 : Int32) 2509) (kif ((I 41 0 ((12 : Int32)).toNatClampNeg) ≤ v3) (kif (v2 = 0) (some (0 : Int32)) (kif (¬ v2 = 0) ((G_X11_weatherOf a0 n) 50 0 (a0 - a0 / v2 * v2) (0 : Int32) I J) none)) (kif (vp_in (((21 : Int32) + ((2 : Int32) * v3)) + (1 : Int32)) 2509) ((G_X11_weatherOf a0 n) 4 (v2 + (I 41 0 ((((21 : Int32) + ((2 : Int32) * v3)) + (1 : Int32))).toNatClampNeg)) (v3 + (1)) 0 I J) none)) none) := rfl
theorem G_X11_weatherOf_50 (a0 : Int32) (n : Nat) (v2 : Int32) (v3 : Int32) (v4 : Int32) (I : kI) (J : kJ) : G_X11_weatherOf a0 (n + 1) 50 v2 v3 v4 I J = (kif (vp_in (((21 : Int32) + ((2 : Int32) * v4)) + (1 : Int32)) 2509) (kif (v3 < (I 41 0 ((((21 : Int32) + ((2 : Int32) * v4)) + (1 : Int32))).toNatClampNeg)) (kif (vp_in ((21 : Int32) + ((2 : Int32) * v4)) 2509) (some (I 41 0 (((21 : Int32) + ((2 : Int32) * v4))).toNatClampNeg)) none) (kif (vp_in (((21 : Int32) + ((2 : Int32) * v4)) + (1 : Int32)) 2509) ((G_X11_weatherOf a0 n) 50 0 (v3 - (I 41 0 ((((21 : Int32) + ((2 : Int32) * v4)) + (1 : Int32))).toNatClampNeg)) (v4 + (1)) I J) none)) none) := rfl
noncomputable def E_X11_weatherOf (a0 : Int32) (I : kI) (J : kJ) : Option (Int32) := ((G_X11_weatherOf a0 kfu) 4 (0 : Int32) (0 : Int32) 0 I J)
def sp_X11_weatherOf : kx_Sp := fun av0 S0 r0 S1 => ∃ (a0 : Int32) (I : kI) (J : kJ) (q : Int32) (hG : E_X11_weatherOf a0 I J = some q), av0 = [kx_r 11 0, kx_i a0] ∧ S0 = (I, J, none) ∧ r0 = (some (kx_i q)) ∧ S1 = (I, J, none)
theorem cs_X11_weatherOf (a0 : Int32) (I : kI) (J : kJ) (q : Int32) (hG : E_X11_weatherOf a0 I J = some q) : sp_X11_weatherOf [kx_r 11 0, kx_i a0] (I, J, none) (some (kx_i q)) (I, J, none) := ⟨a0, I, J, q, hG, rfl, rfl, rfl, rfl⟩
noncomputable def G_X11_lacks (a0 : Int32) (a1 : Int32) (a2 : Int32) (a3 : Int32) (a4 : Int32) : Nat → Nat → Int32 → Int32 → Int32 → Int32 → Int32 → kI → kJ → Option (Int32)
  | 0, _, _, _, _, _, _, _, _ => none
  | n + 1, pc, v5, v6, v7, s0, s1, I, J => (bif Nat.beq pc 13 then (kif (a0 = (7 : Int32)) (kif (a1 = 0) (kif (a4 = (2 : Int32)) ((G_X11_lacks a0 a1 a2 a3 a4 n) 29 0 0 0 0 0 I J) ((G_X11_lacks a0 a1 a2 a3 a4 n) 33 0 0 0 0 0 I J)) ((G_X11_lacks a0 a1 a2 a3 a4 n) 33 0 0 0 0 0 I J)) ((G_X11_lacks a0 a1 a2 a3 a4 n) 33 0 0 0 0 0 I J)) else (bif Nat.beq pc 29 then ((G_X11_lacks a0 a1 a2 a3 a4 n) 34 0 0 0 (1 : Int32) 0 I J) else (bif Nat.beq pc 33 then ((G_X11_lacks a0 a1 a2 a3 a4 n) 34 0 0 0 (0 : Int32) 0 I J) else (bif Nat.beq pc 34 then (kif (a0 = (3 : Int32)) ((G_X11_lacks a0 a1 a2 a3 a4 n) 55 s0 0 0 0 0 I J) (kif (a4 = (1 : Int32)) (kif (a3 = 0) ((G_X11_lacks a0 a1 a2 a3 a4 n) 56 s0 0 0 (1 : Int32) 0 I J) ((G_X11_lacks a0 a1 a2 a3 a4 n) 55 s0 0 0 0 0 I J)) ((G_X11_lacks a0 a1 a2 a3 a4 n) 55 s0 0 0 0 0 I J))) else (bif Nat.beq pc 55 then ((G_X11_lacks a0 a1 a2 a3 a4 n) 56 v5 0 0 (0 : Int32) 0 I J) else (bif Nat.beq pc 56 then (kif ((F_X11_isSmall a0 I J) = 0) ((G_X11_lacks a0 a1 a2 a3 a4 n) 75 v5 s0 0 0 0 I J) (kif (a4 = (2 : Int32)) ((G_X11_lacks a0 a1 a2 a3 a4 n) 76 v5 s0 0 (1 : Int32) 0 I J) ((G_X11_lacks a0 a1 a2 a3 a4 n) 75 v5 s0 0 0 0 I J))) else (bif Nat.beq pc 75 then ((G_X11_lacks a0 a1 a2 a3 a4 n) 76 v5 v6 0 (0 : Int32) 0 I J) else (bif Nat.beq pc 76 then (kif (v5 = 0) ((G_X11_lacks a0 a1 a2 a3 a4 n) 88 0 v6 s0 (0 : Int32) 0 I J) ((G_X11_lacks a0 a1 a2 a3 a4 n) 88 0 v6 s0 (1 : Int32) 0 I J)) else (bif Nat.beq pc 88 then (kif (v6 = 0) ((G_X11_lacks a0 a1 a2 a3 a4 n) 98 0 0 v7 s0 (0 : Int32) I J) ((G_X11_lacks a0 a1 a2 a3 a4 n) 98 0 0 v7 s0 (1 : Int32) I J)) else (bif Nat.beq pc 98 then (kif (v7 = 0) ((G_X11_lacks a0 a1 a2 a3 a4 n) 109 0 0 0 (s0 + s1) (0 : Int32) I J) ((G_X11_lacks a0 a1 a2 a3 a4 n) 109 0 0 0 (s0 + s1) (1 : Int32) I J)) else (bif Nat.beq pc 109 then (some (s0 + s1)) else none)))))))))))
theorem G_X11_lacks_13 (a0 : Int32) (a1 : Int32) (a2 : Int32) (a3 : Int32) (a4 : Int32) (n : Nat) (v5 : Int32) (v6 : Int32) (v7 : Int32) (s0 : Int32) (s1 : Int32) (I : kI) (J : kJ) : G_X11_lacks a0 a1 a2 a3 a4 (n + 1) 13 v5 v6 v7 s0 s1 I J = (kif (a0 = (7 : Int32)) (kif (a1 = 0) (kif (a4 = (2 : Int32)) ((G_X11_lacks a0 a1 a2 a3 a4 n) 29 0 0 0 0 0 I J) ((G_X11_lacks a0 a1 a2 a3 a4 n) 33 0 0 0 0 0 I J)) ((G_X11_lacks a0 a1 a2 a3 a4 n) 33 0 0 0 0 0 I J)) ((G_X11_lacks a0 a1 a2 a3 a4 n) 33 0 0 0 0 0 I J)) := rfl
theorem G_X11_lacks_29 (a0 : Int32) (a1 : Int32) (a2 : Int32) (a3 : Int32) (a4 : Int32) (n : Nat) (v5 : Int32) (v6 : Int32) (v7 : Int32) (s0 : Int32) (s1 : Int32) (I : kI) (J : kJ) : G_X11_lacks a0 a1 a2 a3 a4 (n + 1) 29 v5 v6 v7 s0 s1 I J = ((G_X11_lacks a0 a1 a2 a3 a4 n) 34 0 0 0 (1 : Int32) 0 I J) := rfl
theorem G_X11_lacks_33 (a0 : Int32) (a1 : Int32) (a2 : Int32) (a3 : Int32) (a4 : Int32) (n : Nat) (v5 : Int32) (v6 : Int32) (v7 : Int32) (s0 : Int32) (s1 : Int32) (I : kI) (J : kJ) : G_X11_lacks a0 a1 a2 a3 a4 (n + 1) 33 v5 v6 v7 s0 s1 I J = ((G_X11_lacks a0 a1 a2 a3 a4 n) 34 0 0 0 (0 : Int32) 0 I J) := rfl
theorem G_X11_lacks_34 (a0 : Int32) (a1 : Int32) (a2 : Int32) (a3 : Int32) (a4 : Int32) (n : Nat) (v5 : Int32) (v6 : Int32) (v7 : Int32) (s0 : Int32) (s1 : Int32) (I : kI) (J : kJ) : G_X11_lacks a0 a1 a2 a3 a4 (n + 1) 34 v5 v6 v7 s0 s1 I J = (kif (a0 = (3 : Int32)) ((G_X11_lacks a0 a1 a2 a3 a4 n) 55 s0 0 0 0 0 I J) (kif (a4 = (1 : Int32)) (kif (a3 = 0) ((G_X11_lacks a0 a1 a2 a3 a4 n) 56 s0 0 0 (1 : Int32) 0 I J) ((G_X11_lacks a0 a1 a2 a3 a4 n) 55 s0 0 0 0 0 I J)) ((G_X11_lacks a0 a1 a2 a3 a4 n) 55 s0 0 0 0 0 I J))) := rfl
theorem G_X11_lacks_55 (a0 : Int32) (a1 : Int32) (a2 : Int32) (a3 : Int32) (a4 : Int32) (n : Nat) (v5 : Int32) (v6 : Int32) (v7 : Int32) (s0 : Int32) (s1 : Int32) (I : kI) (J : kJ) : G_X11_lacks a0 a1 a2 a3 a4 (n + 1) 55 v5 v6 v7 s0 s1 I J = ((G_X11_lacks a0 a1 a2 a3 a4 n) 56 v5 0 0 (0 : Int32) 0 I J) := rfl
theorem G_X11_lacks_56 (a0 : Int32) (a1 : Int32) (a2 : Int32) (a3 : Int32) (a4 : Int32) (n : Nat) (v5 : Int32) (v6 : Int32) (v7 : Int32) (s0 : Int32) (s1 : Int32) (I : kI) (J : kJ) : G_X11_lacks a0 a1 a2 a3 a4 (n + 1) 56 v5 v6 v7 s0 s1 I J = (kif ((F_X11_isSmall a0 I J) = 0) ((G_X11_lacks a0 a1 a2 a3 a4 n) 75 v5 s0 0 0 0 I J) (kif (a4 = (2 : Int32)) ((G_X11_lacks a0 a1 a2 a3 a4 n) 76 v5 s0 0 (1 : Int32) 0 I J) ((G_X11_lacks a0 a1 a2 a3 a4 n) 75 v5 s0 0 0 0 I J))) := rfl
theorem G_X11_lacks_75 (a0 : Int32) (a1 : Int32) (a2 : Int32) (a3 : Int32) (a4 : Int32) (n : Nat) (v5 : Int32) (v6 : Int32) (v7 : Int32) (s0 : Int32) (s1 : Int32) (I : kI) (J : kJ) : G_X11_lacks a0 a1 a2 a3 a4 (n + 1) 75 v5 v6 v7 s0 s1 I J = ((G_X11_lacks a0 a1 a2 a3 a4 n) 76 v5 v6 0 (0 : Int32) 0 I J) := rfl
theorem G_X11_lacks_76 (a0 : Int32) (a1 : Int32) (a2 : Int32) (a3 : Int32) (a4 : Int32) (n : Nat) (v5 : Int32) (v6 : Int32) (v7 : Int32) (s0 : Int32) (s1 : Int32) (I : kI) (J : kJ) : G_X11_lacks a0 a1 a2 a3 a4 (n + 1) 76 v5 v6 v7 s0 s1 I J = (kif (v5 = 0) ((G_X11_lacks a0 a1 a2 a3 a4 n) 88 0 v6 s0 (0 : Int32) 0 I J) ((G_X11_lacks a0 a1 a2 a3 a4 n) 88 0 v6 s0 (1 : Int32) 0 I J)) := rfl
theorem G_X11_lacks_88 (a0 : Int32) (a1 : Int32) (a2 : Int32) (a3 : Int32) (a4 : Int32) (n : Nat) (v5 : Int32) (v6 : Int32) (v7 : Int32) (s0 : Int32) (s1 : Int32) (I : kI) (J : kJ) : G_X11_lacks a0 a1 a2 a3 a4 (n + 1) 88 v5 v6 v7 s0 s1 I J = (kif (v6 = 0) ((G_X11_lacks a0 a1 a2 a3 a4 n) 98 0 0 v7 s0 (0 : Int32) I J) ((G_X11_lacks a0 a1 a2 a3 a4 n) 98 0 0 v7 s0 (1 : Int32) I J)) := rfl
theorem G_X11_lacks_98 (a0 : Int32) (a1 : Int32) (a2 : Int32) (a3 : Int32) (a4 : Int32) (n : Nat) (v5 : Int32) (v6 : Int32) (v7 : Int32) (s0 : Int32) (s1 : Int32) (I : kI) (J : kJ) : G_X11_lacks a0 a1 a2 a3 a4 (n + 1) 98 v5 v6 v7 s0 s1 I J = (kif (v7 = 0) ((G_X11_lacks a0 a1 a2 a3 a4 n) 109 0 0 0 (s0 + s1) (0 : Int32) I J) ((G_X11_lacks a0 a1 a2 a3 a4 n) 109 0 0 0 (s0 + s1) (1 : Int32) I J)) := rfl
theorem G_X11_lacks_109 (a0 : Int32) (a1 : Int32) (a2 : Int32) (a3 : Int32) (a4 : Int32) (n : Nat) (v5 : Int32) (v6 : Int32) (v7 : Int32) (s0 : Int32) (s1 : Int32) (I : kI) (J : kJ) : G_X11_lacks a0 a1 a2 a3 a4 (n + 1) 109 v5 v6 v7 s0 s1 I J = (some (s0 + s1)) := rfl
noncomputable def E_X11_lacks (a0 : Int32) (a1 : Int32) (a2 : Int32) (a3 : Int32) (a4 : Int32) (I : kI) (J : kJ) : Option (Int32) := (kif (a0 = (4 : Int32)) ((G_X11_lacks a0 a1 a2 a3 a4 kfu) 13 0 0 0 0 0 I J) (kif (a1 = 0) ((G_X11_lacks a0 a1 a2 a3 a4 kfu) 13 0 0 0 0 0 I J) (kif (a2 = 0) ((G_X11_lacks a0 a1 a2 a3 a4 kfu) 29 0 0 0 0 0 I J) ((G_X11_lacks a0 a1 a2 a3 a4 kfu) 13 0 0 0 0 0 I J))))
def sp_X11_lacks : kx_Sp := fun av0 S0 r0 S1 => ∃ (a0 : Int32) (a1 : Int32) (a2 : Int32) (a3 : Int32) (a4 : Int32) (I : kI) (J : kJ) (q : Int32) (hG : E_X11_lacks a0 a1 a2 a3 a4 I J = some q), av0 = [kx_i a0, kx_i a1, kx_i a2, kx_i a3, kx_i a4] ∧ S0 = (I, J, none) ∧ r0 = (some (kx_i q)) ∧ S1 = (I, J, none)
theorem cs_X11_lacks (a0 : Int32) (a1 : Int32) (a2 : Int32) (a3 : Int32) (a4 : Int32) (I : kI) (J : kJ) (q : Int32) (hG : E_X11_lacks a0 a1 a2 a3 a4 I J = some q) : sp_X11_lacks [kx_i a0, kx_i a1, kx_i a2, kx_i a3, kx_i a4] (I, J, none) (some (kx_i q)) (I, J, none) := ⟨a0, a1, a2, a3, a4, I, J, q, hG, rfl, rfl, rfl, rfl⟩
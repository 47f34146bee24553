noncomputable def E_X9_passHour (o : Nat) (I : kI) (J : kJ) : Option (kI × kJ) := (kbd (E_X6_keepWatch (o) I J) (fun q1 => (kbd (E_X2_firstPlaceOf (o) (q1.1 6 o 4) q1.1 q1.2) (fun q2 => (kbd (E_X9_meetShips (o) q2 q1.1 q1.2) (fun q3 => (kbd (E_X9_writeLog (o) q2 q3.1 q3.2) (fun q4 => (kif ((F_X6_isUnlit (o) q4.1 q4.2) = 0) (kbd (E_X6_endHour (o) q4.1 q4.2) (fun q5 => (some (q5.1, q5.2)))) (kif (pre_J9_floorMod_7cf53 ((kw q4.1 9 o 3 ((q4.1 9 o 3) + (1 : Int32))) 6 o 4) (24 : Int32) (kw q4.1 9 o 3 ((q4.1 9 o 3) + (1 : Int32))) q4.2) (kbd (E_X6_endHour (o) (kw (kw q4.1 9 o 3 ((q4.1 9 o 3) + (1 : Int32))) 9 o 4 (((kw q4.1 9 o 3 ((q4.1 9 o 3) + (1 : Int32))) 9 o 4) ||| ((1 : Int32) <<< ((F_J9_floorMod_7cf53 ((kw q4.1 9 o 3 ((q4.1 9 o 3) + (1 : Int32))) 6 o 4) (24 : Int32) (kw q4.1 9 o 3 ((q4.1 9 o 3) + (1 : Int32))) q4.2) &&& 31)))) q4.2) (fun q6 => (some (q6.1, q6.2)))) none))))))))))
set_option maxRecDepth 100000 in
set_option maxHeartbeats 4000000 in
theorem cs_X9_passHour (o : Nat) (I : kI) (J : kJ) (q : kI × kJ) (hG : E_X9_passHour o I J = some q) : sp_X9_passHour [kx_r 9 o] (I, J, none) (none) (q.1, q.2, none) := by
  unfold E_X9_passHour at hG
  refine kx_start [] 45 ?_
  obtain ⟨q1, hq, hG⟩ := kbd_some hG
  refine ⟨_, _, cs_X6_keepWatch (o) I J q1 hq, rfl, ?_⟩
  obtain ⟨q2, hq, hG⟩ := kbd_some hG
  refine ⟨_, _, cs_X2_firstPlaceOf (o) (q1.1 6 o 4) q1.1 q1.2 q2 hq, rfl, ?_⟩
  obtain ⟨q3, hq, hG⟩ := kbd_some hG
  refine ⟨_, _, cs_X9_meetShips (o) q2 q1.1 q1.2 q3 hq, rfl, ?_⟩
  obtain ⟨q4, hq, hG⟩ := kbd_some hG
  refine ⟨_, _, cs_X9_writeLog (o) q2 q3.1 q3.2 q4 hq, rfl, ?_⟩
  refine ⟨_, _, cs_X6_isUnlit (o) q4.1 q4.2, rfl, ?_⟩
  refine ⟨fun h1 => ?_, fun h1 => ?_⟩
  · replace h1 : (F_X6_isUnlit (o) q4.1 q4.2) = 0 := h1
    rw [kif_pos h1] at hG
    obtain ⟨q5, hq, hG⟩ := kbd_some hG
    refine ⟨_, _, cs_X6_endHour (o) q4.1 q4.2 q5 hq, rfl, ?_⟩
    replace hG := Option.some.inj hG
    subst hG
    exact ⟨rfl, rfl⟩
  · replace h1 : ¬ (F_X6_isUnlit (o) q4.1 q4.2) = 0 := h1
    rw [kif_neg h1] at hG
    obtain ⟨hq, hG⟩ := kif_some hG
    refine ⟨_, _, cs_J9_floorMod_7cf53 ((kw q4.1 9 o 3 ((q4.1 9 o 3) + (1 : Int32))) 6 o 4) (24 : Int32) (kw q4.1 9 o 3 ((q4.1 9 o 3) + (1 : Int32))) q4.2 hq, rfl, ?_⟩
    obtain ⟨q6, hq, hG⟩ := kbd_some hG
    refine ⟨_, _, cs_X6_endHour (o) (kw (kw q4.1 9 o 3 ((q4.1 9 o 3) + (1 : Int32))) 9 o 4 (((kw q4.1 9 o 3 ((q4.1 9 o 3) + (1 : Int32))) 9 o 4) ||| ((1 : Int32) <<< ((F_J9_floorMod_7cf53 ((kw q4.1 9 o 3 ((q4.1 9 o 3) + (1 : Int32))) 6 o 4) (24 : Int32) (kw q4.1 9 o 3 ((q4.1 9 o 3) + (1 : Int32))) q4.2) &&& 31)))) q4.2 q6 hq, rfl, ?_⟩
    replace hG := Option.some.inj hG
    subst hG
    exact ⟨rfl, rfl⟩
noncomputable def E_X9_passDay (o : Nat) (I : kI) (J : kJ) : Option (kI × kJ) := (kif (pre_X9_draw (o) (3 : Int32) I J) (kif ((F_X9_draw (o) (3 : Int32) I J).1 = 0) (kif ((F_X2_isFull (o) (F_X9_draw (o) (3 : Int32) I J).2.1 (F_X9_draw (o) (3 : Int32) I J).2.2) = 0) (kif (pre_X9_draw (o) (5 : Int32) (F_X9_draw (o) (3 : Int32) I J).2.1 (F_X9_draw (o) (3 : Int32) I J).2.2) (kif (pre_X9_draw (o) (24 : Int32) (F_X9_draw (o) (5 : Int32) (F_X9_draw (o) (3 : Int32) I J).2.1 (F_X9_draw (o) (3 : Int32) I J).2.2).2.1 (F_X9_draw (o) (5 : Int32) (F_X9_draw (o) (3 : Int32) I J).2.1 (F_X9_draw (o) (3 : Int32) I J).2.2).2.2) (kbd (E_X2_expect (o) ((3 : Int32) + (F_X9_draw (o) (5 : Int32) (F_X9_draw (o) (3 : Int32) I J).2.1 (F_X9_draw (o) (3 : Int32) I J).2.2).1) (((F_X9_draw (o) (5 : Int32) (F_X9_draw (o) (3 : Int32) I J).2.1 (F_X9_draw (o) (3 : Int32) I J).2.2).2.1 6 o 4) + (F_X9_draw (o) (24 : Int32) (F_X9_draw (o) (5 : Int32) (F_X9_draw (o) (3 : Int32) I J).2.1 (F_X9_draw (o) (3 : Int32) I J).2.2).2.1 (F_X9_draw (o) (5 : Int32) (F_X9_draw (o) (3 : Int32) I J).2.1 (F_X9_draw (o) (3 : Int32) I J).2.2).2.2).1) (F_X9_draw (o) (24 : Int32) (F_X9_draw (o) (5 : Int32) (F_X9_draw (o) (3 : Int32) I J).2.1 (F_X9_draw (o) (3 : Int32) I J).2.2).2.1 (F_X9_draw (o) (5 : Int32) (F_X9_draw (o) (3 : Int32) I J).2.1 (F_X9_draw (o) (3 : Int32) I J).2.2).2.2).2.1 (F_X9_draw (o) (24 : Int32) (F_X9_draw (o) (5 : Int32) (F_X9_draw (o) (3 : Int32) I J).2.1 (F_X9_draw (o) (3 : Int32) I J).2.2).2.1 (F_X9_draw (o) (5 : Int32) (F_X9_draw (o) (3 : Int32) I J).2.1 (F_X9_draw (o) (3 : Int32) I J).2.2).2.2).2.2) (fun q3 => (kbd (E_X9_passHour (o) q3.2.1 q3.2.2) (fun q4 => (some (q4.1, q4.2)))))) none) none) (kbd (E_X9_passHour (o) (F_X9_draw (o) (3 : Int32) I J).2.1 (F_X9_draw (o) (3 : Int32) I J).2.2) (fun q2 => (some (q2.1, q2.2))))) (kbd (E_X9_passHour (o) (F_X9_draw (o) (3 : Int32) I J).2.1 (F_X9_draw (o) (3 : Int32) I J).2.2) (fun q1 => (some (q1.1, q1.2))))) none)
def sp_X9_passDay : kx_Sp := fun av0 S0 r0 S1 => ∃ (o : Nat) (I : kI) (J : kJ) (q : kI × kJ) (hG : E_X9_passDay o I J = some q), av0 = [kx_r 9 o] ∧ S0 = (I, J, none) ∧ r0 = (none) ∧ S1 = (q.1, q.2, none)
theorem cs_X9_passDay (o : Nat) (I : kI) (J : kJ) (q : kI × kJ) (hG : E_X9_passDay o I J = some q) : sp_X9_passDay [kx_r 9 o] (I, J, none) (none) (q.1, q.2, none) := ⟨o, I, J, q, hG, rfl, rfl, rfl, rfl⟩
noncomputable def G_X9_shipAgainst (o : Nat) (a0 : Int32) : Nat → Nat → Int32 → Int32 → Int32 → kI → kJ → Option (Int32)
  | 0, _, _, _, _, _, _ => none
  | n + 1, pc, v2, v3, v5, I, J => (bif Nat.beq pc 44 then (kif ((I 2 o 5) ≤ v5) (some (-1 : Int32)) (kif (pre_X2_isPlaceOf (o) v3 v5 I J) (kif ((F_X2_isPlaceOf (o) v3 v5 I J) = 0) (some (-1 : Int32)) (kif (pre_X2_shipInPlace (o) v5 I J) (kif (pre_X2_metOf (o) (F_X2_shipInPlace (o) v5 I J) I J) (kif (((F_X2_metOf (o) (F_X2_shipInPlace (o) v5 I J) I J) &&& (1 : Int32)) = (1 : Int32)) (kif (v2 = (1 : Int32)) (kif ((1 : Int32) = (1 : Int32)) ((G_X9_shipAgainst o a0 n) 44 v2 v3 (v5 + (1)) I J) (some (F_X2_shipInPlace (o) v5 I J))) (kif ((1 : Int32) = (0 : Int32)) ((G_X9_shipAgainst o a0 n) 44 v2 v3 (v5 + (1)) I J) (some (F_X2_shipInPlace (o) v5 I J)))) (kif (v2 = (1 : Int32)) (kif ((0 : Int32) = (1 : Int32)) ((G_X9_shipAgainst o a0 n) 44 v2 v3 (v5 + (1)) I J) (some (F_X2_shipInPlace (o) v5 I J))) (kif ((0 : Int32) = (0 : Int32)) ((G_X9_shipAgainst o a0 n) 44 v2 v3 (v5 + (1)) I J) (some (F_X2_shipInPlace (o) v5 I J))))) none) none)) none)) else none)
theorem G_X9_shipAgainst_44 (o : Nat) (a0 : Int32) (n : Nat) (v2 : Int32) (v3 : Int32) (v5 : Int32) (I : kI) (J : kJ) : G_X9_shipAgainst o a0 (n + 1) 44 v2 v3 v5 I J = (kif ((I 2 o 5) ≤ v5) (some (-1 : Int32)) (kif (pre_X2_isPlaceOf (o) v3 v5 I J) (kif ((F_X2_isPlaceOf (o) v3 v5 I J) = 0) (some (-1 : Int32)) (kif (pre_X2_shipInPlace (o) v5 I J) (kif (pre_X2_metOf (o) (F_X2_shipInPlace (o) v5 I J) I J) (kif (((F_X2_metOf (o) (F_X2_shipInPlace (o) v5 I J) I J) &&& (1 : Int32)) = (1 : Int32)) (kif (v2 = (1 : Int32)) (kif ((1 : Int32) = (1 : Int32)) ((G_X9_shipAgainst o a0 n) 44 v2 v3 (v5 + (1)) I J) (some (F_X2_shipInPlace (o) v5 I J))) (kif ((1 : Int32) = (0 : Int32)) ((G_X9_shipAgainst o a0 n) 44 v2 v3 (v5 + (1)) I J) (some (F_X2_shipInPlace (o) v5 I J)))) (kif (v2 = (1 : Int32)) (kif ((0 : Int32) = (1 : Int32)) ((G_X9_shipAgainst o a0 n) 44 v2 v3 (v5 + (1)) I J) (some (F_X2_shipInPlace (o) v5 I J))) (kif ((0 : Int32) = (0 : Int32)) ((G_X9_shipAgainst o a0 n) 44 v2 v3 (v5 + (1)) I J) (some (F_X2_shipInPlace (o) v5 I J))))) none) none)) none)) := rfl
noncomputable def E_X9_shipAgainst (o : Nat) (a0 : Int32) (I : kI) (J : kJ) : Option (Int32) := (kif (pre_X3_sortOf (o) a0 I J) (kif ((F_X3_sortOf (o) a0 I J) = (1 : Int32)) (kif (pre_X3_hourOf (o) a0 I J) (kbd (E_X2_firstPlaceOf (o) (F_X3_hourOf (o) a0 I J) I J) (fun q1 => ((G_X9_shipAgainst o a0 kfu) 44 (F_X3_sortOf (o) a0 I J) (F_X3_hourOf (o) a0 I J) q1 I J))) none) (kif ((F_X3_sortOf (o) a0 I J) = (2 : Int32)) (kif (pre_X3_hourOf (o) a0 I J) (kbd (E_X2_firstPlaceOf (o) (F_X3_hourOf (o) a0 I J) I J) (fun q2 => ((G_X9_shipAgainst o a0 kfu) 44 (F_X3_sortOf (o) a0 I J) (F_X3_hourOf (o) a0 I J) q2 I J))) none) (some (-1 : Int32)))) none)
set_option maxRecDepth 100000 in
set_option maxHeartbeats 4000000 in
theorem cl_X9_shipAgainst (o : Nat) (a0 : Int32) (I0 : kI) (J0 : kJ) : ∀ n : Nat, (∀ (v2 : Int32) (v3 : Int32) (v5 : Int32) (x1 x4 x6 x7 : Option kx_V) (I : kI) (J : kJ) (q : Int32), I = I0 → J = J0 → G_X9_shipAgainst o a0 n 44 v2 v3 v5 I J = some q → kx_Run tb_X9_shipAgainst (kx_NC, fun r' S'' => r' = some (kx_i q) ∧ S'' = (I0, J0, none)) 44 [some (kx_r 9 (o)), x1, some (kx_i v2), some (kx_i v3), x4, some (kx_i v5), x6, x7] [] (I, J, none)) := by
  intro n
  induction n with
  | zero => (intros; rename_i h; have h2 : (none : Option _) = some _ := h; cases h2)
  | succ n ih =>
    intro v2 v3 v5 x1 x4 x6 x7  I J q hI0 hJ0 hG
    subst hI0 hJ0
    rw [G_X9_shipAgainst_44] at hG
    refine kx_start [44] 70 ?_
    refine ⟨fun h1 => ?_, fun h1 => ?_⟩
    · replace h1 : (I 2 o 5) ≤ v5 := h1
      rw [kif_pos h1] at hG
      replace hG := Option.some.inj hG
      subst hG
      exact ⟨rfl, rfl⟩
    · replace h1 : ¬ (I 2 o 5) ≤ v5 := h1
      rw [kif_neg h1] at hG
      obtain ⟨hq, hG⟩ := kif_some hG
      refine ⟨_, _, cs_X2_isPlaceOf (o) v3 v5 I J hq, rfl, ?_⟩
      refine ⟨fun h2 => ?_, fun h2 => ?_⟩
      · replace h2 : (F_X2_isPlaceOf (o) v3 v5 I J) = 0 := h2
        rw [kif_pos h2] at hG
        replace hG := Option.some.inj hG
        subst hG
        exact ⟨rfl, rfl⟩
      · replace h2 : ¬ (F_X2_isPlaceOf (o) v3 v5 I J) = 0 := h2
        rw [kif_neg h2] at hG
        obtain ⟨hq, hG⟩ := kif_some hG
        refine ⟨_, _, cs_X2_shipInPlace (o) v5 I J hq, rfl, ?_⟩
        obtain ⟨hq, hG⟩ := kif_some hG
        refine ⟨_, _, cs_X2_metOf (o) (F_X2_shipInPlace (o) v5 I J) I J hq, rfl, ?_⟩
        refine ⟨fun h3 => ?_, fun h3 => ?_⟩
        · replace h3 : ¬ ((F_X2_metOf (o) (F_X2_shipInPlace (o) v5 I J) I J) &&& (1 : Int32)) = (1 : Int32) := h3
          rw [kif_neg h3] at hG
          refine ⟨fun h4 => ?_, fun h4 => ?_⟩
          · replace h4 : ¬ v2 = (1 : Int32) := h4
            rw [kif_neg h4] at hG
            refine ⟨fun h5 => ?_, fun h5 => ?_⟩
            · replace h5 : (0 : Int32) = (0 : Int32) := h5
              rw [kif_pos h5] at hG
              exact (ih) _ _ _ _ _ _ _ _ _ q rfl rfl hG
            · replace h5 : ¬ (0 : Int32) = (0 : Int32) := h5
              rw [kif_neg h5] at hG
              replace hG := Option.some.inj hG
              subst hG
              exact ⟨rfl, rfl⟩
          · replace h4 : v2 = (1 : Int32) := h4
            rw [kif_pos h4] at hG
            refine ⟨fun h6 => ?_, fun h6 => ?_⟩
            · replace h6 : (0 : Int32) = (1 : Int32) := h6
              rw [kif_pos h6] at hG
              exact (ih) _ _ _ _ _ _ _ _ _ q rfl rfl hG
            · replace h6 : ¬ (0 : Int32) = (1 : Int32) := h6
              rw [kif_neg h6] at hG
              replace hG := Option.some.inj hG
              subst hG
              exact ⟨rfl, rfl⟩
        · replace h3 : ((F_X2_metOf (o) (F_X2_shipInPlace (o) v5 I J) I J) &&& (1 : Int32)) = (1 : Int32) := h3
          rw [kif_pos h3] at hG
          refine ⟨fun h7 => ?_, fun h7 => ?_⟩
          · replace h7 : ¬ v2 = (1 : Int32) := h7
            rw [kif_neg h7] at hG
            refine ⟨fun h8 => ?_, fun h8 => ?_⟩
            · replace h8 : (1 : Int32) = (0 : Int32) := h8
              rw [kif_pos h8] at hG
              exact (ih) _ _ _ _ _ _ _ _ _ q rfl rfl hG
            · replace h8 : ¬ (1 : Int32) = (0 : Int32) := h8
              rw [kif_neg h8] at hG
              replace hG := Option.some.inj hG
              subst hG
              exact ⟨rfl, rfl⟩
          · replace h7 : v2 = (1 : Int32) := h7
            rw [kif_pos h7] at hG
            refine ⟨fun h9 => ?_, fun h9 => ?_⟩
            · replace h9 : (1 : Int32) = (1 : Int32) := h9
              rw [kif_pos h9] at hG
              exact (ih) _ _ _ _ _ _ _ _ _ q rfl rfl hG
            · replace h9 : ¬ (1 : Int32) = (1 : Int32) := h9
              rw [kif_neg h9] at hG
              replace hG := Option.some.inj hG
              subst hG
              exact ⟨rfl, rfl⟩
set_option maxRecDepth 100000 in
set_option maxHeartbeats 4000000 in
theorem cs_X9_shipAgainst (o : Nat) (a0 : Int32) (I : kI) (J : kJ) (q : Int32) (hG : E_X9_shipAgainst o a0 I J = some q) : sp_X9_shipAgainst [kx_r 9 o, kx_i a0] (I, J, none) (some (kx_i q)) (I, J, none) := by
  unfold E_X9_shipAgainst at hG
  refine kx_start [44] 70 ?_
  obtain ⟨hq, hG⟩ := kif_some hG
  refine ⟨_, _, cs_X3_sortOf (o) a0 I J hq, rfl, ?_⟩
  refine ⟨fun h1 => ?_, fun h1 => ?_⟩
  · replace h1 : (F_X3_sortOf (o) a0 I J) = (1 : Int32) := h1
    rw [kif_pos h1] at hG
    obtain ⟨hq, hG⟩ := kif_some hG
    refine ⟨_, _, cs_X3_hourOf (o) a0 I J hq, rfl, ?_⟩
    obtain ⟨q1, hq, hG⟩ := kbd_some hG
    refine ⟨_, _, cs_X2_firstPlaceOf (o) (F_X3_hourOf (o) a0 I J) I J q1 hq, rfl, ?_⟩
    exact ((cl_X9_shipAgainst o a0 I J kfu)) _ _ _ _ _ _ _ _ _ q rfl rfl hG
  · replace h1 : ¬ (F_X3_sortOf (o) a0 I J) = (1 : Int32) := h1
    rw [kif_neg h1] at hG
    refine ⟨fun h2 => ?_, fun h2 => ?_⟩
    · replace h2 : (F_X3_sortOf (o) a0 I J) = (2 : Int32) := h2
      rw [kif_pos h2] at hG
      obtain ⟨hq, hG⟩ := kif_some hG
      refine ⟨_, _, cs_X3_hourOf (o) a0 I J hq, rfl, ?_⟩
      obtain ⟨q2, hq, hG⟩ := kbd_some hG
      refine ⟨_, _, cs_X2_firstPlaceOf (o) (F_X3_hourOf (o) a0 I J) I J q2 hq, rfl, ?_⟩
      exact ((cl_X9_shipAgainst o a0 I J kfu)) _ _ _ _ _ _ _ _ _ q rfl rfl hG
    · replace h2 : ¬ (F_X3_sortOf (o) a0 I J) = (2 : Int32) := h2
      rw [kif_neg h2] at hG
      replace hG := Option.some.inj hG
      subst hG
      exact ⟨rfl, rfl⟩
noncomputable def G_X9_entryOfDifference (o : Nat) (a0 : Int32) : Nat → Nat → Int32 → Int32 → kI → kJ → Option (Int32)
  | 0, _, _, _, _, _ => none
  | n + 1, pc, v2, v3, I, J => (bif Nat.beq pc 4 then (kif ((I 3 o 4) ≤ v3) (some (-1 : Int32)) (kbd (E_X9_shipAgainst (o) v3 I J) (fun q1 => (kif (q1 = (-1 : Int32)) ((G_X9_entryOfDifference o a0 n) 4 v2 (v3 + (1)) I J) (kif (v2 = a0) (some v3) ((G_X9_entryOfDifference o a0 n) 4 (v2 + (1)) (v3 + (1)) I J)))))) else none)
theorem G_X9_entryOfDifference_4 (o : Nat) (a0 : Int32) (n : Nat) (v2 : Int32) (v3 : Int32) (I : kI) (J : kJ) : G_X9_entryOfDifference o a0 (n + 1) 4 v2 v3 I J = (kif ((I 3 o 4) ≤ v3) (some (-1 : Int32)) (kbd (E_X9_shipAgainst (o) v3 I J) (fun q1 => (kif (q1 = (-1 : Int32)) ((G_X9_entryOfDifference o a0 n) 4 v2 (v3 + (1)) I J) (kif (v2 = a0) (some v3) ((G_X9_entryOfDifference o a0 n) 4 (v2 + (1)) (v3 + (1)) I J)))))) := rfl
noncomputable def E_X9_entryOfDifference (o : Nat) (a0 : Int32) (I : kI) (J : kJ) : Option (Int32) := ((G_X9_entryOfDifference o a0 kfu) 4 (0 : Int32) (0 : Int32) I J)
set_option maxRecDepth 100000 in
set_option maxHeartbeats 4000000 in
theorem cl_X9_entryOfDifference (o : Nat) (a0 : Int32) (I0 : kI) (J0 : kJ) : ∀ n : Nat, (∀ (v2 : Int32) (v3 : Int32) (I : kI) (J : kJ) (q : Int32), I = I0 → J = J0 → G_X9_entryOfDifference o a0 n 4 v2 v3 I J = some q → kx_Run tb_X9_entryOfDifference (kx_NC, fun r' S'' => r' = some (kx_i q) ∧ S'' = (I0, J0, none)) 4 [some (kx_r 9 (o)), some (kx_i a0), some (kx_i v2), some (kx_i v3)] [] (I, J, none)) := by
  intro n
  induction n with
  | zero => (intros; rename_i h; have h2 : (none : Option _) = some _ := h; cases h2)
  | succ n ih =>
    intro v2 v3  I J q hI0 hJ0 hG
    subst hI0 hJ0
    rw [G_X9_entryOfDifference_4] at hG
    refine kx_start [4] 27 ?_
    refine ⟨fun h1 => ?_, fun h1 => ?_⟩
    · replace h1 : (I 3 o 4) ≤ v3 := h1
      rw [kif_pos h1] at hG
      replace hG := Option.some.inj hG
      subst hG
      exact ⟨rfl, rfl⟩
    · replace h1 : ¬ (I 3 o 4) ≤ v3 := h1
      rw [kif_neg h1] at hG
      obtain ⟨q1, hq, hG⟩ := kbd_some hG
      refine ⟨_, _, cs_X9_shipAgainst (o) v3 I J q1 hq, rfl, ?_⟩
      refine ⟨fun h2 => ?_, fun h2 => ?_⟩
      · replace h2 : q1 = (-1 : Int32) := h2
        rw [kif_pos h2] at hG
        exact (ih) _ _ _ _ q rfl rfl hG
      · replace h2 : ¬ q1 = (-1 : Int32) := h2
        rw [kif_neg h2] at hG
        refine ⟨fun h3 => ?_, fun h3 => ?_⟩
        · replace h3 : ¬ v2 = a0 := h3
          rw [kif_neg h3] at hG
          exact (ih) _ _ _ _ q rfl rfl hG
        · replace h3 : v2 = a0 := h3
          rw [kif_pos h3] at hG
          replace hG := Option.some.inj hG
          subst hG
          exact ⟨rfl, rfl⟩
set_option maxRecDepth 100000 in
set_option maxHeartbeats 4000000 in
theorem cs_X9_entryOfDifference (o : Nat) (a0 : Int32) (I : kI) (J : kJ) (q : Int32) (hG : E_X9_entryOfDifference o a0 I J = some q) : sp_X9_entryOfDifference [kx_r 9 o, kx_i a0] (I, J, none) (some (kx_i q)) (I, J, none) := by
  unfold E_X9_entryOfDifference at hG
  refine kx_start [4] 27 ?_
  exact ((cl_X9_entryOfDifference o a0 I J kfu)) _ _ _ _ q rfl rfl hG
noncomputable def G_X9_countDifferences (o : Nat) (a0 : Int32) : Nat → Nat → Int32 → Int32 → kI → kJ → Option (Int32)
  | 0, _, _, _, _, _ => none
  | n + 1, pc, v2, v3, I, J => (bif Nat.beq pc 4 then (kif ((I 3 o 4) ≤ v3) (some v2) (kif (a0 = (-1 : Int32)) (kif ((1 : Int32) = 0) ((G_X9_countDifferences o a0 n) 4 v2 (v3 + (1)) I J) (kbd (E_X9_shipAgainst (o) v3 I J) (fun q1 => (kif (q1 = (-1 : Int32)) ((G_X9_countDifferences o a0 n) 4 v2 (v3 + (1)) I J) ((G_X9_countDifferences o a0 n) 4 (v2 + (1)) (v3 + (1)) I J))))) (kif (pre_X3_writerOf (o) v3 I J) (kif ((F_X3_writerOf (o) v3 I J) = a0) (kif ((1 : Int32) = 0) ((G_X9_countDifferences o a0 n) 4 v2 (v3 + (1)) I J) (kbd (E_X9_shipAgainst (o) v3 I J) (fun q3 => (kif (q3 = (-1 : Int32)) ((G_X9_countDifferences o a0 n) 4 v2 (v3 + (1)) I J) ((G_X9_countDifferences o a0 n) 4 (v2 + (1)) (v3 + (1)) I J))))) (kif ((0 : Int32) = 0) ((G_X9_countDifferences o a0 n) 4 v2 (v3 + (1)) I J) (kbd (E_X9_shipAgainst (o) v3 I J) (fun q2 => (kif (q2 = (-1 : Int32)) ((G_X9_countDifferences o a0 n) 4 v2 (v3 + (1)) I J) ((G_X9_countDifferences o a0 n) 4 (v2 + (1)) (v3 + (1)) I J)))))) none))) else none)
theorem G_X9_countDifferences_4 (o : Nat) (a0 : Int32) (n : Nat) (v2 : Int32) (v3 : Int32) (I : kI) (J : kJ) : G_X9_countDifferences o a0 (n + 1) 4 v2 v3 I J = (kif ((I 3 o 4) ≤ v3) (some v2) (kif (a0 = (-1 : Int32)) (kif ((1 : Int32) = 0) ((G_X9_countDifferences o a0 n) 4 v2 (v3 + (1)) I J) (kbd (E_X9_shipAgainst (o) v3 I J) (fun q1 => (kif (q1 = (-1 : Int32)) ((G_X9_countDifferences o a0 n) 4 v2 (v3 + (1)) I J) ((G_X9_countDifferences o a0 n) 4 (v2 + (1)) (v3 + (1)) I J))))) (kif (pre_X3_writerOf (o) v3 I J) (kif ((F_X3_writerOf (o) v3 I J) = a0) (kif ((1 : Int32) = 0) ((G_X9_countDifferences o a0 n) 4 v2 (v3 + (1)) I J) (kbd (E_X9_shipAgainst (o) v3 I J) (fun q3 => (kif (q3 = (-1 : Int32)) ((G_X9_countDifferences o a0 n) 4 v2 (v3 + (1)) I J) ((G_X9_countDifferences o a0 n) 4 (v2 + (1)) (v3 + (1)) I J))))) (kif ((0 : Int32) = 0) ((G_X9_countDifferences o a0 n) 4 v2 (v3 + (1)) I J) (kbd (E_X9_shipAgainst (o) v3 I J) (fun q2 => (kif (q2 = (-1 : Int32)) ((G_X9_countDifferences o a0 n) 4 v2 (v3 + (1)) I J) ((G_X9_countDifferences o a0 n) 4 (v2 + (1)) (v3 + (1)) I J)))))) none))) := rfl
noncomputable def E_X9_countDifferences (o : Nat) (a0 : Int32) (I : kI) (J : kJ) : Option (Int32) := ((G_X9_countDifferences o a0 kfu) 4 (0 : Int32) (0 : Int32) I J)
set_option maxRecDepth 100000 in
set_option maxHeartbeats 4000000 in
theorem cl_X9_countDifferences (o : Nat) (a0 : Int32) (I0 : kI) (J0 : kJ) : ∀ n : Nat, (∀ (v2 : Int32) (v3 : Int32) (x4 : Option kx_V) (I : kI) (J : kJ) (q : Int32), I = I0 → J = J0 → G_X9_countDifferences o a0 n 4 v2 v3 I J = some q → kx_Run tb_X9_countDifferences (kx_NC, fun r' S'' => r' = some (kx_i q) ∧ S'' = (I0, J0, none)) 4 [some (kx_r 9 (o)), some (kx_i a0), some (kx_i v2), some (kx_i v3), x4] [] (I, J, none)) := by
  intro n
  induction n with
  | zero => (intros; rename_i h; have h2 : (none : Option _) = some _ := h; cases h2)
  | succ n ih =>
    intro v2 v3 x4  I J q hI0 hJ0 hG
    subst hI0 hJ0
    rw [G_X9_countDifferences_4] at hG
    refine kx_start [4] 37 ?_
    refine ⟨fun h1 => ?_, fun h1 => ?_⟩
    · replace h1 : (I 3 o 4) ≤ v3 := h1
      rw [kif_pos h1] at hG
      replace hG := Option.some.inj hG
      subst hG
      exact ⟨rfl, rfl⟩
    · replace h1 : ¬ (I 3 o 4) ≤ v3 := h1
      rw [kif_neg h1] at hG
      refine ⟨fun h2 => ?_, fun h2 => ?_⟩
      · replace h2 : a0 = (-1 : Int32) := h2
        rw [kif_pos h2] at hG
        refine ⟨fun h3 => ?_, fun h3 => ?_⟩
        · replace h3 : (1 : Int32) = 0 := h3
          rw [kif_pos h3] at hG
          exact (ih) _ _ _ _ _ q rfl rfl hG
        · replace h3 : ¬ (1 : Int32) = 0 := h3
          rw [kif_neg h3] at hG
          obtain ⟨q1, hq, hG⟩ := kbd_some hG
          refine ⟨_, _, cs_X9_shipAgainst (o) v3 I J q1 hq, rfl, ?_⟩
          refine ⟨fun h4 => ?_, fun h4 => ?_⟩
          · replace h4 : q1 = (-1 : Int32) := h4
            rw [kif_pos h4] at hG
            exact (ih) _ _ _ _ _ q rfl rfl hG
          · replace h4 : ¬ q1 = (-1 : Int32) := h4
            rw [kif_neg h4] at hG
            exact (ih) _ _ _ _ _ q rfl rfl hG
      · replace h2 : ¬ a0 = (-1 : Int32) := h2
        rw [kif_neg h2] at hG
        obtain ⟨hq, hG⟩ := kif_some hG
        refine ⟨_, _, cs_X3_writerOf (o) v3 I J hq, rfl, ?_⟩
        refine ⟨fun h5 => ?_, fun h5 => ?_⟩
        · replace h5 : ¬ (F_X3_writerOf (o) v3 I J) = a0 := h5
          rw [kif_neg h5] at hG
          refine ⟨fun h6 => ?_, fun h6 => ?_⟩
          · replace h6 : (0 : Int32) = 0 := h6
            rw [kif_pos h6] at hG
            exact (ih) _ _ _ _ _ q rfl rfl hG
          · replace h6 : ¬ (0 : Int32) = 0 := h6
            rw [kif_neg h6] at hG
            obtain ⟨q2, hq, hG⟩ := kbd_some hG
            refine ⟨_, _, cs_X9_shipAgainst (o) v3 I J q2 hq, rfl, ?_⟩
            refine ⟨fun h7 => ?_, fun h7 => ?_⟩
            · replace h7 : q2 = (-1 : Int32) := h7
              rw [kif_pos h7] at hG
              exact (ih) _ _ _ _ _ q rfl rfl hG
            · replace h7 : ¬ q2 = (-1 : Int32) := h7
              rw [kif_neg h7] at hG
              exact (ih) _ _ _ _ _ q rfl rfl hG
        · replace h5 : (F_X3_writerOf (o) v3 I J) = a0 := h5
          rw [kif_pos h5] at hG
          refine ⟨fun h8 => ?_, fun h8 => ?_⟩
          · replace h8 : (1 : Int32) = 0 := h8
            rw [kif_pos h8] at hG
            exact (ih) _ _ _ _ _ q rfl rfl hG
          · replace h8 : ¬ (1 : Int32) = 0 := h8
            rw [kif_neg h8] at hG
            obtain ⟨q3, hq, hG⟩ := kbd_some hG
            refine ⟨_, _, cs_X9_shipAgainst (o) v3 I J q3 hq, rfl, ?_⟩
            refine ⟨fun h9 => ?_, fun h9 => ?_⟩
            · replace h9 : q3 = (-1 : Int32) := h9
              rw [kif_pos h9] at hG
              exact (ih) _ _ _ _ _ q rfl rfl hG
            · replace h9 : ¬ q3 = (-1 : Int32) := h9
              rw [kif_neg h9] at hG
              exact (ih) _ _ _ _ _ q rfl rfl hG
set_option maxRecDepth 100000 in
set_option maxHeartbeats 4000000 in
theorem cs_X9_countDifferences (o : Nat) (a0 : Int32) (I : kI) (J : kJ) (q : Int32) (hG : E_X9_countDifferences o a0 I J = some q) : sp_X9_countDifferences [kx_r 9 o, kx_i a0] (I, J, none) (some (kx_i q)) (I, J, none) := by
  unfold E_X9_countDifferences at hG
  refine kx_start [4] 37 ?_
  exact ((cl_X9_countDifferences o a0 I J kfu)) _ _ _ _ _ q rfl rfl hG
noncomputable def G_X9_become (o : Nat) (o0 : Nat) : Nat → Nat → kI → kJ → Option (kI × kJ)
  | 0, _, _, _ => none
  | n + 1, pc, I, J => (bif Nat.beq pc 49 then (some ((kw I 9 o 5 (I 9 o0 5)), J)) else none)
theorem G_X9_become_49 (o : Nat) (o0 : Nat) (n : Nat)  (I : kI) (J : kJ) : G_X9_become o o0 (n + 1) 49  I J = (some ((kw I 9 o 5 (I 9 o0 5)), J)) := rfl
noncomputable def E_X9_become (o : Nat) (o0 : Nat) (I : kI) (J : kJ) : Option (kI × kJ) := (kbd (E_X6_become (o) (o0) I J) (fun q1 => (kif (pre_X2_become (o) (o0) q1.1 q1.2) (kif (pre_X3_become (o) (o0) (F_X2_become (o) (o0) q1.1 q1.2).1 (F_X2_become (o) (o0) q1.1 q1.2).2) ((G_X9_become o o0 kfu) 49  (kw (kw (F_X3_become (o) (o0) (F_X2_become (o) (o0) q1.1 q1.2).1 (F_X2_become (o) (o0) q1.1 q1.2).2).1 9 o 3 ((F_X3_become (o) (o0) (F_X2_become (o) (o0) q1.1 q1.2).1 (F_X2_become (o) (o0) q1.1 q1.2).2).1 9 o0 3)) 9 o 4 ((kw (F_X3_become (o) (o0) (F_X2_become (o) (o0) q1.1 q1.2).1 (F_X2_become (o) (o0) q1.1 q1.2).2).1 9 o 3 ((F_X3_become (o) (o0) (F_X2_become (o) (o0) q1.1 q1.2).1 (F_X2_become (o) (o0) q1.1 q1.2).2).1 9 o0 3)) 9 o0 4)) (F_X3_become (o) (o0) (F_X2_become (o) (o0) q1.1 q1.2).1 (F_X2_become (o) (o0) q1.1 q1.2).2).2) none) none)))
def sp_X9_become : kx_Sp := fun av0 S0 r0 S1 => ∃ (o : Nat) (o0 : Nat) (I : kI) (J : kJ) (q : kI × kJ) (hG : E_X9_become o o0 I J = some q), av0 = [kx_r 9 o, kx_r 9 o0] ∧ S0 = (I, J, none) ∧ r0 = (none) ∧ S1 = (q.1, q.2, none)
theorem cs_X9_become (o : Nat) (o0 : Nat) (I : kI) (J : kJ) (q : kI × kJ) (hG : E_X9_become o o0 I J = some q) : sp_X9_become [kx_r 9 o, kx_r 9 o0] (I, J, none) (none) (q.1, q.2, none) := ⟨o, o0, I, J, q, hG, rfl, rfl, rfl, rfl⟩
noncomputable def E_X10_row (a0 : Int32) (a1 : Int32) (a2 : Int32) (I : kI) (J : kJ) : Option (Int32 × kI × kJ) := (kif ((F_X10_isWithin a0 0 7 I J) = 0) (kif (pre_X10_refuse (-102 : Int32) I J) (some ((F_X10_refuse (-102 : Int32) I J).1, (F_X10_refuse (-102 : Int32) I J).2.1, (F_X10_refuse (-102 : Int32) I J).2.2)) none) (kif ((F_X10_isWithin a1 (0 : Int32) (4 : Int32) I J) = 0) (kif (pre_X10_refuse (-102 : Int32) I J) (some ((F_X10_refuse (-102 : Int32) I J).1, (F_X10_refuse (-102 : Int32) I J).2.1, (F_X10_refuse (-102 : Int32) I J).2.2)) none) (kif ((F_X10_isWithin a2 (0 : Int32) (40 : Int32) I J) = 0) (kif (pre_X10_refuse (-102 : Int32) I J) (some ((F_X10_refuse (-102 : Int32) I J).1, (F_X10_refuse (-102 : Int32) I J).2.1, (F_X10_refuse (-102 : Int32) I J).2.2)) none) (kbd (E_X4_takeRow ((a0).toNatClampNeg) a1 a2 I J) (fun q1 => (some ((1 : Int32), q1.1, q1.2)))))))
def sp_X10_row : kx_Sp := fun av0 S0 r0 S1 => ∃ (a0 : Int32) (a1 : Int32) (a2 : Int32) (I : kI) (J : kJ) (q : Int32 × kI × kJ) (hG : E_X10_row a0 a1 a2 I J = some q), av0 = [kx_r 10 0, kx_i a0, kx_i a1, kx_i a2] ∧ S0 = (I, J, none) ∧ r0 = (some (kx_i q.1)) ∧ S1 = (q.2.1, q.2.2, none)
theorem cs_X10_row (a0 : Int32) (a1 : Int32) (a2 : Int32) (I : kI) (J : kJ) (q : Int32 × kI × kJ) (hG : E_X10_row a0 a1 a2 I J = some q) : sp_X10_row [kx_r 10 0, kx_i a0, kx_i a1, kx_i a2] (I, J, none) (some (kx_i q.1)) (q.2.1, q.2.2, none) := ⟨a0, a1, a2, I, J, q, hG, rfl, rfl, rfl, rfl⟩
noncomputable def E_X10_againstRowIn (a0 : Int32) (I : kI) (J : kJ) : Option (Int32) := (kif ((F_X10_isWithin a0 0 7 I J) = 0) (some (-102 : Int32)) (kif ((F_X4_isShip ((a0).toNatClampNeg) I J) = 0) (kif ((F_X4_isEmpty ((a0).toNatClampNeg) I J) = 0) (some (0 : Int32)) (some (-104 : Int32))) (some (-103 : Int32))))
def sp_X10_againstRowIn : kx_Sp := fun av0 S0 r0 S1 => ∃ (a0 : Int32) (I : kI) (J : kJ) (q : Int32) (hG : E_X10_againstRowIn a0 I J = some q), av0 = [kx_r 10 0, kx_i a0] ∧ S0 = (I, J, none) ∧ r0 = (some (kx_i q)) ∧ S1 = (I, J, none)
theorem cs_X10_againstRowIn (a0 : Int32) (I : kI) (J : kJ) (q : Int32) (hG : E_X10_againstRowIn a0 I J = some q) : sp_X10_againstRowIn [kx_r 10 0, kx_i a0] (I, J, none) (some (kx_i q)) (I, J, none) := ⟨a0, I, J, q, hG, rfl, rfl, rfl, rfl⟩
noncomputable def E_X10_set (a0 : Int32) (a1 : Int32) (a2 : Int64) (I : kI) (J : kJ) : Option (Int32 × kI × kJ) := (kbd (E_X10_againstRowIn a0 I J) (fun q1 => (kif (q1 = 0) (kif ((F_X10_isWithin a0 0 7 I J) = 0) (kif (pre_X10_refuse (-102 : Int32) I J) (some ((F_X10_refuse (-102 : Int32) I J).1, (F_X10_refuse (-102 : Int32) I J).2.1, (F_X10_refuse (-102 : Int32) I J).2.2)) none) (kif (pre_X4_hasElement ((a0).toNatClampNeg) a1 I J) (kif ((F_X4_hasElement ((a0).toNatClampNeg) a1 I J) = 0) (kif (pre_X10_refuse (-102 : Int32) I J) (some ((F_X10_refuse (-102 : Int32) I J).1, (F_X10_refuse (-102 : Int32) I J).2.1, (F_X10_refuse (-102 : Int32) I J).2.2)) none) (kif (pre_X4_put ((a0).toNatClampNeg) a1 a2 I J) (some ((1 : Int32), (F_X4_put ((a0).toNatClampNeg) a1 a2 I J).1, (F_X4_put ((a0).toNatClampNeg) a1 a2 I J).2)) none)) none)) (kif (pre_X10_refuse q1 I J) (some ((F_X10_refuse q1 I J).1, (F_X10_refuse q1 I J).2.1, (F_X10_refuse q1 I J).2.2)) none))))
def sp_X10_set : kx_Sp := fun av0 S0 r0 S1 => ∃ (a0 : Int32) (a1 : Int32) (a2 : Int64) (I : kI) (J : kJ) (q : Int32 × kI × kJ) (hG : E_X10_set a0 a1 a2 I J = some q), av0 = [kx_r 10 0, kx_i a0, kx_i a1, kx_l a2] ∧ S0 = (I, J, none) ∧ r0 = (some (kx_i q.1)) ∧ S1 = (q.2.1, q.2.2, none)
theorem cs_X10_set (a0 : Int32) (a1 : Int32) (a2 : Int64) (I : kI) (J : kJ) (q : Int32 × kI × kJ) (hG : E_X10_set a0 a1 a2 I J = some q) : sp_X10_set [kx_r 10 0, kx_i a0, kx_i a1, kx_l a2] (I, J, none) (some (kx_i q.1)) (q.2.1, q.2.2, none) := ⟨a0, a1, a2, I, J, q, hG, rfl, rfl, rfl, rfl⟩
noncomputable def G_X10_copy (a0 : Int32) (a1 : Int32) (a2 : Int32) (a3 : Int32) (a4 : Int32) : Nat → Nat → Nat → Nat → Int32 → Int32 → kI → kJ → Option (Int32 × kI × kJ)
  | 0, _, _, _, _, _, _, _ => none
  | n + 1, pc, n6, n7, v8, s0, I, J => (bif Nat.beq pc 24 then (kif (pre_X10_refuse (-102 : Int32) I J) (some ((F_X10_refuse (-102 : Int32) I J).1, (F_X10_refuse (-102 : Int32) I J).2.1, (F_X10_refuse (-102 : Int32) I J).2.2)) none) else (bif Nat.beq pc 51 then ((G_X10_copy a0 a1 a2 a3 a4 n) 52 n6 n7 0 (0 : Int32) I J) else (bif Nat.beq pc 52 then (kif ((F_X4_isShip (n6) I J) = 0) (kif ((F_X4_isShip (n7) I J) = 0) (kif (s0 = 0) ((G_X10_copy a0 a1 a2 a3 a4 n) 92 n6 n7 s0 0 I J) (kif ((F_X4_isOfSameSort (n6) (n7) I J) = 0) ((G_X10_copy a0 a1 a2 a3 a4 n) 85 0 0 0 0 I J) ((G_X10_copy a0 a1 a2 a3 a4 n) 92 n6 n7 s0 0 I J))) ((G_X10_copy a0 a1 a2 a3 a4 n) 85 0 0 0 0 I J)) ((G_X10_copy a0 a1 a2 a3 a4 n) 85 0 0 0 0 I J)) else (bif Nat.beq pc 85 then (kif (pre_X10_refuse (-103 : Int32) I J) (some ((F_X10_refuse (-103 : Int32) I J).1, (F_X10_refuse (-103 : Int32) I J).2.1, (F_X10_refuse (-103 : Int32) I J).2.2)) none) else (bif Nat.beq pc 92 then (kif (v8 = 0) (kif (pre_X10_refuse (-104 : Int32) I J) (some ((F_X10_refuse (-104 : Int32) I J).1, (F_X10_refuse (-104 : Int32) I J).2.1, (F_X10_refuse (-104 : Int32) I J).2.2)) none) (kif ((F_X4_hasElements (n6) a2 a4 I J) = 0) ((G_X10_copy a0 a1 a2 a3 a4 n) 127 0 0 0 0 I J) (kif ((F_X4_hasElements (n7) a3 a4 I J) = 0) ((G_X10_copy a0 a1 a2 a3 a4 n) 127 0 0 0 0 I J) (kif (pre_X4_takeElements (n7) a3 (n6) a2 a4 I J) (some (a4, (F_X4_takeElements (n7) a3 (n6) a2 a4 I J).1, (F_X4_takeElements (n7) a3 (n6) a2 a4 I J).2)) none)))) else (bif Nat.beq pc 127 then (kif (pre_X10_refuse (-102 : Int32) I J) (some ((F_X10_refuse (-102 : Int32) I J).1, (F_X10_refuse (-102 : Int32) I J).2.1, (F_X10_refuse (-102 : Int32) I J).2.2)) none) else none))))))
theorem G_X10_copy_24 (a0 : Int32) (a1 : Int32) (a2 : Int32) (a3 : Int32) (a4 : Int32) (n : Nat) (n6 : Nat) (n7 : Nat) (v8 : Int32) (s0 : Int32) (I : kI) (J : kJ) : G_X10_copy a0 a1 a2 a3 a4 (n + 1) 24 n6 n7 v8 s0 I J = (kif (pre_X10_refuse (-102 : Int32) I J) (some ((F_X10_refuse (-102 : Int32) I J).1, (F_X10_refuse (-102 : Int32) I J).2.1, (F_X10_refuse (-102 : Int32) I J).2.2)) none) := rfl
theorem G_X10_copy_51 (a0 : Int32) (a1 : Int32) (a2 : Int32) (a3 : Int32) (a4 : Int32) (n : Nat) (n6 : Nat) (n7 : Nat) (v8 : Int32) (s0 : Int32) (I : kI) (J : kJ) : G_X10_copy a0 a1 a2 a3 a4 (n + 1) 51 n6 n7 v8 s0 I J = ((G_X10_copy a0 a1 a2 a3 a4 n) 52 n6 n7 0 (0 : Int32) I J) := rfl
theorem G_X10_copy_52 (a0 : Int32) (a1 : Int32) (a2 : Int32) (a3 : Int32) (a4 : Int32) (n : Nat) (n6 : Nat) (n7 : Nat) (v8 : Int32) (s0 : Int32) (I : kI) (J : kJ) : G_X10_copy a0 a1 a2 a3 a4 (n + 1) 52 n6 n7 v8 s0 I J = (kif ((F_X4_isShip (n6) I J) = 0) (kif ((F_X4_isShip (n7) I J) = 0) (kif (s0 = 0) ((G_X10_copy a0 a1 a2 a3 a4 n) 92 n6 n7 s0 0 I J) (kif ((F_X4_isOfSameSort (n6) (n7) I J) = 0) ((G_X10_copy a0 a1 a2 a3 a4 n) 85 0 0 0 0 I J) ((G_X10_copy a0 a1 a2 a3 a4 n) 92 n6 n7 s0 0 I J))) ((G_X10_copy a0 a1 a2 a3 a4 n) 85 0 0 0 0 I J)) ((G_X10_copy a0 a1 a2 a3 a4 n) 85 0 0 0 0 I J)) := rfl
theorem G_X10_copy_85 (a0 : Int32) (a1 : Int32) (a2 : Int32) (a3 : Int32) (a4 : Int32) (n : Nat) (n6 : Nat) (n7 : Nat) (v8 : Int32) (s0 : Int32) (I : kI) (J : kJ) : G_X10_copy a0 a1 a2 a3 a4 (n + 1) 85 n6 n7 v8 s0 I J = (kif (pre_X10_refuse (-103 : Int32) I J) (some ((F_X10_refuse (-103 : Int32) I J).1, (F_X10_refuse (-103 : Int32) I J).2.1, (F_X10_refuse (-103 : Int32) I J).2.2)) none) := rfl
theorem G_X10_copy_92 (a0 : Int32) (a1 : Int32) (a2 : Int32) (a3 : Int32) (a4 : Int32) (n : Nat) (n6 : Nat) (n7 : Nat) (v8 : Int32) (s0 : Int32) (I : kI) (J : kJ) : G_X10_copy a0 a1 a2 a3 a4 (n + 1) 92 n6 n7 v8 s0 I J = (kif (v8 = 0) (kif (pre_X10_refuse (-104 : Int32) I J) (some ((F_X10_refuse (-104 : Int32) I J).1, (F_X10_refuse (-104 : Int32) I J).2.1, (F_X10_refuse (-104 : Int32) I J).2.2)) none) (kif ((F_X4_hasElements (n6) a2 a4 I J) = 0) ((G_X10_copy a0 a1 a2 a3 a4 n) 127 0 0 0 0 I J) (kif ((F_X4_hasElements (n7) a3 a4 I J) = 0) ((G_X10_copy a0 a1 a2 a3 a4 n) 127 0 0 0 0 I J) (kif (pre_X4_takeElements (n7) a3 (n6) a2 a4 I J) (some (a4, (F_X4_takeElements (n7) a3 (n6) a2 a4 I J).1, (F_X4_takeElements (n7) a3 (n6) a2 a4 I J).2)) none)))) := rfl
theorem G_X10_copy_127 (a0 : Int32) (a1 : Int32) (a2 : Int32) (a3 : Int32) (a4 : Int32) (n : Nat) (n6 : Nat) (n7 : Nat) (v8 : Int32) (s0 : Int32) (I : kI) (J : kJ) : G_X10_copy a0 a1 a2 a3 a4 (n + 1) 127 n6 n7 v8 s0 I J = (kif (pre_X10_refuse (-102 : Int32) I J) (some ((F_X10_refuse (-102 : Int32) I J).1, (F_X10_refuse (-102 : Int32) I J).2.1, (F_X10_refuse (-102 : Int32) I J).2.2)) none) := rfl
noncomputable def E_X10_copy (a0 : Int32) (a1 : Int32) (a2 : Int32) (a3 : Int32) (a4 : Int32) (I : kI) (J : kJ) : Option (Int32 × kI × kJ) := (kif ((F_X10_isWithin a0 0 7 I J) = 0) (kif ((F_X10_isWithin a1 0 7 I J) = 0) ((G_X10_copy a0 a1 a2 a3 a4 kfu) 24 0 0 0 0 I J) (klt (a1).toNatClampNeg (fun p3 => ((G_X10_copy a0 a1 a2 a3 a4 kfu) 24 0 0 0 0 I J)))) (klt (a0).toNatClampNeg (fun p1 => (kif ((F_X10_isWithin a1 0 7 I J) = 0) ((G_X10_copy a0 a1 a2 a3 a4 kfu) 24 0 0 0 0 I J) (klt (a1).toNatClampNeg (fun p2 => (kif ((F_X4_isEmpty (p1) I J) = 0) (kif ((F_X4_isEmpty (p2) I J) = 0) ((G_X10_copy a0 a1 a2 a3 a4 kfu) 52 p1 p2 0 (1 : Int32) I J) ((G_X10_copy a0 a1 a2 a3 a4 kfu) 51 p1 p2 0 0 I J)) ((G_X10_copy a0 a1 a2 a3 a4 kfu) 51 p1 p2 0 0 I J))))))))
def sp_X10_copy : kx_Sp := fun av0 S0 r0 S1 => ∃ (a0 : Int32) (a1 : Int32) (a2 : Int32) (a3 : Int32) (a4 : Int32) (I : kI) (J : kJ) (q : Int32 × kI × kJ) (hG : E_X10_copy a0 a1 a2 a3 a4 I J = some q), av0 = [kx_r 10 0, kx_i a0, kx_i a1, kx_i a2, kx_i a3, kx_i a4] ∧ S0 = (I, J, none) ∧ r0 = (some (kx_i q.1)) ∧ S1 = (q.2.1, q.2.2, none)
theorem cs_X10_copy (a0 : Int32) (a1 : Int32) (a2 : Int32) (a3 : Int32) (a4 : Int32) (I : kI) (J : kJ) (q : Int32 × kI × kJ) (hG : E_X10_copy a0 a1 a2 a3 a4 I J = some q) : sp_X10_copy [kx_r 10 0, kx_i a0, kx_i a1, kx_i a2, kx_i a3, kx_i a4] (I, J, none) (some (kx_i q.1)) (q.2.1, q.2.2, none) := ⟨a0, a1, a2, a3, a4, I, J, q, hG, rfl, rfl, rfl, rfl⟩
noncomputable def E_X10_element (a0 : Int32) (a1 : Int32) (I : kI) (J : kJ) : Option (Int64) := (kif ((F_X10_isWithin a0 0 7 I J) = 0) (some (0 : Int64)) (kif (pre_X4_valueAt ((a0).toNatClampNeg) a1 I J) (some (F_X4_valueAt ((a0).toNatClampNeg) a1 I J)) none))
def sp_X10_element : kx_Sp := fun av0 S0 r0 S1 => ∃ (a0 : Int32) (a1 : Int32) (I : kI) (J : kJ) (q : Int64) (hG : E_X10_element a0 a1 I J = some q), av0 = [kx_r 10 0, kx_i a0, kx_i a1] ∧ S0 = (I, J, none) ∧ r0 = (some (kx_l q)) ∧ S1 = (I, J, none)
theorem cs_X10_element (a0 : Int32) (a1 : Int32) (I : kI) (J : kJ) (q : Int64) (hG : E_X10_element a0 a1 I J = some q) : sp_X10_element [kx_r 10 0, kx_i a0, kx_i a1] (I, J, none) (some (kx_l q)) (I, J, none) := ⟨a0, a1, I, J, q, hG, rfl, rfl, rfl, rfl⟩
noncomputable def E_X10_holds (a0 : Int32) (I : kI) (J : kJ) : Option (Int32) := (kif ((F_X10_isWithin a0 0 7 I J) = 0) (some (-1 : Int32)) (some (F_X4_content ((a0).toNatClampNeg) I J)))
def sp_X10_holds : kx_Sp := fun av0 S0 r0 S1 => ∃ (a0 : Int32) (I : kI) (J : kJ) (q : Int32) (hG : E_X10_holds a0 I J = some q), av0 = [kx_r 10 0, kx_i a0] ∧ S0 = (I, J, none) ∧ r0 = (some (kx_i q)) ∧ S1 = (I, J, none)
theorem cs_X10_holds (a0 : Int32) (I : kI) (J : kJ) (q : Int32) (hG : E_X10_holds a0 I J = some q) : sp_X10_holds [kx_r 10 0, kx_i a0] (I, J, none) (some (kx_i q)) (I, J, none) := ⟨a0, I, J, q, hG, rfl, rfl, rfl, rfl⟩
noncomputable def E_X10_show (a0 : Int32) (a1 : Int32) (I : kI) (J : kJ) : Option (Int32 × kI × kJ) := (kif ((F_X10_isWithin a0 0 7 I J) = 0) (kif (pre_X10_refuse (-102 : Int32) I J) (some ((F_X10_refuse (-102 : Int32) I J).1, (F_X10_refuse (-102 : Int32) I J).2.1, (F_X10_refuse (-102 : Int32) I J).2.2)) none) (kif (a1 = (-1 : Int32)) (kif (a1 = (-1 : Int32)) (some ((1 : Int32), (F_X4_takeNothing ((a0).toNatClampNeg) I J).1, (F_X4_takeNothing ((a0).toNatClampNeg) I J).2)) (some ((1 : Int32), (F_X4_takeShip ((a0).toNatClampNeg) a1 I J).1, (F_X4_takeShip ((a0).toNatClampNeg) a1 I J).2))) (kif ((F_X2_has (0) a1 I J) = 0) (kif (pre_X10_refuse (-102 : Int32) I J) (some ((F_X10_refuse (-102 : Int32) I J).1, (F_X10_refuse (-102 : Int32) I J).2.1, (F_X10_refuse (-102 : Int32) I J).2.2)) none) (kif (a1 = (-1 : Int32)) (some ((1 : Int32), (F_X4_takeNothing ((a0).toNatClampNeg) I J).1, (F_X4_takeNothing ((a0).toNatClampNeg) I J).2)) (some ((1 : Int32), (F_X4_takeShip ((a0).toNatClampNeg) a1 I J).1, (F_X4_takeShip ((a0).toNatClampNeg) a1 I J).2))))))
def sp_X10_show : kx_Sp := fun av0 S0 r0 S1 => ∃ (a0 : Int32) (a1 : Int32) (I : kI) (J : kJ) (q : Int32 × kI × kJ) (hG : E_X10_show a0 a1 I J = some q), av0 = [kx_r 10 0, kx_i a0, kx_i a1] ∧ S0 = (I, J, none) ∧ r0 = (some (kx_i q.1)) ∧ S1 = (q.2.1, q.2.2, none)
theorem cs_X10_show (a0 : Int32) (a1 : Int32) (I : kI) (J : kJ) (q : Int32 × kI × kJ) (hG : E_X10_show a0 a1 I J = some q) : sp_X10_show [kx_r 10 0, kx_i a0, kx_i a1] (I, J, none) (some (kx_i q.1)) (q.2.1, q.2.2, none) := ⟨a0, a1, I, J, q, hG, rfl, rfl, rfl, rfl⟩
noncomputable def E_X10_saidAs (a0 : Int32) (a1 : Int32) (I : kI) (J : kJ) : Option (Int32) := (kif (a0 = (0)) (kif (pre_X2_hourOf (0) a1 I J) (some (F_X2_hourOf (0) a1 I J)) none) (kif (a0 = (1)) (kif (pre_X2_kindOf (0) a1 I J) (kbd (E_X10_lacks (F_X2_kindOf (0) a1 I J) (0 : Int32) (0 : Int32) (2 : Int32) (0 : Int32) I J) (fun q1 => (some q1))) none) (kif (a0 = (2)) (kif (pre_X2_kindOf (0) a1 I J) (kbd (E_X10_lacks (F_X2_kindOf (0) a1 I J) (1 : Int32) (0 : Int32) (1 : Int32) (0 : Int32) I J) (fun q2 => (some q2))) none) (kif (a0 = (3)) (kif (pre_X2_fateOf (0) a1 I J) (some (F_X2_fateOf (0) a1 I J)) none) (kif (a0 = (4)) (kif (pre_X2_fateOf (0) a1 I J) (some (F_X2_fateOf (0) a1 I J)) none) (kif (a0 = (5)) (kif (pre_X2_fateOf (0) a1 I J) (some (F_X2_fateOf (0) a1 I J)) none) (kif (a0 = (6)) (kif (pre_X2_metOf (0) a1 I J) (some (F_X2_metOf (0) a1 I J)) none) (kif (a0 = (7)) (kif (pre_X2_fateOf (0) a1 I J) (kif ((F_X2_fateOf (0) a1 I J) = (2 : Int32)) (some (1 : Int32)) (some (0 : Int32))) none) (kif (pre_X2_fateOf (0) a1 I J) (some (F_X2_fateOf (0) a1 I J)) none)))))))))
def sp_X10_saidAs : kx_Sp := fun av0 S0 r0 S1 => ∃ (a0 : Int32) (a1 : Int32) (I : kI) (J : kJ) (q : Int32) (hG : E_X10_saidAs a0 a1 I J = some q), av0 = [kx_r 10 0, kx_i a0, kx_i a1] ∧ S0 = (I, J, none) ∧ r0 = (some (kx_i q)) ∧ S1 = (I, J, none)
theorem cs_X10_saidAs (a0 : Int32) (a1 : Int32) (I : kI) (J : kJ) (q : Int32) (hG : E_X10_saidAs a0 a1 I J = some q) : sp_X10_saidAs [kx_r 10 0, kx_i a0, kx_i a1] (I, J, none) (some (kx_i q)) (I, J, none) := ⟨a0, a1, I, J, q, hG, rfl, rfl, rfl, rfl⟩
noncomputable def G_X7_numberAt (o : Nat) (a0 : Int32) (a1 : Int32) : Nat → Nat → Int32 → Int32 → kI → kJ → Option (Int32)
  | 0, _, _, _, _, _ => none
  | n + 1, pc, v3, v4, I, J => (bif Nat.beq pc 5 then (kif (a1 ≤ v4) (some v3) (kif (pre_X7_byteAt (o) (a0 + v4) I J) ((G_X7_numberAt o a0 a1 n) 5 (((v3 * (10 : Int32)) + (F_X7_byteAt (o) (a0 + v4) I J)) - (48 : Int32)) (v4 + (1)) I J) none)) else none)
theorem G_X7_numberAt_5 (o : Nat) (a0 : Int32) (a1 : Int32) (n : Nat) (v3 : Int32) (v4 : Int32) (I : kI) (J : kJ) : G_X7_numberAt o a0 a1 (n + 1) 5 v3 v4 I J = (kif (a1 ≤ v4) (some v3) (kif (pre_X7_byteAt (o) (a0 + v4) I J) ((G_X7_numberAt o a0 a1 n) 5 (((v3 * (10 : Int32)) + (F_X7_byteAt (o) (a0 + v4) I J)) - (48 : Int32)) (v4 + (1)) I J) none)) := rfl
noncomputable def E_X7_numberAt (o : Nat) (a0 : Int32) (a1 : Int32) (I : kI) (J : kJ) : Option (Int32) := ((G_X7_numberAt o a0 a1 kfu) 5 (0 : Int32) (0 : Int32) I J)
set_option maxRecDepth 100000 in
set_option maxHeartbeats 4000000 in
theorem cl_X7_numberAt (o : Nat) (a0 : Int32) (a1 : Int32) (I0 : kI) (J0 : kJ) : ∀ n : Nat, (∀ (v3 : Int32) (v4 : Int32) (I : kI) (J : kJ) (q : Int32), I = I0 → J = J0 → G_X7_numberAt o a0 a1 n 5 v3 v4 I J = some q → kx_Run tb_X7_numberAt (kx_NC, fun r' S'' => r' = some (kx_i q) ∧ S'' = (I0, J0, none)) 5 [some (kx_r 7 (o)), some (kx_i a0), some (kx_i a1), some (kx_i v3), some (kx_i v4)] [] (I, J, none)) := by
  intro n
  induction n with
  | zero => (intros; rename_i h; have h2 : (none : Option _) = some _ := h; cases h2)
  | succ n ih =>
    intro v3 v4  I J q hI0 hJ0 hG
    subst hI0 hJ0
    rw [G_X7_numberAt_5] at hG
    refine kx_start [5] 26 ?_
    refine ⟨fun h1 => ?_, fun h1 => ?_⟩
    · replace h1 : a1 ≤ v4 := h1
      rw [kif_pos h1] at hG
      replace hG := Option.some.inj hG
      subst hG
      exact ⟨rfl, rfl⟩
    · replace h1 : ¬ a1 ≤ v4 := h1
      rw [kif_neg h1] at hG
      obtain ⟨hq, hG⟩ := kif_some hG
      refine ⟨_, _, cs_X7_byteAt (o) (a0 + v4) I J hq, rfl, ?_⟩
      exact (ih) _ _ _ _ q rfl rfl hG
set_option maxRecDepth 100000 in
set_option maxHeartbeats 4000000 in
theorem cs_X7_numberAt (o : Nat) (a0 : Int32) (a1 : Int32) (I : kI) (J : kJ) (q : Int32) (hG : E_X7_numberAt o a0 a1 I J = some q) : sp_X7_numberAt [kx_r 7 o, kx_i a0, kx_i a1] (I, J, none) (some (kx_i q)) (I, J, none) := by
  unfold E_X7_numberAt at hG
  refine kx_start [5] 26 ?_
  exact ((cl_X7_numberAt o a0 a1 I J kfu)) _ _ _ _ q rfl rfl hG
noncomputable def G_X7_readInto (o : Nat) (o0 : Nat) : Nat → Nat → Int32 → Int32 → kI → kJ → Option (Int32 × kI × kJ)
  | 0, _, _, _, _, _ => none
  | n + 1, pc, v2, v3, I, J => (bif Nat.beq pc 8 then (kif ((20 : Int32) < v3) (some (v2, I, J)) (kif (pre_X7_byteAt (o) v2 I J) (kif ((F_X7_weatherOf (F_X7_byteAt (o) v2 I J) I J) = (-1 : Int32)) (some (v2, I, J)) (kif ((F_X5_isFull (o0) I J) = 0) (kbd (E_X7_countDigits (o) (v2 + (1 : Int32)) I J) (fun q1 => (kbd (E_X7_numberAt (o) (v2 + (1 : Int32)) q1 I J) (fun q2 => (kif (q2 = 0) (some ((v2 + (1 : Int32)), I, J)) (kif (pre_X5_append (o0) (F_X7_weatherOf (F_X7_byteAt (o) v2 I J) I J) q2 I J) (kif ((v2 + ((1 : Int32) + q1)) = ((F_X5_append (o0) (F_X7_weatherOf (F_X7_byteAt (o) v2 I J) I J) q2 I J).1 7 o 1)) (some ((-1 : Int32), (F_X5_append (o0) (F_X7_weatherOf (F_X7_byteAt (o) v2 I J) I J) q2 I J).1, (F_X5_append (o0) (F_X7_weatherOf (F_X7_byteAt (o) v2 I J) I J) q2 I J).2)) (kif (pre_X7_byteAt (o) (v2 + ((1 : Int32) + q1)) (F_X5_append (o0) (F_X7_weatherOf (F_X7_byteAt (o) v2 I J) I J) q2 I J).1 (F_X5_append (o0) (F_X7_weatherOf (F_X7_byteAt (o) v2 I J) I J) q2 I J).2) (kif ((F_X7_byteAt (o) (v2 + ((1 : Int32) + q1)) (F_X5_append (o0) (F_X7_weatherOf (F_X7_byteAt (o) v2 I J) I J) q2 I J).1 (F_X5_append (o0) (F_X7_weatherOf (F_X7_byteAt (o) v2 I J) I J) q2 I J).2) = (32 : Int32)) ((G_X7_readInto o o0 n) 8 ((v2 + ((1 : Int32) + q1)) + (1)) (v3 + (1)) (F_X5_append (o0) (F_X7_weatherOf (F_X7_byteAt (o) v2 I J) I J) q2 I J).1 (F_X5_append (o0) (F_X7_weatherOf (F_X7_byteAt (o) v2 I J) I J) q2 I J).2) (some ((v2 + ((1 : Int32) + q1)), (F_X5_append (o0) (F_X7_weatherOf (F_X7_byteAt (o) v2 I J) I J) q2 I J).1, (F_X5_append (o0) (F_X7_weatherOf (F_X7_byteAt (o) v2 I J) I J) q2 I J).2))) none)) none)))))) (some (v2, I, J)))) none)) else none)
theorem G_X7_readInto_8 (o : Nat) (o0 : Nat) (n : Nat) (v2 : Int32) (v3 : Int32) (I : kI) (J : kJ) : G_X7_readInto o o0 (n + 1) 8 v2 v3 I J = (kif ((20 : Int32) < v3) (some (v2, I, J)) (kif (pre_X7_byteAt (o) v2 I J) (kif ((F_X7_weatherOf (F_X7_byteAt (o) v2 I J) I J) = (-1 : Int32)) (some (v2, I, J)) (kif ((F_X5_isFull (o0) I J) = 0) (kbd (E_X7_countDigits (o) (v2 + (1 : Int32)) I J) (fun q1 => (kbd (E_X7_numberAt (o) (v2 + (1 : Int32)) q1 I J) (fun q2 => (kif (q2 = 0) (some ((v2 + (1 : Int32)), I, J)) (kif (pre_X5_append (o0) (F_X7_weatherOf (F_X7_byteAt (o) v2 I J) I J) q2 I J) (kif ((v2 + ((1 : Int32) + q1)) = ((F_X5_append (o0) (F_X7_weatherOf (F_X7_byteAt (o) v2 I J) I J) q2 I J).1 7 o 1)) (some ((-1 : Int32), (F_X5_append (o0) (F_X7_weatherOf (F_X7_byteAt (o) v2 I J) I J) q2 I J).1, (F_X5_append (o0) (F_X7_weatherOf (F_X7_byteAt (o) v2 I J) I J) q2 I J).2)) (kif (pre_X7_byteAt (o) (v2 + ((1 : Int32) + q1)) (F_X5_append (o0) (F_X7_weatherOf (F_X7_byteAt (o) v2 I J) I J) q2 I J).1 (F_X5_append (o0) (F_X7_weatherOf (F_X7_byteAt (o) v2 I J) I J) q2 I J).2) (kif ((F_X7_byteAt (o) (v2 + ((1 : Int32) + q1)) (F_X5_append (o0) (F_X7_weatherOf (F_X7_byteAt (o) v2 I J) I J) q2 I J).1 (F_X5_append (o0) (F_X7_weatherOf (F_X7_byteAt (o) v2 I J) I J) q2 I J).2) = (32 : Int32)) ((G_X7_readInto o o0 n) 8 ((v2 + ((1 : Int32) + q1)) + (1)) (v3 + (1)) (F_X5_append (o0) (F_X7_weatherOf (F_X7_byteAt (o) v2 I J) I J) q2 I J).1 (F_X5_append (o0) (F_X7_weatherOf (F_X7_byteAt (o) v2 I J) I J) q2 I J).2) (some ((v2 + ((1 : Int32) + q1)), (F_X5_append (o0) (F_X7_weatherOf (F_X7_byteAt (o) v2 I J) I J) q2 I J).1, (F_X5_append (o0) (F_X7_weatherOf (F_X7_byteAt (o) v2 I J) I J) q2 I J).2))) none)) none)))))) (some (v2, I, J)))) none)) := rfl
noncomputable def E_X7_readInto (o : Nat) (o0 : Nat) (I : kI) (J : kJ) : Option (Int32 × kI × kJ) := ((G_X7_readInto o o0 kfu) 8 (0 : Int32) (0 : Int32) (F_X5_clear (o0) I J).1 (F_X5_clear (o0) I J).2)
set_option maxRecDepth 100000 in
set_option maxHeartbeats 4000000 in
theorem cl_X7_readInto (o : Nat) (o0 : Nat) : ∀ n : Nat, (∀ (v2 : Int32) (v3 : Int32) (x4 x5 x6 : Option kx_V) (I : kI) (J : kJ) (q : Int32 × kI × kJ), G_X7_readInto o o0 n 8 v2 v3 I J = some q → kx_Run tb_X7_readInto (kx_NC, fun r' S'' => r' = some (kx_i q.1) ∧ S'' = (q.2.1, q.2.2, none)) 8 [some (kx_r 7 (o)), some (kx_r 5 (o0)), some (kx_i v2), some (kx_i v3), x4, x5, x6] [] (I, J, none)) := by
  intro n
  induction n with
  | zero => (intros; rename_i h; have h2 : (none : Option _) = some _ := h; cases h2)
  | succ n ih =>
    intro v2 v3 x4 x5 x6  I J q hG
    rw [G_X7_readInto_8] at hG
    refine kx_start [8] 72 ?_
    refine ⟨fun h1 => ?_, fun h1 => ?_⟩
    · replace h1 : (20 : Int32) < v3 := h1
      rw [kif_pos h1] at hG
      replace hG := Option.some.inj hG
      subst hG
      exact ⟨rfl, rfl⟩
    · replace h1 : ¬ (20 : Int32) < v3 := h1
      rw [kif_neg h1] at hG
      obtain ⟨hq, hG⟩ := kif_some hG
      refine ⟨_, _, cs_X7_byteAt (o) v2 I J hq, rfl, ?_⟩
      refine ⟨_, _, cs_X7_weatherOf (F_X7_byteAt (o) v2 I J) I J, rfl, ?_⟩
      refine ⟨fun h2 => ?_, fun h2 => ?_⟩
      · replace h2 : (F_X7_weatherOf (F_X7_byteAt (o) v2 I J) I J) = (-1 : Int32) := h2
        rw [kif_pos h2] at hG
        replace hG := Option.some.inj hG
        subst hG
        exact ⟨rfl, rfl⟩
      · replace h2 : ¬ (F_X7_weatherOf (F_X7_byteAt (o) v2 I J) I J) = (-1 : Int32) := h2
        rw [kif_neg h2] at hG
        refine ⟨_, _, cs_X5_isFull (o0) I J, rfl, ?_⟩
        refine ⟨fun h3 => ?_, fun h3 => ?_⟩
        · replace h3 : (F_X5_isFull (o0) I J) = 0 := h3
          rw [kif_pos h3] at hG
          obtain ⟨q1, hq, hG⟩ := kbd_some hG
          refine ⟨_, _, cs_X7_countDigits (o) (v2 + (1 : Int32)) I J q1 hq, rfl, ?_⟩
          obtain ⟨q2, hq, hG⟩ := kbd_some hG
          refine ⟨_, _, cs_X7_numberAt (o) (v2 + (1 : Int32)) q1 I J q2 hq, rfl, ?_⟩
          refine ⟨fun h4 => ?_, fun h4 => ?_⟩
          · replace h4 : ¬ q2 = 0 := h4
            rw [kif_neg h4] at hG
            obtain ⟨hq, hG⟩ := kif_some hG
            refine ⟨_, _, cs_X5_append (o0) (F_X7_weatherOf (F_X7_byteAt (o) v2 I J) I J) q2 I J hq, rfl, ?_⟩
            refine ⟨fun h5 => ?_, fun h5 => ?_⟩
            · replace h5 : ¬ (v2 + ((1 : Int32) + q1)) = ((F_X5_append (o0) (F_X7_weatherOf (F_X7_byteAt (o) v2 I J) I J) q2 I J).1 7 o 1) := h5
              rw [kif_neg h5] at hG
              obtain ⟨hq, hG⟩ := kif_some hG
              refine ⟨_, _, cs_X7_byteAt (o) (v2 + ((1 : Int32) + q1)) (F_X5_append (o0) (F_X7_weatherOf (F_X7_byteAt (o) v2 I J) I J) q2 I J).1 (F_X5_append (o0) (F_X7_weatherOf (F_X7_byteAt (o) v2 I J) I J) q2 I J).2 hq, rfl, ?_⟩
              refine ⟨fun h6 => ?_, fun h6 => ?_⟩
              · replace h6 : (F_X7_byteAt (o) (v2 + ((1 : Int32) + q1)) (F_X5_append (o0) (F_X7_weatherOf (F_X7_byteAt (o) v2 I J) I J) q2 I J).1 (F_X5_append (o0) (F_X7_weatherOf (F_X7_byteAt (o) v2 I J) I J) q2 I J).2) = (32 : Int32) := h6
                rw [kif_pos h6] at hG
                exact (ih) _ _ _ _ _ _ _ q hG
              · replace h6 : ¬ (F_X7_byteAt (o) (v2 + ((1 : Int32) + q1)) (F_X5_append (o0) (F_X7_weatherOf (F_X7_byteAt (o) v2 I J) I J) q2 I J).1 (F_X5_append (o0) (F_X7_weatherOf (F_X7_byteAt (o) v2 I J) I J) q2 I J).2) = (32 : Int32) := h6
                rw [kif_neg h6] at hG
                replace hG := Option.some.inj hG
                subst hG
                exact ⟨rfl, rfl⟩
            · replace h5 : (v2 + ((1 : Int32) + q1)) = ((F_X5_append (o0) (F_X7_weatherOf (F_X7_byteAt (o) v2 I J) I J) q2 I J).1 7 o 1) := h5
              rw [kif_pos h5] at hG
              replace hG := Option.some.inj hG
              subst hG
              exact ⟨rfl, rfl⟩
          · replace h4 : q2 = 0 := h4
            rw [kif_pos h4] at hG
            replace hG := Option.some.inj hG
            subst hG
            exact ⟨rfl, rfl⟩
        · replace h3 : ¬ (F_X5_isFull (o0) I J) = 0 := h3
          rw [kif_neg h3] at hG
          replace hG := Option.some.inj hG
          subst hG
          exact ⟨rfl, rfl⟩
set_option maxRecDepth 100000 in
set_option maxHeartbeats 4000000 in
theorem cs_X7_readInto (o : Nat) (o0 : Nat) (I : kI) (J : kJ) (q : Int32 × kI × kJ) (hG : E_X7_readInto o o0 I J = some q) : sp_X7_readInto [kx_r 7 o, kx_r 5 o0] (I, J, none) (some (kx_i q.1)) (q.2.1, q.2.2, none) := by
  unfold E_X7_readInto at hG
  refine kx_start [8] 72 ?_
  refine ⟨_, _, cs_X5_clear (o0) I J, rfl, ?_⟩
  exact ((cl_X7_readInto o o0 kfu)) _ _ _ _ _ _ _ q hG
noncomputable def E_X8_begin (o : Nat) (o0 : Nat) (I : kI) (J : kJ) : Option (kI × kJ) := (kbd (E_X6_become (2) (o0) I J) (fun q1 => (kbd (E_X2_firstPlaceOf (o0) ((kw (kw (kw (kw q1.1 8 o 1 (0 : Int32)) 8 o 2 (0 : Int32)) 8 o 3 (0 : Int32)) 8 o 4 (0 : Int32)) 6 2 4) (kw (kw (kw (kw q1.1 8 o 1 (0 : Int32)) 8 o 2 (0 : Int32)) 8 o 3 (0 : Int32)) 8 o 4 (0 : Int32)) q1.2) (fun q2 => (some ((kw (kw (kw (kw (kw q1.1 8 o 1 (0 : Int32)) 8 o 2 (0 : Int32)) 8 o 3 (0 : Int32)) 8 o 4 (0 : Int32)) 8 o 5 q2), q1.2))))))
set_option maxRecDepth 100000 in
set_option maxHeartbeats 4000000 in
theorem cs_X8_begin (o : Nat) (o0 : Nat) (I : kI) (J : kJ) (q : kI × kJ) (hG : E_X8_begin o o0 I J = some q) : sp_X8_begin [kx_r 8 o, kx_r 9 o0] (I, J, none) (none) (q.1, q.2, none) := by
  unfold E_X8_begin at hG
  refine kx_start [] 29 ?_
  obtain ⟨q1, hq, hG⟩ := kbd_some hG
  refine ⟨_, _, cs_X6_become (2) (o0) I J q1 hq, rfl, ?_⟩
  obtain ⟨q2, hq, hG⟩ := kbd_some hG
  refine ⟨_, _, cs_X2_firstPlaceOf (o0) ((kw (kw (kw (kw q1.1 8 o 1 (0 : Int32)) 8 o 2 (0 : Int32)) 8 o 3 (0 : Int32)) 8 o 4 (0 : Int32)) 6 2 4) (kw (kw (kw (kw q1.1 8 o 1 (0 : Int32)) 8 o 2 (0 : Int32)) 8 o 3 (0 : Int32)) 8 o 4 (0 : Int32)) q1.2 q2 hq, rfl, ?_⟩
  replace hG := Option.some.inj hG
  subst hG
  exact ⟨rfl, rfl⟩
noncomputable def G_X10_lacks (a0 : Int32) (a1 : Int32) (a2 : Int32) (a3 : Int32) (a4 : Int32) : Nat → Nat → Int32 → Int32 → Int32 → kI → kJ → Option (Int32)
  | 0, _, _, _, _, _, _ => none
  | n + 1, pc, v5, v6, s0, I, J => (bif Nat.beq pc 20 then ((G_X10_lacks a0 a1 a2 a3 a4 n) 21 v5 0 (0 : Int32) I J) else (bif Nat.beq pc 21 then (kif (a0 = (7 : Int32)) (kif (a1 = 0) (kif (a3 = (2 : Int32)) ((G_X10_lacks a0 a1 a2 a3 a4 n) 43 v5 s0 (1 : Int32) I J) ((G_X10_lacks a0 a1 a2 a3 a4 n) 42 v5 s0 0 I J)) ((G_X10_lacks a0 a1 a2 a3 a4 n) 42 v5 s0 0 I J)) ((G_X10_lacks a0 a1 a2 a3 a4 n) 42 v5 s0 0 I J)) else (bif Nat.beq pc 42 then ((G_X10_lacks a0 a1 a2 a3 a4 n) 43 v5 v6 (0 : Int32) I J) else (bif Nat.beq pc 43 then (kif (v6 = 0) (kif (s0 = 0) ((G_X10_lacks a0 a1 a2 a3 a4 n) 58 v5 0 0 I J) ((G_X10_lacks a0 a1 a2 a3 a4 n) 55 v5 0 0 I J)) ((G_X10_lacks a0 a1 a2 a3 a4 n) 55 v5 0 0 I J)) else (bif Nat.beq pc 55 then ((G_X10_lacks a0 a1 a2 a3 a4 n) 58 (v5 + (1)) 0 0 I J) else (bif Nat.beq pc 58 then (kif (a3 = (1 : Int32)) (kif (a4 = 0) (kif (a0 = (3 : Int32)) ((G_X10_lacks a0 a1 a2 a3 a4 n) 76 v5 0 0 I J) ((G_X10_lacks a0 a1 a2 a3 a4 n) 76 (v5 + (1)) 0 0 I J)) ((G_X10_lacks a0 a1 a2 a3 a4 n) 76 v5 0 0 I J)) ((G_X10_lacks a0 a1 a2 a3 a4 n) 76 v5 0 0 I J)) else (bif Nat.beq pc 76 then (kif (a3 = (2 : Int32)) (kif ((F_X10_isUnder a0 (1 : Int32) I J) = 0) ((G_X10_lacks a0 a1 a2 a3 a4 n) 92 v5 0 0 I J) ((G_X10_lacks a0 a1 a2 a3 a4 n) 92 (v5 + (1)) 0 0 I J)) ((G_X10_lacks a0 a1 a2 a3 a4 n) 92 v5 0 0 I J)) else (bif Nat.beq pc 92 then (some v5) else none))))))))
theorem G_X10_lacks_20 (a0 : Int32) (a1 : Int32) (a2 : Int32) (a3 : Int32) (a4 : Int32) (n : Nat) (v5 : Int32) (v6 : Int32) (s0 : Int32) (I : kI) (J : kJ) : G_X10_lacks a0 a1 a2 a3 a4 (n + 1) 20 v5 v6 s0 I J = ((G_X10_lacks a0 a1 a2 a3 a4 n) 21 v5 0 (0 : Int32) I J) := rfl
theorem G_X10_lacks_21 (a0 : Int32) (a1 : Int32) (a2 : Int32) (a3 : Int32) (a4 : Int32) (n : Nat) (v5 : Int32) (v6 : Int32) (s0 : Int32) (I : kI) (J : kJ) : G_X10_lacks a0 a1 a2 a3 a4 (n + 1) 21 v5 v6 s0 I J = (kif (a0 = (7 : Int32)) (kif (a1 = 0) (kif (a3 = (2 : Int32)) ((G_X10_lacks a0 a1 a2 a3 a4 n) 43 v5 s0 (1 : Int32) I J) ((G_X10_lacks a0 a1 a2 a3 a4 n) 42 v5 s0 0 I J)) ((G_X10_lacks a0 a1 a2 a3 a4 n) 42 v5 s0 0 I J)) ((G_X10_lacks a0 a1 a2 a3 a4 n) 42 v5 s0 0 I J)) := rfl
theorem G_X10_lacks_42 (a0 : Int32) (a1 : Int32) (a2 : Int32) (a3 : Int32) (a4 : Int32) (n : Nat) (v5 : Int32) (v6 : Int32) (s0 : Int32) (I : kI) (J : kJ) : G_X10_lacks a0 a1 a2 a3 a4 (n + 1) 42 v5 v6 s0 I J = ((G_X10_lacks a0 a1 a2 a3 a4 n) 43 v5 v6 (0 : Int32) I J) := rfl
theorem G_X10_lacks_43 (a0 : Int32) (a1 : Int32) (a2 : Int32) (a3 : Int32) (a4 : Int32) (n : Nat) (v5 : Int32) (v6 : Int32) (s0 : Int32) (I : kI) (J : kJ) : G_X10_lacks a0 a1 a2 a3 a4 (n + 1) 43 v5 v6 s0 I J = (kif (v6 = 0) (kif (s0 = 0) ((G_X10_lacks a0 a1 a2 a3 a4 n) 58 v5 0 0 I J) ((G_X10_lacks a0 a1 a2 a3 a4 n) 55 v5 0 0 I J)) ((G_X10_lacks a0 a1 a2 a3 a4 n) 55 v5 0 0 I J)) := rfl
theorem G_X10_lacks_55 (a0 : Int32) (a1 : Int32) (a2 : Int32) (a3 : Int32) (a4 : Int32) (n : Nat) (v5 : Int32) (v6 : Int32) (s0 : Int32) (I : kI) (J : kJ) : G_X10_lacks a0 a1 a2 a3 a4 (n + 1) 55 v5 v6 s0 I J = ((G_X10_lacks a0 a1 a2 a3 a4 n) 58 (v5 + (1)) 0 0 I J) := rfl
theorem G_X10_lacks_58 (a0 : Int32) (a1 : Int32) (a2 : Int32) (a3 : Int32) (a4 : Int32) (n : Nat) (v5 : Int32) (v6 : Int32) (s0 : Int32) (I : kI) (J : kJ) : G_X10_lacks a0 a1 a2 a3 a4 (n + 1) 58 v5 v6 s0 I J = (kif (a3 = (1 : Int32)) (kif (a4 = 0) (kif (a0 = (3 : Int32)) ((G_X10_lacks a0 a1 a2 a3 a4 n) 76 v5 0 0 I J) ((G_X10_lacks a0 a1 a2 a3 a4 n) 76 (v5 + (1)) 0 0 I J)) ((G_X10_lacks a0 a1 a2 a3 a4 n) 76 v5 0 0 I J)) ((G_X10_lacks a0 a1 a2 a3 a4 n) 76 v5 0 0 I J)) := rfl
theorem G_X10_lacks_76 (a0 : Int32) (a1 : Int32) (a2 : Int32) (a3 : Int32) (a4 : Int32) (n : Nat) (v5 : Int32) (v6 : Int32) (s0 : Int32) (I : kI) (J : kJ) : G_X10_lacks a0 a1 a2 a3 a4 (n + 1) 76 v5 v6 s0 I J = (kif (a3 = (2 : Int32)) (kif ((F_X10_isUnder a0 (1 : Int32) I J) = 0) ((G_X10_lacks a0 a1 a2 a3 a4 n) 92 v5 0 0 I J) ((G_X10_lacks a0 a1 a2 a3 a4 n) 92 (v5 + (1)) 0 0 I J)) ((G_X10_lacks a0 a1 a2 a3 a4 n) 92 v5 0 0 I J)) := rfl
theorem G_X10_lacks_92 (a0 : Int32) (a1 : Int32) (a2 : Int32) (a3 : Int32) (a4 : Int32) (n : Nat) (v5 : Int32) (v6 : Int32) (s0 : Int32) (I : kI) (J : kJ) : G_X10_lacks a0 a1 a2 a3 a4 (n + 1) 92 v5 v6 s0 I J = (some v5) := rfl
noncomputable def E_X10_lacks (a0 : Int32) (a1 : Int32) (a2 : Int32) (a3 : Int32) (a4 : Int32) (I : kI) (J : kJ) : Option (Int32) := (kif (a1 = 0) ((G_X10_lacks a0 a1 a2 a3 a4 kfu) 20 (0 : Int32) 0 0 I J) (kif (a2 = 0) (kif (a0 = (4 : Int32)) ((G_X10_lacks a0 a1 a2 a3 a4 kfu) 20 (0 : Int32) 0 0 I J) ((G_X10_lacks a0 a1 a2 a3 a4 kfu) 21 (0 : Int32) 0 (1 : Int32) I J)) ((G_X10_lacks a0 a1 a2 a3 a4 kfu) 20 (0 : Int32) 0 0 I J)))
set_option maxRecDepth 100000 in
set_option maxHeartbeats 4000000 in
theorem cl_X10_lacks (a0 : Int32) (a1 : Int32) (a2 : Int32) (a3 : Int32) (a4 : Int32) (I0 : kI) (J0 : kJ) : ∀ n : Nat, (∀ (v5 : Int32) (v6 : Int32) (s0 : Int32) (x2 x6 x7 : Option kx_V) (I : kI) (J : kJ) (q : Int32), I = I0 → J = J0 → G_X10_lacks a0 a1 a2 a3 a4 n 20 v5 v6 s0 I J = some q → kx_Run tb_X10_lacks (kx_NC, fun r' S'' => r' = some (kx_i q) ∧ S'' = (I0, J0, none)) 20 [some (kx_i a0), some (kx_i a1), x2, some (kx_i a3), some (kx_i a4), some (kx_i v5), x6, x7] [] (I, J, none)) ∧ (∀ (v5 : Int32) (v6 : Int32) (s0 : Int32) (x2 x6 x7 : Option kx_V) (I : kI) (J : kJ) (q : Int32), I = I0 → J = J0 → G_X10_lacks a0 a1 a2 a3 a4 n 21 v5 v6 s0 I J = some q → kx_Run tb_X10_lacks (kx_NC, fun r' S'' => r' = some (kx_i q) ∧ S'' = (I0, J0, none)) 21 [some (kx_i a0), some (kx_i a1), x2, some (kx_i a3), some (kx_i a4), some (kx_i v5), x6, x7] [kx_i s0] (I, J, none)) ∧ (∀ (v5 : Int32) (v6 : Int32) (s0 : Int32) (x1 x2 x7 : Option kx_V) (I : kI) (J : kJ) (q : Int32), I = I0 → J = J0 → G_X10_lacks a0 a1 a2 a3 a4 n 42 v5 v6 s0 I J = some q → kx_Run tb_X10_lacks (kx_NC, fun r' S'' => r' = some (kx_i q) ∧ S'' = (I0, J0, none)) 42 [some (kx_i a0), x1, x2, some (kx_i a3), some (kx_i a4), some (kx_i v5), some (kx_i v6), x7] [] (I, J, none)) ∧ (∀ (v5 : Int32) (v6 : Int32) (s0 : Int32) (x1 x2 x7 : Option kx_V) (I : kI) (J : kJ) (q : Int32), I = I0 → J = J0 → G_X10_lacks a0 a1 a2 a3 a4 n 43 v5 v6 s0 I J = some q → kx_Run tb_X10_lacks (kx_NC, fun r' S'' => r' = some (kx_i q) ∧ S'' = (I0, J0, none)) 43 [some (kx_i a0), x1, x2, some (kx_i a3), some (kx_i a4), some (kx_i v5), some (kx_i v6), x7] [kx_i s0] (I, J, none)) ∧ (∀ (v5 : Int32) (v6 : Int32) (s0 : Int32) (x1 x2 x6 x7 : Option kx_V) (I : kI) (J : kJ) (q : Int32), I = I0 → J = J0 → G_X10_lacks a0 a1 a2 a3 a4 n 55 v5 v6 s0 I J = some q → kx_Run tb_X10_lacks (kx_NC, fun r' S'' => r' = some (kx_i q) ∧ S'' = (I0, J0, none)) 55 [some (kx_i a0), x1, x2, some (kx_i a3), some (kx_i a4), some (kx_i v5), x6, x7] [] (I, J, none)) ∧ (∀ (v5 : Int32) (v6 : Int32) (s0 : Int32) (x1 x2 x6 x7 : Option kx_V) (I : kI) (J : kJ) (q : Int32), I = I0 → J = J0 → G_X10_lacks a0 a1 a2 a3 a4 n 58 v5 v6 s0 I J = some q → kx_Run tb_X10_lacks (kx_NC, fun r' S'' => r' = some (kx_i q) ∧ S'' = (I0, J0, none)) 58 [some (kx_i a0), x1, x2, some (kx_i a3), some (kx_i a4), some (kx_i v5), x6, x7] [] (I, J, none)) ∧ (∀ (v5 : Int32) (v6 : Int32) (s0 : Int32) (x1 x2 x4 x6 x7 : Option kx_V) (I : kI) (J : kJ) (q : Int32), I = I0 → J = J0 → G_X10_lacks a0 a1 a2 a3 a4 n 76 v5 v6 s0 I J = some q → kx_Run tb_X10_lacks (kx_NC, fun r' S'' => r' = some (kx_i q) ∧ S'' = (I0, J0, none)) 76 [some (kx_i a0), x1, x2, some (kx_i a3), x4, some (kx_i v5), x6, x7] [] (I, J, none)) ∧ (∀ (v5 : Int32) (v6 : Int32) (s0 : Int32) (x0 x1 x2 x3 x4 x6 x7 : Option kx_V) (I : kI) (J : kJ) (q : Int32), I = I0 → J = J0 → G_X10_lacks a0 a1 a2 a3 a4 n 92 v5 v6 s0 I J = some q → kx_Run tb_X10_lacks (kx_NC, fun r' S'' => r' = some (kx_i q) ∧ S'' = (I0, J0, none)) 92 [x0, x1, x2, x3, x4, some (kx_i v5), x6, x7] [] (I, J, none)) := by
  intro n
  induction n with
  | zero => refine ⟨?_, ?_, ?_, ?_, ?_, ?_, ?_, ?_⟩ <;> (intros; rename_i h; have h2 : (none : Option _) = some _ := h; cases h2)
  | succ n ih =>
    refine ⟨?_, ?_, ?_, ?_, ?_, ?_, ?_, ?_⟩
    · intro v5 v6 s0 x2 x6 x7  I J q hI0 hJ0 hG
      subst hI0 hJ0
      rw [G_X10_lacks_20] at hG
      refine kx_start [20, 21, 42, 43, 55, 58, 76, 92] 52 ?_
      exact (ih.2.1) _ _ _ _ _ _ _ _ q rfl rfl hG
    · intro v5 v6 s0 x2 x6 x7  I J q hI0 hJ0 hG
      subst hI0 hJ0
      rw [G_X10_lacks_21] at hG
      refine kx_start [20, 21, 42, 43, 55, 58, 76, 92] 52 ?_
      refine ⟨fun h1 => ?_, fun h1 => ?_⟩
      · replace h1 : ¬ a0 = (7 : Int32) := h1
        rw [kif_neg h1] at hG
        exact (ih.2.2.1) _ _ _ _ _ _ _ _ q rfl rfl hG
      · replace h1 : a0 = (7 : Int32) := h1
        rw [kif_pos h1] at hG
        refine ⟨fun h2 => ?_, fun h2 => ?_⟩
        · replace h2 : ¬ a1 = 0 := h2
          rw [kif_neg h2] at hG
          exact (ih.2.2.1) _ _ _ _ _ _ _ _ q rfl rfl hG
        · replace h2 : a1 = 0 := h2
          rw [kif_pos h2] at hG
          refine ⟨fun h3 => ?_, fun h3 => ?_⟩
          · replace h3 : ¬ a3 = (2 : Int32) := h3
            rw [kif_neg h3] at hG
            exact (ih.2.2.1) _ _ _ _ _ _ _ _ q rfl rfl hG
          · replace h3 : a3 = (2 : Int32) := h3
            rw [kif_pos h3] at hG
            exact (ih.2.2.2.1) _ _ _ _ _ _ _ _ q rfl rfl hG
    · intro v5 v6 s0 x1 x2 x7  I J q hI0 hJ0 hG
      subst hI0 hJ0
      rw [G_X10_lacks_42] at hG
      refine kx_start [20, 21, 42, 43, 55, 58, 76, 92] 52 ?_
      exact (ih.2.2.2.1) _ _ _ _ _ _ _ _ q rfl rfl hG
    · intro v5 v6 s0 x1 x2 x7  I J q hI0 hJ0 hG
      subst hI0 hJ0
      rw [G_X10_lacks_43] at hG
      refine kx_start [20, 21, 42, 43, 55, 58, 76, 92] 52 ?_
      refine ⟨fun h4 => ?_, fun h4 => ?_⟩
      · replace h4 : ¬ v6 = 0 := h4
        rw [kif_neg h4] at hG
        exact (ih.2.2.2.2.1) _ _ _ _ _ _ _ _ _ q rfl rfl hG
      · replace h4 : v6 = 0 := h4
        rw [kif_pos h4] at hG
        refine ⟨fun h5 => ?_, fun h5 => ?_⟩
        · replace h5 : s0 = 0 := h5
          rw [kif_pos h5] at hG
          exact (ih.2.2.2.2.2.1) _ _ _ _ _ _ _ _ _ q rfl rfl hG
        · replace h5 : ¬ s0 = 0 := h5
          rw [kif_neg h5] at hG
          exact (ih.2.2.2.2.1) _ _ _ _ _ _ _ _ _ q rfl rfl hG
    · intro v5 v6 s0 x1 x2 x6 x7  I J q hI0 hJ0 hG
      subst hI0 hJ0
      rw [G_X10_lacks_55] at hG
      refine kx_start [20, 21, 42, 43, 55, 58, 76, 92] 52 ?_
      exact (ih.2.2.2.2.2.1) _ _ _ _ _ _ _ _ _ q rfl rfl hG
    · intro v5 v6 s0 x1 x2 x6 x7  I J q hI0 hJ0 hG
      subst hI0 hJ0
      rw [G_X10_lacks_58] at hG
      refine kx_start [20, 21, 42, 43, 55, 58, 76, 92] 52 ?_
      refine ⟨fun h6 => ?_, fun h6 => ?_⟩
      · replace h6 : ¬ a3 = (1 : Int32) := h6
        rw [kif_neg h6] at hG
        exact (ih.2.2.2.2.2.2.1) _ _ _ _ _ _ _ _ _ _ q rfl rfl hG
      · replace h6 : a3 = (1 : Int32) := h6
        rw [kif_pos h6] at hG
        refine ⟨fun h7 => ?_, fun h7 => ?_⟩
        · replace h7 : ¬ a4 = 0 := h7
          rw [kif_neg h7] at hG
          exact (ih.2.2.2.2.2.2.1) _ _ _ _ _ _ _ _ _ _ q rfl rfl hG
        · replace h7 : a4 = 0 := h7
          rw [kif_pos h7] at hG
          refine ⟨fun h8 => ?_, fun h8 => ?_⟩
          · replace h8 : a0 = (3 : Int32) := h8
            rw [kif_pos h8] at hG
            exact (ih.2.2.2.2.2.2.1) _ _ _ _ _ _ _ _ _ _ q rfl rfl hG
          · replace h8 : ¬ a0 = (3 : Int32) := h8
            rw [kif_neg h8] at hG
            exact (ih.2.2.2.2.2.2.1) _ _ _ _ _ _ _ _ _ _ q rfl rfl hG
    · intro v5 v6 s0 x1 x2 x4 x6 x7  I J q hI0 hJ0 hG
      subst hI0 hJ0
      rw [G_X10_lacks_76] at hG
      refine kx_start [20, 21, 42, 43, 55, 58, 76, 92] 52 ?_
      refine ⟨fun h9 => ?_, fun h9 => ?_⟩
      · replace h9 : ¬ a3 = (2 : Int32) := h9
        rw [kif_neg h9] at hG
        exact (ih.2.2.2.2.2.2.2) _ _ _ _ _ _ _ _ _ _ _ _ q rfl rfl hG
      · replace h9 : a3 = (2 : Int32) := h9
        rw [kif_pos h9] at hG
        refine ⟨_, _, ct_X10_isUnder a0 (1 : Int32) I J, rfl, ?_⟩
        refine ⟨fun h10 => ?_, fun h10 => ?_⟩
        · replace h10 : (F_X10_isUnder a0 (1 : Int32) I J) = 0 := h10
          rw [kif_pos h10] at hG
          exact (ih.2.2.2.2.2.2.2) _ _ _ _ _ _ _ _ _ _ _ _ q rfl rfl hG
        · replace h10 : ¬ (F_X10_isUnder a0 (1 : Int32) I J) = 0 := h10
          rw [kif_neg h10] at hG
          exact (ih.2.2.2.2.2.2.2) _ _ _ _ _ _ _ _ _ _ _ _ q rfl rfl hG
    · intro v5 v6 s0 x0 x1 x2 x3 x4 x6 x7  I J q hI0 hJ0 hG
      subst hI0 hJ0
      rw [G_X10_lacks_92] at hG
      refine kx_start [20, 21, 42, 43, 55, 58, 76, 92] 52 ?_
      replace hG := Option.some.inj hG
      subst hG
      exact ⟨rfl, rfl⟩
set_option maxRecDepth 100000 in
set_option maxHeartbeats 4000000 in
theorem cs_X10_lacks (a0 : Int32) (a1 : Int32) (a2 : Int32) (a3 : Int32) (a4 : Int32) (I : kI) (J : kJ) (q : Int32) (hG : E_X10_lacks a0 a1 a2 a3 a4 I J = some q) : sp_X10_lacks [kx_i a0, kx_i a1, kx_i a2, kx_i a3, kx_i a4] (I, J, none) (some (kx_i q)) (I, J, none) := by
  unfold E_X10_lacks at hG
  refine kx_start [20, 21, 42, 43, 55, 58, 76, 92] 52 ?_
  refine ⟨fun h1 => ?_, fun h1 => ?_⟩
  · replace h1 : a1 = 0 := h1
    rw [kif_pos h1] at hG
    exact ((cl_X10_lacks a0 a1 a2 a3 a4 I J kfu).1) _ _ _ _ _ _ _ _ q rfl rfl hG
  · replace h1 : ¬ a1 = 0 := h1
    rw [kif_neg h1] at hG
    refine ⟨fun h2 => ?_, fun h2 => ?_⟩
    · replace h2 : ¬ a2 = 0 := h2
      rw [kif_neg h2] at hG
      exact ((cl_X10_lacks a0 a1 a2 a3 a4 I J kfu).1) _ _ _ _ _ _ _ _ q rfl rfl hG
    · replace h2 : a2 = 0 := h2
      rw [kif_pos h2] at hG
      refine ⟨fun h3 => ?_, fun h3 => ?_⟩
      · replace h3 : a0 = (4 : Int32) := h3
        rw [kif_pos h3] at hG
        exact ((cl_X10_lacks a0 a1 a2 a3 a4 I J kfu).1) _ _ _ _ _ _ _ _ q rfl rfl hG
      · replace h3 : ¬ a0 = (4 : Int32) := h3
        rw [kif_neg h3] at hG
        exact ((cl_X10_lacks a0 a1 a2 a3 a4 I J kfu).2.1) _ _ _ _ _ _ _ _ q rfl rfl hG
noncomputable def E_X10_fateIn (o0 : Nat) (a1 : Int32) (I : kI) (J : kJ) : Option (Int32) := (kbd (E_X10_lacks a1 (I 6 o0 13) (I 6 o0 10) (I 6 o0 12) (I 6 o0 16) I J) (fun q1 => (kif (q1 = 0) (some (0 : Int32)) (kif (q1 = (1 : Int32)) (kif ((I 6 o0 12) = (2 : Int32)) (kif ((F_X10_isUnder a1 (2 : Int32) I J) = 0) (kif ((1 : Int32) = 0) (some (2 : Int32)) (some (1 : Int32))) (kif ((0 : Int32) = 0) (some (2 : Int32)) (some (1 : Int32)))) (kif ((1 : Int32) = 0) (some (2 : Int32)) (some (1 : Int32)))) (kif ((0 : Int32) = 0) (some (2 : Int32)) (some (1 : Int32)))))))
set_option maxRecDepth 100000 in
set_option maxHeartbeats 4000000 in
theorem cs_X10_fateIn (o0 : Nat) (a1 : Int32) (I : kI) (J : kJ) (q : Int32) (hG : E_X10_fateIn o0 a1 I J = some q) : sp_X10_fateIn [kx_r 6 o0, kx_i a1] (I, J, none) (some (kx_i q)) (I, J, none) := by
  unfold E_X10_fateIn at hG
  refine kx_start [] 39 ?_
  obtain ⟨q1, hq, hG⟩ := kbd_some hG
  refine ⟨_, _, cs_X10_lacks a1 (I 6 o0 13) (I 6 o0 10) (I 6 o0 12) (I 6 o0 16) I J q1 hq, rfl, ?_⟩
  refine ⟨fun h1 => ?_, fun h1 => ?_⟩
  · replace h1 : ¬ q1 = 0 := h1
    rw [kif_neg h1] at hG
    refine ⟨fun h2 => ?_, fun h2 => ?_⟩
    · replace h2 : ¬ q1 = (1 : Int32) := h2
      rw [kif_neg h2] at hG
      refine ⟨fun h3 => ?_, fun h3 => ?_⟩
      · replace h3 : (0 : Int32) = 0 := h3
        rw [kif_pos h3] at hG
        replace hG := Option.some.inj hG
        subst hG
        exact ⟨rfl, rfl⟩
      · replace h3 : ¬ (0 : Int32) = 0 := h3
        rw [kif_neg h3] at hG
        replace hG := Option.some.inj hG
        subst hG
        exact ⟨rfl, rfl⟩
    · replace h2 : q1 = (1 : Int32) := h2
      rw [kif_pos h2] at hG
      refine ⟨fun h4 => ?_, fun h4 => ?_⟩
      · replace h4 : ¬ (I 6 o0 12) = (2 : Int32) := h4
        rw [kif_neg h4] at hG
        refine ⟨fun h5 => ?_, fun h5 => ?_⟩
        · replace h5 : (1 : Int32) = 0 := h5
          rw [kif_pos h5] at hG
          replace hG := Option.some.inj hG
          subst hG
          exact ⟨rfl, rfl⟩
        · replace h5 : ¬ (1 : Int32) = 0 := h5
          rw [kif_neg h5] at hG
          replace hG := Option.some.inj hG
          subst hG
          exact ⟨rfl, rfl⟩
      · replace h4 : (I 6 o0 12) = (2 : Int32) := h4
        rw [kif_pos h4] at hG
        refine ⟨_, _, ct_X10_isUnder a1 (2 : Int32) I J, rfl, ?_⟩
        refine ⟨fun h6 => ?_, fun h6 => ?_⟩
        · replace h6 : ¬ (F_X10_isUnder a1 (2 : Int32) I J) = 0 := h6
          rw [kif_neg h6] at hG
          refine ⟨fun h7 => ?_, fun h7 => ?_⟩
          · replace h7 : (0 : Int32) = 0 := h7
            rw [kif_pos h7] at hG
            replace hG := Option.some.inj hG
            subst hG
            exact ⟨rfl, rfl⟩
          · replace h7 : ¬ (0 : Int32) = 0 := h7
            rw [kif_neg h7] at hG
            replace hG := Option.some.inj hG
            subst hG
            exact ⟨rfl, rfl⟩
        · replace h6 : (F_X10_isUnder a1 (2 : Int32) I J) = 0 := h6
          rw [kif_pos h6] at hG
          refine ⟨fun h8 => ?_, fun h8 => ?_⟩
          · replace h8 : (1 : Int32) = 0 := h8
            rw [kif_pos h8] at hG
            replace hG := Option.some.inj hG
            subst hG
            exact ⟨rfl, rfl⟩
          · replace h8 : ¬ (1 : Int32) = 0 := h8
            rw [kif_neg h8] at hG
            replace hG := Option.some.inj hG
            subst hG
            exact ⟨rfl, rfl⟩
  · replace h1 : q1 = 0 := h1
    rw [kif_pos h1] at hG
    replace hG := Option.some.inj hG
    subst hG
    exact ⟨rfl, rfl⟩
noncomputable def G_X8_passHour (o : Nat) (o0 : Nat) : Nat → Nat → kI → kJ → Option (kI × kJ)
  | 0, _, _, _ => none
  | n + 1, pc, I, J => (bif Nat.beq pc 55 then (kif ((I 2 o0 5) ≤ (I 8 o 5)) (kbd (E_X6_endHour (2) I J) (fun q1 => (some (q1.1, q1.2)))) (kif (pre_X2_isPlaceOf (o0) (I 6 2 4) (I 8 o 5) I J) (kif ((F_X2_isPlaceOf (o0) (I 6 2 4) (I 8 o 5) I J) = 0) (kbd (E_X6_endHour (2) I J) (fun q2 => (some (q2.1, q2.2)))) (kif (pre_X2_shipInPlace (o0) (I 8 o 5) I J) (kif (pre_X2_kindOf (o0) (F_X2_shipInPlace (o0) (I 8 o 5) I J) I J) (kbd (E_X10_fateIn (2) (F_X2_kindOf (o0) (F_X2_shipInPlace (o0) (I 8 o 5) I J) I J) I J) (fun q3 => (kif (q3 = (1 : Int32)) (kif (q3 = (2 : Int32)) ((G_X8_passHour o o0 n) 55  (kw (kw (kw I 8 o 2 ((I 8 o 2) + (1 : Int32))) 8 o 3 (((kw I 8 o 2 ((I 8 o 2) + (1 : Int32))) 8 o 3) + (1 : Int32))) 8 o 5 (((kw (kw I 8 o 2 ((I 8 o 2) + (1 : Int32))) 8 o 3 (((kw I 8 o 2 ((I 8 o 2) + (1 : Int32))) 8 o 3) + (1 : Int32))) 8 o 5) + (1 : Int32))) J) ((G_X8_passHour o o0 n) 55  (kw (kw (kw I 8 o 2 ((I 8 o 2) + (1 : Int32))) 8 o 3 (((kw I 8 o 2 ((I 8 o 2) + (1 : Int32))) 8 o 3) + (0 : Int32))) 8 o 5 (((kw (kw I 8 o 2 ((I 8 o 2) + (1 : Int32))) 8 o 3 (((kw I 8 o 2 ((I 8 o 2) + (1 : Int32))) 8 o 3) + (0 : Int32))) 8 o 5) + (1 : Int32))) J)) (kif (q3 = (2 : Int32)) ((G_X8_passHour o o0 n) 55  (kw (kw (kw I 8 o 2 ((I 8 o 2) + (0 : Int32))) 8 o 3 (((kw I 8 o 2 ((I 8 o 2) + (0 : Int32))) 8 o 3) + (1 : Int32))) 8 o 5 (((kw (kw I 8 o 2 ((I 8 o 2) + (0 : Int32))) 8 o 3 (((kw I 8 o 2 ((I 8 o 2) + (0 : Int32))) 8 o 3) + (1 : Int32))) 8 o 5) + (1 : Int32))) J) ((G_X8_passHour o o0 n) 55  (kw (kw (kw I 8 o 2 ((I 8 o 2) + (0 : Int32))) 8 o 3 (((kw I 8 o 2 ((I 8 o 2) + (0 : Int32))) 8 o 3) + (0 : Int32))) 8 o 5 (((kw (kw I 8 o 2 ((I 8 o 2) + (0 : Int32))) 8 o 3 (((kw I 8 o 2 ((I 8 o 2) + (0 : Int32))) 8 o 3) + (0 : Int32))) 8 o 5) + (1 : Int32))) J))))) none) none)) none)) else none)
theorem G_X8_passHour_55 (o : Nat) (o0 : Nat) (n : Nat)  (I : kI) (J : kJ) : G_X8_passHour o o0 (n + 1) 55  I J = (kif ((I 2 o0 5) ≤ (I 8 o 5)) (kbd (E_X6_endHour (2) I J) (fun q1 => (some (q1.1, q1.2)))) (kif (pre_X2_isPlaceOf (o0) (I 6 2 4) (I 8 o 5) I J) (kif ((F_X2_isPlaceOf (o0) (I 6 2 4) (I 8 o 5) I J) = 0) (kbd (E_X6_endHour (2) I J) (fun q2 => (some (q2.1, q2.2)))) (kif (pre_X2_shipInPlace (o0) (I 8 o 5) I J) (kif (pre_X2_kindOf (o0) (F_X2_shipInPlace (o0) (I 8 o 5) I J) I J) (kbd (E_X10_fateIn (2) (F_X2_kindOf (o0) (F_X2_shipInPlace (o0) (I 8 o 5) I J) I J) I J) (fun q3 => (kif (q3 = (1 : Int32)) (kif (q3 = (2 : Int32)) ((G_X8_passHour o o0 n) 55  (kw (kw (kw I 8 o 2 ((I 8 o 2) + (1 : Int32))) 8 o 3 (((kw I 8 o 2 ((I 8 o 2) + (1 : Int32))) 8 o 3) + (1 : Int32))) 8 o 5 (((kw (kw I 8 o 2 ((I 8 o 2) + (1 : Int32))) 8 o 3 (((kw I 8 o 2 ((I 8 o 2) + (1 : Int32))) 8 o 3) + (1 : Int32))) 8 o 5) + (1 : Int32))) J) ((G_X8_passHour o o0 n) 55  (kw (kw (kw I 8 o 2 ((I 8 o 2) + (1 : Int32))) 8 o 3 (((kw I 8 o 2 ((I 8 o 2) + (1 : Int32))) 8 o 3) + (0 : Int32))) 8 o 5 (((kw (kw I 8 o 2 ((I 8 o 2) + (1 : Int32))) 8 o 3 (((kw I 8 o 2 ((I 8 o 2) + (1 : Int32))) 8 o 3) + (0 : Int32))) 8 o 5) + (1 : Int32))) J)) (kif (q3 = (2 : Int32)) ((G_X8_passHour o o0 n) 55  (kw (kw (kw I 8 o 2 ((I 8 o 2) + (0 : Int32))) 8 o 3 (((kw I 8 o 2 ((I 8 o 2) + (0 : Int32))) 8 o 3) + (1 : Int32))) 8 o 5 (((kw (kw I 8 o 2 ((I 8 o 2) + (0 : Int32))) 8 o 3 (((kw I 8 o 2 ((I 8 o 2) + (0 : Int32))) 8 o 3) + (1 : Int32))) 8 o 5) + (1 : Int32))) J) ((G_X8_passHour o o0 n) 55  (kw (kw (kw I 8 o 2 ((I 8 o 2) + (0 : Int32))) 8 o 3 (((kw I 8 o 2 ((I 8 o 2) + (0 : Int32))) 8 o 3) + (0 : Int32))) 8 o 5 (((kw (kw I 8 o 2 ((I 8 o 2) + (0 : Int32))) 8 o 3 (((kw I 8 o 2 ((I 8 o 2) + (0 : Int32))) 8 o 3) + (0 : Int32))) 8 o 5) + (1 : Int32))) J))))) none) none)) none)) := rfl
noncomputable def E_X8_passHour (o : Nat) (o0 : Nat) (I : kI) (J : kJ) : Option (kI × kJ) := (kbd (E_X6_keepWatch (2) I J) (fun q1 => (kif ((F_X6_isUnlit (2) q1.1 q1.2) = 0) (kif ((F_X6_isAsleepOnWatch (2) (kw q1.1 8 o 1 ((q1.1 8 o 1) + (0 : Int32))) q1.2) = 0) ((G_X8_passHour o o0 kfu) 55  (kw (kw q1.1 8 o 1 ((q1.1 8 o 1) + (0 : Int32))) 8 o 4 (((kw q1.1 8 o 1 ((q1.1 8 o 1) + (0 : Int32))) 8 o 4) + (0 : Int32))) q1.2) ((G_X8_passHour o o0 kfu) 55  (kw (kw q1.1 8 o 1 ((q1.1 8 o 1) + (0 : Int32))) 8 o 4 (((kw q1.1 8 o 1 ((q1.1 8 o 1) + (0 : Int32))) 8 o 4) + (1 : Int32))) q1.2)) (kif ((F_X6_isAsleepOnWatch (2) (kw q1.1 8 o 1 ((q1.1 8 o 1) + (1 : Int32))) q1.2) = 0) ((G_X8_passHour o o0 kfu) 55  (kw (kw q1.1 8 o 1 ((q1.1 8 o 1) + (1 : Int32))) 8 o 4 (((kw q1.1 8 o 1 ((q1.1 8 o 1) + (1 : Int32))) 8 o 4) + (0 : Int32))) q1.2) ((G_X8_passHour o o0 kfu) 55  (kw (kw q1.1 8 o 1 ((q1.1 8 o 1) + (1 : Int32))) 8 o 4 (((kw q1.1 8 o 1 ((q1.1 8 o 1) + (1 : Int32))) 8 o 4) + (1 : Int32))) q1.2)))))
set_option maxRecDepth 100000 in
set_option maxHeartbeats 4000000 in
theorem cl_X8_passHour (o : Nat) (o0 : Nat) : ∀ n : Nat, (∀ (x2 : Option kx_V) (I : kI) (J : kJ) (q : kI × kJ), G_X8_passHour o o0 n 55  I J = some q → kx_Run tb_X8_passHour (kx_NC, fun r' S'' => r' = none ∧ S'' = (q.1, q.2, none)) 55 [some (kx_r 8 (o)), some (kx_r 2 (o0)), x2] [] (I, J, none)) := by
  intro n
  induction n with
  | zero => (intros; rename_i h; have h2 : (none : Option _) = some _ := h; cases h2)
  | succ n ih =>
    intro x2  I J q hG
    rw [G_X8_passHour_55] at hG
    refine kx_start [55] 86 ?_
    refine ⟨fun h1 => ?_, fun h1 => ?_⟩
    · replace h1 : (I 2 o0 5) ≤ (I 8 o 5) := h1
      rw [kif_pos h1] at hG
      obtain ⟨q1, hq, hG⟩ := kbd_some hG
      refine ⟨_, _, cs_X6_endHour (2) I J q1 hq, rfl, ?_⟩
      replace hG := Option.some.inj hG
      subst hG
      exact ⟨rfl, rfl⟩
    · replace h1 : ¬ (I 2 o0 5) ≤ (I 8 o 5) := h1
      rw [kif_neg h1] at hG
      obtain ⟨hq, hG⟩ := kif_some hG
      refine ⟨_, _, cs_X2_isPlaceOf (o0) (I 6 2 4) (I 8 o 5) I J hq, rfl, ?_⟩
      refine ⟨fun h2 => ?_, fun h2 => ?_⟩
      · replace h2 : (F_X2_isPlaceOf (o0) (I 6 2 4) (I 8 o 5) I J) = 0 := h2
        rw [kif_pos h2] at hG
        obtain ⟨q2, hq, hG⟩ := kbd_some hG
        refine ⟨_, _, cs_X6_endHour (2) I J q2 hq, rfl, ?_⟩
        replace hG := Option.some.inj hG
        subst hG
        exact ⟨rfl, rfl⟩
      · replace h2 : ¬ (F_X2_isPlaceOf (o0) (I 6 2 4) (I 8 o 5) I J) = 0 := h2
        rw [kif_neg h2] at hG
        obtain ⟨hq, hG⟩ := kif_some hG
        refine ⟨_, _, cs_X2_shipInPlace (o0) (I 8 o 5) I J hq, rfl, ?_⟩
        obtain ⟨hq, hG⟩ := kif_some hG
        refine ⟨_, _, cs_X2_kindOf (o0) (F_X2_shipInPlace (o0) (I 8 o 5) I J) I J hq, rfl, ?_⟩
        obtain ⟨q3, hq, hG⟩ := kbd_some hG
        refine ⟨_, _, cs_X10_fateIn (2) (F_X2_kindOf (o0) (F_X2_shipInPlace (o0) (I 8 o 5) I J) I J) I J q3 hq, rfl, ?_⟩
        refine ⟨fun h3 => ?_, fun h3 => ?_⟩
        · replace h3 : ¬ q3 = (1 : Int32) := h3
          rw [kif_neg h3] at hG
          refine ⟨fun h4 => ?_, fun h4 => ?_⟩
          · replace h4 : ¬ q3 = (2 : Int32) := h4
            rw [kif_neg h4] at hG
            exact (ih) _ _ _ q hG
          · replace h4 : q3 = (2 : Int32) := h4
            rw [kif_pos h4] at hG
            exact (ih) _ _ _ q hG
        · replace h3 : q3 = (1 : Int32) := h3
          rw [kif_pos h3] at hG
          refine ⟨fun h5 => ?_, fun h5 => ?_⟩
          · replace h5 : ¬ q3 = (2 : Int32) := h5
            rw [kif_neg h5] at hG
            exact (ih) _ _ _ q hG
          · replace h5 : q3 = (2 : Int32) := h5
            rw [kif_pos h5] at hG
            exact (ih) _ _ _ q hG
set_option maxRecDepth 100000 in
set_option maxHeartbeats 4000000 in
theorem cs_X8_passHour (o : Nat) (o0 : Nat) (I : kI) (J : kJ) (q : kI × kJ) (hG : E_X8_passHour o o0 I J = some q) : sp_X8_passHour [kx_r 8 o, kx_r 2 o0] (I, J, none) (none) (q.1, q.2, none) := by
  unfold E_X8_passHour at hG
  refine kx_start [55] 86 ?_
  obtain ⟨q1, hq, hG⟩ := kbd_some hG
  refine ⟨_, _, cs_X6_keepWatch (2) I J q1 hq, rfl, ?_⟩
  refine ⟨_, _, cs_X6_isUnlit (2) q1.1 q1.2, rfl, ?_⟩
  refine ⟨fun h1 => ?_, fun h1 => ?_⟩
  · replace h1 : (F_X6_isUnlit (2) q1.1 q1.2) = 0 := h1
    rw [kif_pos h1] at hG
    refine ⟨_, _, cs_X6_isAsleepOnWatch (2) (kw q1.1 8 o 1 ((q1.1 8 o 1) + (0 : Int32))) q1.2, rfl, ?_⟩
    refine ⟨fun h2 => ?_, fun h2 => ?_⟩
    · replace h2 : (F_X6_isAsleepOnWatch (2) (kw q1.1 8 o 1 ((q1.1 8 o 1) + (0 : Int32))) q1.2) = 0 := h2
      rw [kif_pos h2] at hG
      exact ((cl_X8_passHour o o0 kfu)) _ _ _ q hG
    · replace h2 : ¬ (F_X6_isAsleepOnWatch (2) (kw q1.1 8 o 1 ((q1.1 8 o 1) + (0 : Int32))) q1.2) = 0 := h2
      rw [kif_neg h2] at hG
      exact ((cl_X8_passHour o o0 kfu)) _ _ _ q hG
  · replace h1 : ¬ (F_X6_isUnlit (2) q1.1 q1.2) = 0 := h1
    rw [kif_neg h1] at hG
    refine ⟨_, _, cs_X6_isAsleepOnWatch (2) (kw q1.1 8 o 1 ((q1.1 8 o 1) + (1 : Int32))) q1.2, rfl, ?_⟩
    refine ⟨fun h3 => ?_, fun h3 => ?_⟩
    · replace h3 : (F_X6_isAsleepOnWatch (2) (kw q1.1 8 o 1 ((q1.1 8 o 1) + (1 : Int32))) q1.2) = 0 := h3
      rw [kif_pos h3] at hG
      exact ((cl_X8_passHour o o0 kfu)) _ _ _ q hG
    · replace h3 : ¬ (F_X6_isAsleepOnWatch (2) (kw q1.1 8 o 1 ((q1.1 8 o 1) + (1 : Int32))) q1.2) = 0 := h3
      rw [kif_neg h3] at hG
      exact ((cl_X8_passHour o o0 kfu)) _ _ _ q hG
noncomputable def G_X8_passHours (o : Nat) (o0 : Nat) (a1 : Int32) : Nat → Nat → Int32 → kI → kJ → Option (Int32 × kI × kJ)
  | 0, _, _, _, _ => none
  | n + 1, pc, v3, I, J => (bif Nat.beq pc 2 then (kif (a1 ≤ v3) (some ((I 8 o 1), I, J)) (kbd (E_X8_passHour (o) (o0) I J) (fun q1 => ((G_X8_passHours o o0 a1 n) 2 (v3 + (1)) q1.1 q1.2)))) else none)
theorem G_X8_passHours_2 (o : Nat) (o0 : Nat) (a1 : Int32) (n : Nat) (v3 : Int32) (I : kI) (J : kJ) : G_X8_passHours o o0 a1 (n + 1) 2 v3 I J = (kif (a1 ≤ v3) (some ((I 8 o 1), I, J)) (kbd (E_X8_passHour (o) (o0) I J) (fun q1 => ((G_X8_passHours o o0 a1 n) 2 (v3 + (1)) q1.1 q1.2)))) := rfl
noncomputable def E_X8_passHours (o : Nat) (o0 : Nat) (a1 : Int32) (I : kI) (J : kJ) : Option (Int32 × kI × kJ) := ((G_X8_passHours o o0 a1 kfu) 2 (0 : Int32) I J)
set_option maxRecDepth 100000 in
set_option maxHeartbeats 4000000 in
theorem cl_X8_passHours (o : Nat) (o0 : Nat) (a1 : Int32) : ∀ n : Nat, (∀ (v3 : Int32) (I : kI) (J : kJ) (q : Int32 × kI × kJ), G_X8_passHours o o0 a1 n 2 v3 I J = some q → kx_Run tb_X8_passHours (kx_NC, fun r' S'' => r' = some (kx_i q.1) ∧ S'' = (q.2.1, q.2.2, none)) 2 [some (kx_r 8 (o)), some (kx_r 2 (o0)), some (kx_i a1), some (kx_i v3)] [] (I, J, none)) := by
  intro n
  induction n with
  | zero => (intros; rename_i h; have h2 : (none : Option _) = some _ := h; cases h2)
  | succ n ih =>
    intro v3  I J q hG
    rw [G_X8_passHours_2] at hG
    refine kx_start [2] 16 ?_
    refine ⟨fun h1 => ?_, fun h1 => ?_⟩
    · replace h1 : a1 ≤ v3 := h1
      rw [kif_pos h1] at hG
      replace hG := Option.some.inj hG
      subst hG
      exact ⟨rfl, rfl⟩
    · replace h1 : ¬ a1 ≤ v3 := h1
      rw [kif_neg h1] at hG
      obtain ⟨q1, hq, hG⟩ := kbd_some hG
      refine ⟨_, _, cs_X8_passHour (o) (o0) I J q1 hq, rfl, ?_⟩
      exact (ih) _ _ _ q hG
set_option maxRecDepth 100000 in
set_option maxHeartbeats 4000000 in
theorem cs_X8_passHours (o : Nat) (o0 : Nat) (a1 : Int32) (I : kI) (J : kJ) (q : Int32 × kI × kJ) (hG : E_X8_passHours o o0 a1 I J = some q) : sp_X8_passHours [kx_r 8 o, kx_r 2 o0, kx_i a1] (I, J, none) (some (kx_i q.1)) (q.2.1, q.2.2, none) := by
  unfold E_X8_passHours at hG
  refine kx_start [2] 16 ?_
  exact ((cl_X8_passHours o o0 a1 kfu)) _ _ _ q hG
noncomputable def G_X9_meetShips (o : Nat) (a0 : Int32) : Nat → Nat → Int32 → Int32 → kI → kJ → Option (kI × kJ)
  | 0, _, _, _, _, _ => none
  | n + 1, pc, v2, v3, I, J => (bif Nat.beq pc 34 then (kif ((I 2 o 5) ≤ v3) (some (I, J)) (kif (pre_X2_isPlaceOf (o) (I 6 o 4) v3 I J) (kif ((F_X2_isPlaceOf (o) (I 6 o 4) v3 I J) = 0) (some (I, J)) (kif (pre_X2_shipInPlace (o) v3 I J) (kif (pre_X2_kindOf (o) (F_X2_shipInPlace (o) v3 I J) I J) (kbd (E_X10_fateIn (o) (F_X2_kindOf (o) (F_X2_shipInPlace (o) v3 I J) I J) I J) (fun q1 => (kif (pre_X2_becameOf (o) (F_X2_shipInPlace (o) v3 I J) q1 v2 I J) ((G_X9_meetShips o a0 n) 34 v2 (v3 + (1)) (F_X2_becameOf (o) (F_X2_shipInPlace (o) v3 I J) q1 v2 I J).1 (F_X2_becameOf (o) (F_X2_shipInPlace (o) v3 I J) q1 v2 I J).2) none))) none) none)) none)) else none)
theorem G_X9_meetShips_34 (o : Nat) (a0 : Int32) (n : Nat) (v2 : Int32) (v3 : Int32) (I : kI) (J : kJ) : G_X9_meetShips o a0 (n + 1) 34 v2 v3 I J = (kif ((I 2 o 5) ≤ v3) (some (I, J)) (kif (pre_X2_isPlaceOf (o) (I 6 o 4) v3 I J) (kif ((F_X2_isPlaceOf (o) (I 6 o 4) v3 I J) = 0) (some (I, J)) (kif (pre_X2_shipInPlace (o) v3 I J) (kif (pre_X2_kindOf (o) (F_X2_shipInPlace (o) v3 I J) I J) (kbd (E_X10_fateIn (o) (F_X2_kindOf (o) (F_X2_shipInPlace (o) v3 I J) I J) I J) (fun q1 => (kif (pre_X2_becameOf (o) (F_X2_shipInPlace (o) v3 I J) q1 v2 I J) ((G_X9_meetShips o a0 n) 34 v2 (v3 + (1)) (F_X2_becameOf (o) (F_X2_shipInPlace (o) v3 I J) q1 v2 I J).1 (F_X2_becameOf (o) (F_X2_shipInPlace (o) v3 I J) q1 v2 I J).2) none))) none) none)) none)) := rfl
noncomputable def E_X9_meetShips (o : Nat) (a0 : Int32) (I : kI) (J : kJ) : Option (kI × kJ) := (kif ((I 6 o 10) = 0) (kif ((I 6 o 16) = 0) ((G_X9_meetShips o a0 kfu) 34 ((0 : Int32) + (0 : Int32)) a0 I J) ((G_X9_meetShips o a0 kfu) 34 ((0 : Int32) + (2 : Int32)) a0 I J)) (kif ((I 6 o 16) = 0) ((G_X9_meetShips o a0 kfu) 34 ((1 : Int32) + (0 : Int32)) a0 I J) ((G_X9_meetShips o a0 kfu) 34 ((1 : Int32) + (2 : Int32)) a0 I J)))
set_option maxRecDepth 100000 in
set_option maxHeartbeats 4000000 in
theorem cl_X9_meetShips (o : Nat) (a0 : Int32) : ∀ n : Nat, (∀ (v2 : Int32) (v3 : Int32) (x1 x4 : Option kx_V) (I : kI) (J : kJ) (q : kI × kJ), G_X9_meetShips o a0 n 34 v2 v3 I J = some q → kx_Run tb_X9_meetShips (kx_NC, fun r' S'' => r' = none ∧ S'' = (q.1, q.2, none)) 34 [some (kx_r 9 (o)), x1, some (kx_i v2), some (kx_i v3), x4] [] (I, J, none)) := by
  intro n
  induction n with
  | zero => (intros; rename_i h; have h2 : (none : Option _) = some _ := h; cases h2)
  | succ n ih =>
    intro v2 v3 x1 x4  I J q hG
    rw [G_X9_meetShips_34] at hG
    refine kx_start [34] 54 ?_
    refine ⟨fun h1 => ?_, fun h1 => ?_⟩
    · replace h1 : (I 2 o 5) ≤ v3 := h1
      rw [kif_pos h1] at hG
      replace hG := Option.some.inj hG
      subst hG
      exact ⟨rfl, rfl⟩
    · replace h1 : ¬ (I 2 o 5) ≤ v3 := h1
      rw [kif_neg h1] at hG
      obtain ⟨hq, hG⟩ := kif_some hG
      refine ⟨_, _, cs_X2_isPlaceOf (o) (I 6 o 4) v3 I J hq, rfl, ?_⟩
      refine ⟨fun h2 => ?_, fun h2 => ?_⟩
      · replace h2 : (F_X2_isPlaceOf (o) (I 6 o 4) v3 I J) = 0 := h2
        rw [kif_pos h2] at hG
        replace hG := Option.some.inj hG
        subst hG
        exact ⟨rfl, rfl⟩
      · replace h2 : ¬ (F_X2_isPlaceOf (o) (I 6 o 4) v3 I J) = 0 := h2
        rw [kif_neg h2] at hG
        obtain ⟨hq, hG⟩ := kif_some hG
        refine ⟨_, _, cs_X2_shipInPlace (o) v3 I J hq, rfl, ?_⟩
        obtain ⟨hq, hG⟩ := kif_some hG
        refine ⟨_, _, cs_X2_kindOf (o) (F_X2_shipInPlace (o) v3 I J) I J hq, rfl, ?_⟩
        obtain ⟨q1, hq, hG⟩ := kbd_some hG
        refine ⟨_, _, cs_X10_fateIn (o) (F_X2_kindOf (o) (F_X2_shipInPlace (o) v3 I J) I J) I J q1 hq, rfl, ?_⟩
        obtain ⟨hq, hG⟩ := kif_some hG
        refine ⟨_, _, cs_X2_becameOf (o) (F_X2_shipInPlace (o) v3 I J) q1 v2 I J hq, rfl, ?_⟩
        exact (ih) _ _ _ _ _ _ q hG
set_option maxRecDepth 100000 in
set_option maxHeartbeats 4000000 in
theorem cs_X9_meetShips (o : Nat) (a0 : Int32) (I : kI) (J : kJ) (q : kI × kJ) (hG : E_X9_meetShips o a0 I J = some q) : sp_X9_meetShips [kx_r 9 o, kx_i a0] (I, J, none) (none) (q.1, q.2, none) := by
  unfold E_X9_meetShips at hG
  refine kx_start [34] 54 ?_
  refine ⟨fun h1 => ?_, fun h1 => ?_⟩
  · replace h1 : (I 6 o 10) = 0 := h1
    rw [kif_pos h1] at hG
    refine ⟨fun h2 => ?_, fun h2 => ?_⟩
    · replace h2 : (I 6 o 16) = 0 := h2
      rw [kif_pos h2] at hG
      exact ((cl_X9_meetShips o a0 kfu)) _ _ _ _ _ _ q hG
    · replace h2 : ¬ (I 6 o 16) = 0 := h2
      rw [kif_neg h2] at hG
      exact ((cl_X9_meetShips o a0 kfu)) _ _ _ _ _ _ q hG
  · replace h1 : ¬ (I 6 o 10) = 0 := h1
    rw [kif_neg h1] at hG
    refine ⟨fun h3 => ?_, fun h3 => ?_⟩
    · replace h3 : (I 6 o 16) = 0 := h3
      rw [kif_pos h3] at hG
      exact ((cl_X9_meetShips o a0 kfu)) _ _ _ _ _ _ q hG
    · replace h3 : ¬ (I 6 o 16) = 0 := h3
      rw [kif_neg h3] at hG
      exact ((cl_X9_meetShips o a0 kfu)) _ _ _ _ _ _ q hG
noncomputable def G_X9_writeLog (o : Nat) (a0 : Int32) : Nat → Nat → Int32 → kI → kJ → Option (kI × kJ)
  | 0, _, _, _, _ => none
  | n + 1, pc, v2, I, J => (bif Nat.beq pc 85 then (kif ((I 2 o 5) ≤ v2) (some (I, J)) (kif (pre_X2_isPlaceOf (o) (I 6 o 4) v2 I J) (kif ((F_X2_isPlaceOf (o) (I 6 o 4) v2 I J) = 0) (some (I, J)) (kif (pre_X2_shipInPlace (o) v2 I J) (kif (pre_X2_fateOf (o) (F_X2_shipInPlace (o) v2 I J) I J) (kif (pre_X9_enter (o) ((4 : Int32) + (F_X2_fateOf (o) (F_X2_shipInPlace (o) v2 I J) I J)) (F_X2_shipInPlace (o) v2 I J) I J) ((G_X9_writeLog o a0 n) 85 (v2 + (1)) (F_X9_enter (o) ((4 : Int32) + (F_X2_fateOf (o) (F_X2_shipInPlace (o) v2 I J) I J)) (F_X2_shipInPlace (o) v2 I J) I J).1 (F_X9_enter (o) ((4 : Int32) + (F_X2_fateOf (o) (F_X2_shipInPlace (o) v2 I J) I J)) (F_X2_shipInPlace (o) v2 I J) I J).2) none) none) none)) none)) else none)
theorem G_X9_writeLog_85 (o : Nat) (a0 : Int32) (n : Nat) (v2 : Int32) (I : kI) (J : kJ) : G_X9_writeLog o a0 (n + 1) 85 v2 I J = (kif ((I 2 o 5) ≤ v2) (some (I, J)) (kif (pre_X2_isPlaceOf (o) (I 6 o 4) v2 I J) (kif ((F_X2_isPlaceOf (o) (I 6 o 4) v2 I J) = 0) (some (I, J)) (kif (pre_X2_shipInPlace (o) v2 I J) (kif (pre_X2_fateOf (o) (F_X2_shipInPlace (o) v2 I J) I J) (kif (pre_X9_enter (o) ((4 : Int32) + (F_X2_fateOf (o) (F_X2_shipInPlace (o) v2 I J) I J)) (F_X2_shipInPlace (o) v2 I J) I J) ((G_X9_writeLog o a0 n) 85 (v2 + (1)) (F_X9_enter (o) ((4 : Int32) + (F_X2_fateOf (o) (F_X2_shipInPlace (o) v2 I J) I J)) (F_X2_shipInPlace (o) v2 I J) I J).1 (F_X9_enter (o) ((4 : Int32) + (F_X2_fateOf (o) (F_X2_shipInPlace (o) v2 I J) I J)) (F_X2_shipInPlace (o) v2 I J) I J).2) none) none) none)) none)) := rfl
noncomputable def E_X9_writeLog (o : Nat) (a0 : Int32) (I : kI) (J : kJ) : Option (kI × kJ) := (kif (pre_X6_isBoyAsleepOnWatch (o) I J) (kif ((F_X6_isBoyAsleepOnWatch (o) I J) = 0) (kif ((I 6 o 15) = 0) (some (I, J)) (kif ((I 6 o 13) = 0) (kif ((I 6 o 16) = 0) ((G_X9_writeLog o a0 kfu) 85 a0 I J) (kif (pre_X9_enter (o) (3 : Int32) (-1 : Int32) I J) ((G_X9_writeLog o a0 kfu) 85 a0 (F_X9_enter (o) (3 : Int32) (-1 : Int32) I J).1 (F_X9_enter (o) (3 : Int32) (-1 : Int32) I J).2) none)) (kif ((I 6 o 10) = 0) (kif (pre_X9_enter (o) (2 : Int32) (-1 : Int32) I J) (kif (((F_X9_enter (o) (2 : Int32) (-1 : Int32) I J).1 6 o 16) = 0) ((G_X9_writeLog o a0 kfu) 85 a0 (F_X9_enter (o) (2 : Int32) (-1 : Int32) I J).1 (F_X9_enter (o) (2 : Int32) (-1 : Int32) I J).2) (kif (pre_X9_enter (o) (3 : Int32) (-1 : Int32) (F_X9_enter (o) (2 : Int32) (-1 : Int32) I J).1 (F_X9_enter (o) (2 : Int32) (-1 : Int32) I J).2) ((G_X9_writeLog o a0 kfu) 85 a0 (F_X9_enter (o) (3 : Int32) (-1 : Int32) (F_X9_enter (o) (2 : Int32) (-1 : Int32) I J).1 (F_X9_enter (o) (2 : Int32) (-1 : Int32) I J).2).1 (F_X9_enter (o) (3 : Int32) (-1 : Int32) (F_X9_enter (o) (2 : Int32) (-1 : Int32) I J).1 (F_X9_enter (o) (2 : Int32) (-1 : Int32) I J).2).2) none)) none) (kif (pre_X9_enter (o) (1 : Int32) (-1 : Int32) I J) (kif (((F_X9_enter (o) (1 : Int32) (-1 : Int32) I J).1 6 o 16) = 0) ((G_X9_writeLog o a0 kfu) 85 a0 (F_X9_enter (o) (1 : Int32) (-1 : Int32) I J).1 (F_X9_enter (o) (1 : Int32) (-1 : Int32) I J).2) (kif (pre_X9_enter (o) (3 : Int32) (-1 : Int32) (F_X9_enter (o) (1 : Int32) (-1 : Int32) I J).1 (F_X9_enter (o) (1 : Int32) (-1 : Int32) I J).2) ((G_X9_writeLog o a0 kfu) 85 a0 (F_X9_enter (o) (3 : Int32) (-1 : Int32) (F_X9_enter (o) (1 : Int32) (-1 : Int32) I J).1 (F_X9_enter (o) (1 : Int32) (-1 : Int32) I J).2).1 (F_X9_enter (o) (3 : Int32) (-1 : Int32) (F_X9_enter (o) (1 : Int32) (-1 : Int32) I J).1 (F_X9_enter (o) (1 : Int32) (-1 : Int32) I J).2).2) none)) none)))) (kif ((I 6 o 13) = 0) (kif ((I 6 o 15) = 0) (some (I, J)) (kif ((I 6 o 13) = 0) (kif ((I 6 o 16) = 0) ((G_X9_writeLog o a0 kfu) 85 a0 I J) (kif (pre_X9_enter (o) (3 : Int32) (-1 : Int32) I J) ((G_X9_writeLog o a0 kfu) 85 a0 (F_X9_enter (o) (3 : Int32) (-1 : Int32) I J).1 (F_X9_enter (o) (3 : Int32) (-1 : Int32) I J).2) none)) (kif ((I 6 o 10) = 0) (kif (pre_X9_enter (o) (2 : Int32) (-1 : Int32) I J) (kif (((F_X9_enter (o) (2 : Int32) (-1 : Int32) I J).1 6 o 16) = 0) ((G_X9_writeLog o a0 kfu) 85 a0 (F_X9_enter (o) (2 : Int32) (-1 : Int32) I J).1 (F_X9_enter (o) (2 : Int32) (-1 : Int32) I J).2) (kif (pre_X9_enter (o) (3 : Int32) (-1 : Int32) (F_X9_enter (o) (2 : Int32) (-1 : Int32) I J).1 (F_X9_enter (o) (2 : Int32) (-1 : Int32) I J).2) ((G_X9_writeLog o a0 kfu) 85 a0 (F_X9_enter (o) (3 : Int32) (-1 : Int32) (F_X9_enter (o) (2 : Int32) (-1 : Int32) I J).1 (F_X9_enter (o) (2 : Int32) (-1 : Int32) I J).2).1 (F_X9_enter (o) (3 : Int32) (-1 : Int32) (F_X9_enter (o) (2 : Int32) (-1 : Int32) I J).1 (F_X9_enter (o) (2 : Int32) (-1 : Int32) I J).2).2) none)) none) (kif (pre_X9_enter (o) (1 : Int32) (-1 : Int32) I J) (kif (((F_X9_enter (o) (1 : Int32) (-1 : Int32) I J).1 6 o 16) = 0) ((G_X9_writeLog o a0 kfu) 85 a0 (F_X9_enter (o) (1 : Int32) (-1 : Int32) I J).1 (F_X9_enter (o) (1 : Int32) (-1 : Int32) I J).2) (kif (pre_X9_enter (o) (3 : Int32) (-1 : Int32) (F_X9_enter (o) (1 : Int32) (-1 : Int32) I J).1 (F_X9_enter (o) (1 : Int32) (-1 : Int32) I J).2) ((G_X9_writeLog o a0 kfu) 85 a0 (F_X9_enter (o) (3 : Int32) (-1 : Int32) (F_X9_enter (o) (1 : Int32) (-1 : Int32) I J).1 (F_X9_enter (o) (1 : Int32) (-1 : Int32) I J).2).1 (F_X9_enter (o) (3 : Int32) (-1 : Int32) (F_X9_enter (o) (1 : Int32) (-1 : Int32) I J).1 (F_X9_enter (o) (1 : Int32) (-1 : Int32) I J).2).2) none)) none)))) (kif (pre_X9_enter (o) (1 : Int32) (-1 : Int32) I J) (kif (((F_X9_enter (o) (1 : Int32) (-1 : Int32) I J).1 6 o 15) = 0) (some ((F_X9_enter (o) (1 : Int32) (-1 : Int32) I J).1, (F_X9_enter (o) (1 : Int32) (-1 : Int32) I J).2)) (kif (((F_X9_enter (o) (1 : Int32) (-1 : Int32) I J).1 6 o 13) = 0) (kif (((F_X9_enter (o) (1 : Int32) (-1 : Int32) I J).1 6 o 16) = 0) ((G_X9_writeLog o a0 kfu) 85 a0 (F_X9_enter (o) (1 : Int32) (-1 : Int32) I J).1 (F_X9_enter (o) (1 : Int32) (-1 : Int32) I J).2) (kif (pre_X9_enter (o) (3 : Int32) (-1 : Int32) (F_X9_enter (o) (1 : Int32) (-1 : Int32) I J).1 (F_X9_enter (o) (1 : Int32) (-1 : Int32) I J).2) ((G_X9_writeLog o a0 kfu) 85 a0 (F_X9_enter (o) (3 : Int32) (-1 : Int32) (F_X9_enter (o) (1 : Int32) (-1 : Int32) I J).1 (F_X9_enter (o) (1 : Int32) (-1 : Int32) I J).2).1 (F_X9_enter (o) (3 : Int32) (-1 : Int32) (F_X9_enter (o) (1 : Int32) (-1 : Int32) I J).1 (F_X9_enter (o) (1 : Int32) (-1 : Int32) I J).2).2) none)) (kif (((F_X9_enter (o) (1 : Int32) (-1 : Int32) I J).1 6 o 10) = 0) (kif (pre_X9_enter (o) (2 : Int32) (-1 : Int32) (F_X9_enter (o) (1 : Int32) (-1 : Int32) I J).1 (F_X9_enter (o) (1 : Int32) (-1 : Int32) I J).2) (kif (((F_X9_enter (o) (2 : Int32) (-1 : Int32) (F_X9_enter (o) (1 : Int32) (-1 : Int32) I J).1 (F_X9_enter (o) (1 : Int32) (-1 : Int32) I J).2).1 6 o 16) = 0) ((G_X9_writeLog o a0 kfu) 85 a0 (F_X9_enter (o) (2 : Int32) (-1 : Int32) (F_X9_enter (o) (1 : Int32) (-1 : Int32) I J).1 (F_X9_enter (o) (1 : Int32) (-1 : Int32) I J).2).1 (F_X9_enter (o) (2 : Int32) (-1 : Int32) (F_X9_enter (o) (1 : Int32) (-1 : Int32) I J).1 (F_X9_enter (o) (1 : Int32) (-1 : Int32) I J).2).2) (kif (pre_X9_enter (o) (3 : Int32) (-1 : Int32) (F_X9_enter (o) (2 : Int32) (-1 : Int32) (F_X9_enter (o) (1 : Int32) (-1 : Int32) I J).1 (F_X9_enter (o) (1 : Int32) (-1 : Int32) I J).2).1 (F_X9_enter (o) (2 : Int32) (-1 : Int32) (F_X9_enter (o) (1 : Int32) (-1 : Int32) I J).1 (F_X9_enter (o) (1 : Int32) (-1 : Int32) I J).2).2) ((G_X9_writeLog o a0 kfu) 85 a0 (F_X9_enter (o) (3 : Int32) (-1 : Int32) (F_X9_enter (o) (2 : Int32) (-1 : Int32) (F_X9_enter (o) (1 : Int32) (-1 : Int32) I J).1 (F_X9_enter (o) (1 : Int32) (-1 : Int32) I J).2).1 (F_X9_enter (o) (2 : Int32) (-1 : Int32) (F_X9_enter (o) (1 : Int32) (-1 : Int32) I J).1 (F_X9_enter (o) (1 : Int32) (-1 : Int32) I J).2).2).1 (F_X9_enter (o) (3 : Int32) (-1 : Int32) (F_X9_enter (o) (2 : Int32) (-1 : Int32) (F_X9_enter (o) (1 : Int32) (-1 : Int32) I J).1 (F_X9_enter (o) (1 : Int32) (-1 : Int32) I J).2).1 (F_X9_enter (o) (2 : Int32) (-1 : Int32) (F_X9_enter (o) (1 : Int32) (-1 : Int32) I J).1 (F_X9_enter (o) (1 : Int32) (-1 : Int32) I J).2).2).2) none)) none) (kif (pre_X9_enter (o) (1 : Int32) (-1 : Int32) (F_X9_enter (o) (1 : Int32) (-1 : Int32) I J).1 (F_X9_enter (o) (1 : Int32) (-1 : Int32) I J).2) (kif (((F_X9_enter (o) (1 : Int32) (-1 : Int32) (F_X9_enter (o) (1 : Int32) (-1 : Int32) I J).1 (F_X9_enter (o) (1 : Int32) (-1 : Int32) I J).2).1 6 o 16) = 0) ((G_X9_writeLog o a0 kfu) 85 a0 (F_X9_enter (o) (1 : Int32) (-1 : Int32) (F_X9_enter (o) (1 : Int32) (-1 : Int32) I J).1 (F_X9_enter (o) (1 : Int32) (-1 : Int32) I J).2).1 (F_X9_enter (o) (1 : Int32) (-1 : Int32) (F_X9_enter (o) (1 : Int32) (-1 : Int32) I J).1 (F_X9_enter (o) (1 : Int32) (-1 : Int32) I J).2).2) (kif (pre_X9_enter (o) (3 : Int32) (-1 : Int32) (F_X9_enter (o) (1 : Int32) (-1 : Int32) (F_X9_enter (o) (1 : Int32) (-1 : Int32) I J).1 (F_X9_enter (o) (1 : Int32) (-1 : Int32) I J).2).1 (F_X9_enter (o) (1 : Int32) (-1 : Int32) (F_X9_enter (o) (1 : Int32) (-1 : Int32) I J).1 (F_X9_enter (o) (1 : Int32) (-1 : Int32) I J).2).2) ((G_X9_writeLog o a0 kfu) 85 a0 (F_X9_enter (o) (3 : Int32) (-1 : Int32) (F_X9_enter (o) (1 : Int32) (-1 : Int32) (F_X9_enter (o) (1 : Int32) (-1 : Int32) I J).1 (F_X9_enter (o) (1 : Int32) (-1 : Int32) I J).2).1 (F_X9_enter (o) (1 : Int32) (-1 : Int32) (F_X9_enter (o) (1 : Int32) (-1 : Int32) I J).1 (F_X9_enter (o) (1 : Int32) (-1 : Int32) I J).2).2).1 (F_X9_enter (o) (3 : Int32) (-1 : Int32) (F_X9_enter (o) (1 : Int32) (-1 : Int32) (F_X9_enter (o) (1 : Int32) (-1 : Int32) I J).1 (F_X9_enter (o) (1 : Int32) (-1 : Int32) I J).2).1 (F_X9_enter (o) (1 : Int32) (-1 : Int32) (F_X9_enter (o) (1 : Int32) (-1 : Int32) I J).1 (F_X9_enter (o) (1 : Int32) (-1 : Int32) I J).2).2).2) none)) none)))) none))) none)
set_option maxRecDepth 100000 in
set_option maxHeartbeats 4000000 in
theorem cl_X9_writeLog (o : Nat) (a0 : Int32) : ∀ n : Nat, (∀ (v2 : Int32) (x1 x3 : Option kx_V) (I : kI) (J : kJ) (q : kI × kJ), G_X9_writeLog o a0 n 85 v2 I J = some q → kx_Run tb_X9_writeLog (kx_NC, fun r' S'' => r' = none ∧ S'' = (q.1, q.2, none)) 85 [some (kx_r 9 (o)), x1, some (kx_i v2), x3] [] (I, J, none)) := by
  intro n
  induction n with
  | zero => (intros; rename_i h; have h2 : (none : Option _) = some _ := h; cases h2)
  | succ n ih =>
    intro v2 x1 x3  I J q hG
    rw [G_X9_writeLog_85] at hG
    refine kx_start [85] 74 ?_
    refine ⟨fun h1 => ?_, fun h1 => ?_⟩
    · replace h1 : (I 2 o 5) ≤ v2 := h1
      rw [kif_pos h1] at hG
      replace hG := Option.some.inj hG
      subst hG
      exact ⟨rfl, rfl⟩
    · replace h1 : ¬ (I 2 o 5) ≤ v2 := h1
      rw [kif_neg h1] at hG
      obtain ⟨hq, hG⟩ := kif_some hG
      refine ⟨_, _, cs_X2_isPlaceOf (o) (I 6 o 4) v2 I J hq, rfl, ?_⟩
      refine ⟨fun h2 => ?_, fun h2 => ?_⟩
      · replace h2 : (F_X2_isPlaceOf (o) (I 6 o 4) v2 I J) = 0 := h2
        rw [kif_pos h2] at hG
        replace hG := Option.some.inj hG
        subst hG
        exact ⟨rfl, rfl⟩
      · replace h2 : ¬ (F_X2_isPlaceOf (o) (I 6 o 4) v2 I J) = 0 := h2
        rw [kif_neg h2] at hG
        obtain ⟨hq, hG⟩ := kif_some hG
        refine ⟨_, _, cs_X2_shipInPlace (o) v2 I J hq, rfl, ?_⟩
        obtain ⟨hq, hG⟩ := kif_some hG
        refine ⟨_, _, cs_X2_fateOf (o) (F_X2_shipInPlace (o) v2 I J) I J hq, rfl, ?_⟩
        obtain ⟨hq, hG⟩ := kif_some hG
        refine ⟨_, _, cs_X9_enter (o) ((4 : Int32) + (F_X2_fateOf (o) (F_X2_shipInPlace (o) v2 I J) I J)) (F_X2_shipInPlace (o) v2 I J) I J hq, rfl, ?_⟩
        exact (ih) _ _ _ _ _ q hG
set_option maxRecDepth 100000 in
set_option maxHeartbeats 4000000 in
theorem cs_X9_writeLog (o : Nat) (a0 : Int32) (I : kI) (J : kJ) (q : kI × kJ) (hG : E_X9_writeLog o a0 I J = some q) : sp_X9_writeLog [kx_r 9 o, kx_i a0] (I, J, none) (none) (q.1, q.2, none) := by
  unfold E_X9_writeLog at hG
  refine kx_start [85] 74 ?_
  obtain ⟨hq, hG⟩ := kif_some hG
  refine ⟨_, _, cs_X6_isBoyAsleepOnWatch (o) I J hq, rfl, ?_⟩
  refine ⟨fun h1 => ?_, fun h1 => ?_⟩
  · replace h1 : (F_X6_isBoyAsleepOnWatch (o) I J) = 0 := h1
    rw [kif_pos h1] at hG
    refine ⟨fun h2 => ?_, fun h2 => ?_⟩
    · replace h2 : ¬ (I 6 o 15) = 0 := h2
      rw [kif_neg h2] at hG
      refine ⟨fun h3 => ?_, fun h3 => ?_⟩
      · replace h3 : (I 6 o 13) = 0 := h3
        rw [kif_pos h3] at hG
        refine ⟨fun h4 => ?_, fun h4 => ?_⟩
        · replace h4 : (I 6 o 16) = 0 := h4
          rw [kif_pos h4] at hG
          exact ((cl_X9_writeLog o a0 kfu)) _ _ _ _ _ q hG
        · replace h4 : ¬ (I 6 o 16) = 0 := h4
          rw [kif_neg h4] at hG
          obtain ⟨hq, hG⟩ := kif_some hG
          refine ⟨_, _, cs_X9_enter (o) (3 : Int32) (-1 : Int32) I J hq, rfl, ?_⟩
          exact ((cl_X9_writeLog o a0 kfu)) _ _ _ _ _ q hG
      · replace h3 : ¬ (I 6 o 13) = 0 := h3
        rw [kif_neg h3] at hG
        refine ⟨fun h5 => ?_, fun h5 => ?_⟩
        · replace h5 : (I 6 o 10) = 0 := h5
          rw [kif_pos h5] at hG
          obtain ⟨hq, hG⟩ := kif_some hG
          refine ⟨_, _, cs_X9_enter (o) (2 : Int32) (-1 : Int32) I J hq, rfl, ?_⟩
          refine ⟨fun h6 => ?_, fun h6 => ?_⟩
          · replace h6 : ((F_X9_enter (o) (2 : Int32) (-1 : Int32) I J).1 6 o 16) = 0 := h6
            rw [kif_pos h6] at hG
            exact ((cl_X9_writeLog o a0 kfu)) _ _ _ _ _ q hG
          · replace h6 : ¬ ((F_X9_enter (o) (2 : Int32) (-1 : Int32) I J).1 6 o 16) = 0 := h6
            rw [kif_neg h6] at hG
            obtain ⟨hq, hG⟩ := kif_some hG
            refine ⟨_, _, cs_X9_enter (o) (3 : Int32) (-1 : Int32) (F_X9_enter (o) (2 : Int32) (-1 : Int32) I J).1 (F_X9_enter (o) (2 : Int32) (-1 : Int32) I J).2 hq, rfl, ?_⟩
            exact ((cl_X9_writeLog o a0 kfu)) _ _ _ _ _ q hG
        · replace h5 : ¬ (I 6 o 10) = 0 := h5
          rw [kif_neg h5] at hG
          obtain ⟨hq, hG⟩ := kif_some hG
          refine ⟨_, _, cs_X9_enter (o) (1 : Int32) (-1 : Int32) I J hq, rfl, ?_⟩
          refine ⟨fun h7 => ?_, fun h7 => ?_⟩
          · replace h7 : ((F_X9_enter (o) (1 : Int32) (-1 : Int32) I J).1 6 o 16) = 0 := h7
            rw [kif_pos h7] at hG
            exact ((cl_X9_writeLog o a0 kfu)) _ _ _ _ _ q hG
          · replace h7 : ¬ ((F_X9_enter (o) (1 : Int32) (-1 : Int32) I J).1 6 o 16) = 0 := h7
            rw [kif_neg h7] at hG
            obtain ⟨hq, hG⟩ := kif_some hG
            refine ⟨_, _, cs_X9_enter (o) (3 : Int32) (-1 : Int32) (F_X9_enter (o) (1 : Int32) (-1 : Int32) I J).1 (F_X9_enter (o) (1 : Int32) (-1 : Int32) I J).2 hq, rfl, ?_⟩
            exact ((cl_X9_writeLog o a0 kfu)) _ _ _ _ _ q hG
    · replace h2 : (I 6 o 15) = 0 := h2
      rw [kif_pos h2] at hG
      replace hG := Option.some.inj hG
      subst hG
      exact ⟨rfl, rfl⟩
  · replace h1 : ¬ (F_X6_isBoyAsleepOnWatch (o) I J) = 0 := h1
    rw [kif_neg h1] at hG
    refine ⟨fun h8 => ?_, fun h8 => ?_⟩
    · replace h8 : (I 6 o 13) = 0 := h8
      rw [kif_pos h8] at hG
      refine ⟨fun h9 => ?_, fun h9 => ?_⟩
      · replace h9 : ¬ (I 6 o 15) = 0 := h9
        rw [kif_neg h9] at hG
        refine ⟨fun h10 => ?_, fun h10 => ?_⟩
        · replace h10 : (I 6 o 13) = 0 := h10
          rw [kif_pos h10] at hG
          refine ⟨fun h11 => ?_, fun h11 => ?_⟩
          · replace h11 : (I 6 o 16) = 0 := h11
            rw [kif_pos h11] at hG
            exact ((cl_X9_writeLog o a0 kfu)) _ _ _ _ _ q hG
          · replace h11 : ¬ (I 6 o 16) = 0 := h11
            rw [kif_neg h11] at hG
            obtain ⟨hq, hG⟩ := kif_some hG
            refine ⟨_, _, cs_X9_enter (o) (3 : Int32) (-1 : Int32) I J hq, rfl, ?_⟩
            exact ((cl_X9_writeLog o a0 kfu)) _ _ _ _ _ q hG
        · replace h10 : ¬ (I 6 o 13) = 0 := h10
          rw [kif_neg h10] at hG
          refine ⟨fun h12 => ?_, fun h12 => ?_⟩
          · replace h12 : (I 6 o 10) = 0 := h12
            rw [kif_pos h12] at hG
            obtain ⟨hq, hG⟩ := kif_some hG
            refine ⟨_, _, cs_X9_enter (o) (2 : Int32) (-1 : Int32) I J hq, rfl, ?_⟩
            refine ⟨fun h13 => ?_, fun h13 => ?_⟩
            · replace h13 : ((F_X9_enter (o) (2 : Int32) (-1 : Int32) I J).1 6 o 16) = 0 := h13
              rw [kif_pos h13] at hG
              exact ((cl_X9_writeLog o a0 kfu)) _ _ _ _ _ q hG
            · replace h13 : ¬ ((F_X9_enter (o) (2 : Int32) (-1 : Int32) I J).1 6 o 16) = 0 := h13
              rw [kif_neg h13] at hG
              obtain ⟨hq, hG⟩ := kif_some hG
              refine ⟨_, _, cs_X9_enter (o) (3 : Int32) (-1 : Int32) (F_X9_enter (o) (2 : Int32) (-1 : Int32) I J).1 (F_X9_enter (o) (2 : Int32) (-1 : Int32) I J).2 hq, rfl, ?_⟩
              exact ((cl_X9_writeLog o a0 kfu)) _ _ _ _ _ q hG
          · replace h12 : ¬ (I 6 o 10) = 0 := h12
            rw [kif_neg h12] at hG
            obtain ⟨hq, hG⟩ := kif_some hG
            refine ⟨_, _, cs_X9_enter (o) (1 : Int32) (-1 : Int32) I J hq, rfl, ?_⟩
            refine ⟨fun h14 => ?_, fun h14 => ?_⟩
            · replace h14 : ((F_X9_enter (o) (1 : Int32) (-1 : Int32) I J).1 6 o 16) = 0 := h14
              rw [kif_pos h14] at hG
              exact ((cl_X9_writeLog o a0 kfu)) _ _ _ _ _ q hG
            · replace h14 : ¬ ((F_X9_enter (o) (1 : Int32) (-1 : Int32) I J).1 6 o 16) = 0 := h14
              rw [kif_neg h14] at hG
              obtain ⟨hq, hG⟩ := kif_some hG
              refine ⟨_, _, cs_X9_enter (o) (3 : Int32) (-1 : Int32) (F_X9_enter (o) (1 : Int32) (-1 : Int32) I J).1 (F_X9_enter (o) (1 : Int32) (-1 : Int32) I J).2 hq, rfl, ?_⟩
              exact ((cl_X9_writeLog o a0 kfu)) _ _ _ _ _ q hG
      · replace h9 : (I 6 o 15) = 0 := h9
        rw [kif_pos h9] at hG
        replace hG := Option.some.inj hG
        subst hG
        exact ⟨rfl, rfl⟩
    · replace h8 : ¬ (I 6 o 13) = 0 := h8
      rw [kif_neg h8] at hG
      obtain ⟨hq, hG⟩ := kif_some hG
      refine ⟨_, _, cs_X9_enter (o) (1 : Int32) (-1 : Int32) I J hq, rfl, ?_⟩
      refine ⟨fun h15 => ?_, fun h15 => ?_⟩
      · replace h15 : ¬ ((F_X9_enter (o) (1 : Int32) (-1 : Int32) I J).1 6 o 15) = 0 := h15
        rw [kif_neg h15] at hG
        refine ⟨fun h16 => ?_, fun h16 => ?_⟩
        · replace h16 : ((F_X9_enter (o) (1 : Int32) (-1 : Int32) I J).1 6 o 13) = 0 := h16
          rw [kif_pos h16] at hG
          refine ⟨fun h17 => ?_, fun h17 => ?_⟩
          · replace h17 : ((F_X9_enter (o) (1 : Int32) (-1 : Int32) I J).1 6 o 16) = 0 := h17
            rw [kif_pos h17] at hG
            exact ((cl_X9_writeLog o a0 kfu)) _ _ _ _ _ q hG
          · replace h17 : ¬ ((F_X9_enter (o) (1 : Int32) (-1 : Int32) I J).1 6 o 16) = 0 := h17
            rw [kif_neg h17] at hG
            obtain ⟨hq, hG⟩ := kif_some hG
            refine ⟨_, _, cs_X9_enter (o) (3 : Int32) (-1 : Int32) (F_X9_enter (o) (1 : Int32) (-1 : Int32) I J).1 (F_X9_enter (o) (1 : Int32) (-1 : Int32) I J).2 hq, rfl, ?_⟩
            exact ((cl_X9_writeLog o a0 kfu)) _ _ _ _ _ q hG
        · replace h16 : ¬ ((F_X9_enter (o) (1 : Int32) (-1 : Int32) I J).1 6 o 13) = 0 := h16
          rw [kif_neg h16] at hG
          refine ⟨fun h18 => ?_, fun h18 => ?_⟩
          · replace h18 : ((F_X9_enter (o) (1 : Int32) (-1 : Int32) I J).1 6 o 10) = 0 := h18
            rw [kif_pos h18] at hG
            obtain ⟨hq, hG⟩ := kif_some hG
            refine ⟨_, _, cs_X9_enter (o) (2 : Int32) (-1 : Int32) (F_X9_enter (o) (1 : Int32) (-1 : Int32) I J).1 (F_X9_enter (o) (1 : Int32) (-1 : Int32) I J).2 hq, rfl, ?_⟩
            refine ⟨fun h19 => ?_, fun h19 => ?_⟩
            · replace h19 : ((F_X9_enter (o) (2 : Int32) (-1 : Int32) (F_X9_enter (o) (1 : Int32) (-1 : Int32) I J).1 (F_X9_enter (o) (1 : Int32) (-1 : Int32) I J).2).1 6 o 16) = 0 := h19
              rw [kif_pos h19] at hG
              exact ((cl_X9_writeLog o a0 kfu)) _ _ _ _ _ q hG
            · replace h19 : ¬ ((F_X9_enter (o) (2 : Int32) (-1 : Int32) (F_X9_enter (o) (1 : Int32) (-1 : Int32) I J).1 (F_X9_enter (o) (1 : Int32) (-1 : Int32) I J).2).1 6 o 16) = 0 := h19
              rw [kif_neg h19] at hG
              obtain ⟨hq, hG⟩ := kif_some hG
              refine ⟨_, _, cs_X9_enter (o) (3 : Int32) (-1 : Int32) (F_X9_enter (o) (2 : Int32) (-1 : Int32) (F_X9_enter (o) (1 : Int32) (-1 : Int32) I J).1 (F_X9_enter (o) (1 : Int32) (-1 : Int32) I J).2).1 (F_X9_enter (o) (2 : Int32) (-1 : Int32) (F_X9_enter (o) (1 : Int32) (-1 : Int32) I J).1 (F_X9_enter (o) (1 : Int32) (-1 : Int32) I J).2).2 hq, rfl, ?_⟩
              exact ((cl_X9_writeLog o a0 kfu)) _ _ _ _ _ q hG
          · replace h18 : ¬ ((F_X9_enter (o) (1 : Int32) (-1 : Int32) I J).1 6 o 10) = 0 := h18
            rw [kif_neg h18] at hG
            obtain ⟨hq, hG⟩ := kif_some hG
            refine ⟨_, _, cs_X9_enter (o) (1 : Int32) (-1 : Int32) (F_X9_enter (o) (1 : Int32) (-1 : Int32) I J).1 (F_X9_enter (o) (1 : Int32) (-1 : Int32) I J).2 hq, rfl, ?_⟩
            refine ⟨fun h20 => ?_, fun h20 => ?_⟩
            · replace h20 : ((F_X9_enter (o) (1 : Int32) (-1 : Int32) (F_X9_enter (o) (1 : Int32) (-1 : Int32) I J).1 (F_X9_enter (o) (1 : Int32) (-1 : Int32) I J).2).1 6 o 16) = 0 := h20
              rw [kif_pos h20] at hG
              exact ((cl_X9_writeLog o a0 kfu)) _ _ _ _ _ q hG
            · replace h20 : ¬ ((F_X9_enter (o) (1 : Int32) (-1 : Int32) (F_X9_enter (o) (1 : Int32) (-1 : Int32) I J).1 (F_X9_enter (o) (1 : Int32) (-1 : Int32) I J).2).1 6 o 16) = 0 := h20
              rw [kif_neg h20] at hG
              obtain ⟨hq, hG⟩ := kif_some hG
              refine ⟨_, _, cs_X9_enter (o) (3 : Int32) (-1 : Int32) (F_X9_enter (o) (1 : Int32) (-1 : Int32) (F_X9_enter (o) (1 : Int32) (-1 : Int32) I J).1 (F_X9_enter (o) (1 : Int32) (-1 : Int32) I J).2).1 (F_X9_enter (o) (1 : Int32) (-1 : Int32) (F_X9_enter (o) (1 : Int32) (-1 : Int32) I J).1 (F_X9_enter (o) (1 : Int32) (-1 : Int32) I J).2).2 hq, rfl, ?_⟩
              exact ((cl_X9_writeLog o a0 kfu)) _ _ _ _ _ q hG
      · replace h15 : ((F_X9_enter (o) (1 : Int32) (-1 : Int32) I J).1 6 o 15) = 0 := h15
        rw [kif_pos h15] at hG
        replace hG := Option.some.inj hG
        subst hG
        exact ⟨rfl, rfl⟩

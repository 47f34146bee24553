noncomputable def G_X11_rankedAt (a0 : Int32) (a1 : Int32) : Nat → Nat → Int32 → Int32 → Int32 → kI → kJ → Option (Int32)
  | 0, _, _, _, _, _, _ => none
  | n + 1, pc, v3, v4, v5, I, J => (bif Nat.beq pc 6 then (kif (v4 < (3 : Int32)) (some (-1 : Int32)) ((G_X11_rankedAt a0 a1 n) 15 v3 v4 (0 : Int32) I J)) else (bif Nat.beq pc 15 then (kif (vp_in (14 : Int32) 2509) (kif ((I 41 0 ((14 : Int32)).toNatClampNeg) ≤ v5) ((G_X11_rankedAt a0 a1 n) 6 v3 (v4 + (-1)) 0 I J) (kif (pre_X11_ofShip v5 (1 : Int32) I J) (kif ((F_X11_ofShip v5 (1 : Int32) I J) = a0) (kif (pre_X11_ofShip v5 (0 : Int32) I J) (kif ((F_X11_ofShip v5 (0 : Int32) I J) = v4) (kif (v3 = a1) (some v5) ((G_X11_rankedAt a0 a1 n) 15 (v3 + (1)) v4 (v5 + (1)) I J)) ((G_X11_rankedAt a0 a1 n) 15 v3 v4 (v5 + (1)) I J)) none) ((G_X11_rankedAt a0 a1 n) 15 v3 v4 (v5 + (1)) I J)) none)) none) else none))
theorem G_X11_rankedAt_6 (a0 : Int32) (a1 : Int32) (n : Nat) (v3 : Int32) (v4 : Int32) (v5 : Int32) (I : kI) (J : kJ) : G_X11_rankedAt a0 a1 (n + 1) 6 v3 v4 v5 I J = (kif (v4 < (3 : Int32)) (some (-1 : Int32)) ((G_X11_rankedAt a0 a1 n) 15 v3 v4 (0 : Int32) I J)) := rfl
theorem G_X11_rankedAt_15 (a0 : Int32) (a1 : Int32) (n : Nat) (v3 : Int32) (v4 : Int32) (v5 : Int32) (I : kI) (J : kJ) : G_X11_rankedAt a0 a1 (n + 1) 15 v3 v4 v5 I J = (kif (vp_in (14 : Int32) 2509) (kif ((I 41 0 ((14 : Int32)).toNatClampNeg) ≤ v5) ((G_X11_rankedAt a0 a1 n) 6 v3 (v4 + (-1)) 0 I J) (kif (pre_X11_ofShip v5 (1 : Int32) I J) (kif ((F_X11_ofShip v5 (1 : Int32) I J) = a0) (kif (pre_X11_ofShip v5 (0 : Int32) I J) (kif ((F_X11_ofShip v5 (0 : Int32) I J) = v4) (kif (v3 = a1) (some v5) ((G_X11_rankedAt a0 a1 n) 15 (v3 + (1)) v4 (v5 + (1)) I J)) ((G_X11_rankedAt a0 a1 n) 15 v3 v4 (v5 + (1)) I J)) none) ((G_X11_rankedAt a0 a1 n) 15 v3 v4 (v5 + (1)) I J)) none)) none) := rfl
noncomputable def E_X11_rankedAt (a0 : Int32) (a1 : Int32) (I : kI) (J : kJ) : Option (Int32) := ((G_X11_rankedAt a0 a1 kfu) 6 (0 : Int32) (7 : Int32) 0 I J)
set_option maxRecDepth 100000 in
set_option maxHeartbeats 4000000 in
theorem cl_X11_rankedAt (a0 : Int32) (a1 : Int32) (I0 : kI) (J0 : kJ) : ∀ n : Nat, (∀ (v3 : Int32) (v4 : Int32) (v5 : Int32) (x5 : Option kx_V) (I : kI) (J : kJ) (q : Int32), I = I0 → J = J0 → G_X11_rankedAt a0 a1 n 6 v3 v4 v5 I J = some q → kx_Run tb_X11_rankedAt (kx_NC, fun r' S'' => r' = some (kx_i q) ∧ S'' = (I0, J0, none)) 6 [some (kx_r 11 (0)), some (kx_i a0), some (kx_i a1), some (kx_i v3), some (kx_i v4), x5] [] (I, J, none)) ∧ (∀ (v3 : Int32) (v4 : Int32) (v5 : Int32) (I : kI) (J : kJ) (q : Int32), I = I0 → J = J0 → G_X11_rankedAt a0 a1 n 15 v3 v4 v5 I J = some q → kx_Run tb_X11_rankedAt (kx_NC, fun r' S'' => r' = some (kx_i q) ∧ S'' = (I0, J0, none)) 15 [some (kx_r 11 (0)), some (kx_i a0), some (kx_i a1), some (kx_i v3), some (kx_i v4), some (kx_i v5)] [] (I, J, none)) := by
  intro n
  induction n with
  | zero => refine ⟨?_, ?_⟩ <;> (intros; rename_i h; have h2 : (none : Option _) = some _ := h; cases h2)
  | succ n ih =>
    refine ⟨?_, ?_⟩
    · intro v3 v4 v5 x5  I J q hI0 hJ0 hG
      subst hI0 hJ0
      rw [G_X11_rankedAt_6] at hG
      refine kx_start [6, 15] 42 ?_
      refine ⟨fun h1 => ?_, fun h1 => ?_⟩
      · replace h1 : v4 < (3 : Int32) := h1
        rw [kif_pos h1] at hG
        replace hG := Option.some.inj hG
        subst hG
        exact ⟨rfl, rfl⟩
      · replace h1 : ¬ v4 < (3 : Int32) := h1
        rw [kif_neg h1] at hG
        exact (ih.2) _ _ _ _ _ q rfl rfl hG
    · intro v3 v4 v5  I J q hI0 hJ0 hG
      subst hI0 hJ0
      rw [G_X11_rankedAt_15] at hG
      refine kx_start [6, 15] 42 ?_
      obtain ⟨hq, hG⟩ := kif_some hG
      refine ⟨hq, ?_⟩
      refine ⟨fun h2 => ?_, fun h2 => ?_⟩
      · replace h2 : (I 41 0 ((14 : Int32)).toNatClampNeg) ≤ v5 := h2
        rw [kif_pos h2] at hG
        exact (ih.1) _ _ _ _ _ _ q rfl rfl hG
      · replace h2 : ¬ (I 41 0 ((14 : Int32)).toNatClampNeg) ≤ v5 := h2
        rw [kif_neg h2] at hG
        obtain ⟨hq, hG⟩ := kif_some hG
        refine ⟨_, _, cs_X11_ofShip v5 (1 : Int32) I J hq, rfl, ?_⟩
        refine ⟨fun h3 => ?_, fun h3 => ?_⟩
        · replace h3 : ¬ (F_X11_ofShip v5 (1 : Int32) I J) = a0 := h3
          rw [kif_neg h3] at hG
          exact (ih.2) _ _ _ _ _ q rfl rfl hG
        · replace h3 : (F_X11_ofShip v5 (1 : Int32) I J) = a0 := h3
          rw [kif_pos h3] at hG
          obtain ⟨hq, hG⟩ := kif_some hG
          refine ⟨_, _, cs_X11_ofShip v5 (0 : Int32) I J hq, rfl, ?_⟩
          refine ⟨fun h4 => ?_, fun h4 => ?_⟩
          · replace h4 : ¬ (F_X11_ofShip v5 (0 : Int32) I J) = v4 := h4
            rw [kif_neg h4] at hG
            exact (ih.2) _ _ _ _ _ q rfl rfl hG
          · replace h4 : (F_X11_ofShip v5 (0 : Int32) I J) = v4 := h4
            rw [kif_pos h4] at hG
            refine ⟨fun h5 => ?_, fun h5 => ?_⟩
            · replace h5 : ¬ v3 = a1 := h5
              rw [kif_neg h5] at hG
              exact (ih.2) _ _ _ _ _ q rfl rfl hG
            · replace h5 : v3 = a1 := h5
              rw [kif_pos h5] at hG
              replace hG := Option.some.inj hG
              subst hG
              exact ⟨rfl, rfl⟩
set_option maxRecDepth 100000 in
set_option maxHeartbeats 4000000 in
theorem cs_X11_rankedAt (a0 : Int32) (a1 : Int32) (I : kI) (J : kJ) (q : Int32) (hG : E_X11_rankedAt a0 a1 I J = some q) : sp_X11_rankedAt [kx_r 11 0, kx_i a0, kx_i a1] (I, J, none) (some (kx_i q)) (I, J, none) := by
  unfold E_X11_rankedAt at hG
  refine kx_start [6, 15] 42 ?_
  exact ((cl_X11_rankedAt a0 a1 I J kfu).1) _ _ _ _ _ _ q rfl rfl hG
noncomputable def G_X11_passesShips (a0 : Int32) (a1 : Int32) (a2 : Int32) (a3 : Int32) : Nat → Nat → Int32 → Int32 → Int32 → Int32 → Int32 → Int32 → Int32 → Int32 → Int32 → kI → kJ → Option (kI × kJ)
  | 0, _, _, _, _, _, _, _, _, _, _, _, _ => none
  | n + 1, pc, v5, v6, v7, v8, v10, s0, s1, s2, s3, I, J => (bif Nat.beq pc 11 then (kbd (E_X11_rankedAt v5 v6 I J) (fun q1 => (kif (q1 < 0) (some (I, J)) (kbd (E_X11_rankedAt v5 v6 I J) (fun q2 => (kif (pre_X11_ofShip q2 (0 : Int32) I J) (kif (vp_in (6 : Int32) 2509) (kif ((I 41 0 ((6 : Int32)).toNatClampNeg) = (1 : Int32)) ((G_X11_passesShips a0 a1 a2 a3 n) 60 v5 v6 q2 (F_X11_ofShip q2 (0 : Int32) I J) 0 (F_X11_ofShip q2 (0 : Int32) I J) a0 (1 : Int32) 0 I J) ((G_X11_passesShips a0 a1 a2 a3 n) 60 v5 v6 q2 (F_X11_ofShip q2 (0 : Int32) I J) 0 (F_X11_ofShip q2 (0 : Int32) I J) a0 (0 : Int32) 0 I J)) none) none)))))) else (bif Nat.beq pc 60 then (kbd (E_X11_lacks s0 s1 s2 a1 a2 I J) (fun q1 => (kif (q1 = 0) ((G_X11_passesShips a0 a1 a2 a3 n) 100 v5 v6 v7 0 0 (0 : Int32) 0 0 0 I J) (kif (q1 = (1 : Int32)) (kif ((F_X11_isSmall v8 I J) = 0) (kif (a2 = (2 : Int32)) ((G_X11_passesShips a0 a1 a2 a3 n) 99 v5 v6 v7 0 0 0 0 0 0 I J) ((G_X11_passesShips a0 a1 a2 a3 n) 95 v5 v6 v7 0 0 0 0 0 0 I J)) ((G_X11_passesShips a0 a1 a2 a3 n) 95 v5 v6 v7 0 0 0 0 0 0 I J)) ((G_X11_passesShips a0 a1 a2 a3 n) 99 v5 v6 v7 0 0 0 0 0 0 I J))))) else (bif Nat.beq pc 95 then ((G_X11_passesShips a0 a1 a2 a3 n) 100 v5 v6 v7 0 0 (1 : Int32) 0 0 0 I J) else (bif Nat.beq pc 99 then ((G_X11_passesShips a0 a1 a2 a3 n) 100 v5 v6 v7 0 0 (2 : Int32) 0 0 0 I J) else (bif Nat.beq pc 100 then (kif (vp_in (((109 : Int32) + ((4 : Int32) * v7)) + (2 : Int32)) 2509) (kif (vp_in (6 : Int32) 2509) (kif (a1 = 0) ((G_X11_passesShips a0 a1 a2 a3 n) 147 v5 v6 v7 0 s0 0 (((109 : Int32) + ((4 : Int32) * v7)) + (3 : Int32)) ((kw I 41 0 ((((109 : Int32) + ((4 : Int32) * v7)) + (2 : Int32))).toNatClampNeg s0) 41 0 ((6 : Int32)).toNatClampNeg) (0 : Int32) (kw I 41 0 ((((109 : Int32) + ((4 : Int32) * v7)) + (2 : Int32))).toNatClampNeg s0) J) ((G_X11_passesShips a0 a1 a2 a3 n) 147 v5 v6 v7 0 s0 0 (((109 : Int32) + ((4 : Int32) * v7)) + (3 : Int32)) ((kw I 41 0 ((((109 : Int32) + ((4 : Int32) * v7)) + (2 : Int32))).toNatClampNeg s0) 41 0 ((6 : Int32)).toNatClampNeg) (2 : Int32) (kw I 41 0 ((((109 : Int32) + ((4 : Int32) * v7)) + (2 : Int32))).toNatClampNeg s0) J)) none) none) else (bif Nat.beq pc 147 then (kif (vp_in s1 2509) (kif (a3 < 0) ((G_X11_passesShips a0 a1 a2 a3 n) 166 v5 v6 0 0 0 0 0 0 0 (kw I 41 0 (s1).toNatClampNeg (s2 + s3)) J) (kif (pre_X11_logs ((4 : Int32) + v10) v7 a3 (kw I 41 0 (s1).toNatClampNeg (s2 + s3)) J) ((G_X11_passesShips a0 a1 a2 a3 n) 166 v5 v6 0 0 0 0 0 0 0 (F_X11_logs ((4 : Int32) + v10) v7 a3 (kw I 41 0 (s1).toNatClampNeg (s2 + s3)) J).1 (F_X11_logs ((4 : Int32) + v10) v7 a3 (kw I 41 0 (s1).toNatClampNeg (s2 + s3)) J).2) none)) none) else (bif Nat.beq pc 166 then ((G_X11_passesShips a0 a1 a2 a3 n) 11 v5 (v6 + (1)) 0 0 0 0 0 0 0 I J) else none)))))))
theorem G_X11_passesShips_11 (a0 : Int32) (a1 : Int32) (a2 : Int32) (a3 : Int32) (n : Nat) (v5 : Int32) (v6 : Int32) (v7 : Int32) (v8 : Int32) (v10 : Int32) (s0 : Int32) (s1 : Int32) (s2 : Int32) (s3 : Int32) (I : kI) (J : kJ) : G_X11_passesShips a0 a1 a2 a3 (n + 1) 11 v5 v6 v7 v8 v10 s0 s1 s2 s3 I J = (kbd (E_X11_rankedAt v5 v6 I J) (fun q1 => (kif (q1 < 0) (some (I, J)) (kbd (E_X11_rankedAt v5 v6 I J) (fun q2 => (kif (pre_X11_ofShip q2 (0 : Int32) I J) (kif (vp_in (6 : Int32) 2509) (kif ((I 41 0 ((6 : Int32)).toNatClampNeg) = (1 : Int32)) ((G_X11_passesShips a0 a1 a2 a3 n) 60 v5 v6 q2 (F_X11_ofShip q2 (0 : Int32) I J) 0 (F_X11_ofShip q2 (0 : Int32) I J) a0 (1 : Int32) 0 I J) ((G_X11_passesShips a0 a1 a2 a3 n) 60 v5 v6 q2 (F_X11_ofShip q2 (0 : Int32) I J) 0 (F_X11_ofShip q2 (0 : Int32) I J) a0 (0 : Int32) 0 I J)) none) none)))))) := rfl
theorem G_X11_passesShips_60 (a0 : Int32) (a1 : Int32) (a2 : Int32) (a3 : Int32) (n : Nat) (v5 : Int32) (v6 : Int32) (v7 : Int32) (v8 : Int32) (v10 : Int32) (s0 : Int32) (s1 : Int32) (s2 : Int32) (s3 : Int32) (I : kI) (J : kJ) : G_X11_passesShips a0 a1 a2 a3 (n + 1) 60 v5 v6 v7 v8 v10 s0 s1 s2 s3 I J = (kbd (E_X11_lacks s0 s1 s2 a1 a2 I J) (fun q1 => (kif (q1 = 0) ((G_X11_passesShips a0 a1 a2 a3 n) 100 v5 v6 v7 0 0 (0 : Int32) 0 0 0 I J) (kif (q1 = (1 : Int32)) (kif ((F_X11_isSmall v8 I J) = 0) (kif (a2 = (2 : Int32)) ((G_X11_passesShips a0 a1 a2 a3 n) 99 v5 v6 v7 0 0 0 0 0 0 I J) ((G_X11_passesShips a0 a1 a2 a3 n) 95 v5 v6 v7 0 0 0 0 0 0 I J)) ((G_X11_passesShips a0 a1 a2 a3 n) 95 v5 v6 v7 0 0 0 0 0 0 I J)) ((G_X11_passesShips a0 a1 a2 a3 n) 99 v5 v6 v7 0 0 0 0 0 0 I J))))) := rfl
theorem G_X11_passesShips_95 (a0 : Int32) (a1 : Int32) (a2 : Int32) (a3 : Int32) (n : Nat) (v5 : Int32) (v6 : Int32) (v7 : Int32) (v8 : Int32) (v10 : Int32) (s0 : Int32) (s1 : Int32) (s2 : Int32) (s3 : Int32) (I : kI) (J : kJ) : G_X11_passesShips a0 a1 a2 a3 (n + 1) 95 v5 v6 v7 v8 v10 s0 s1 s2 s3 I J = ((G_X11_passesShips a0 a1 a2 a3 n) 100 v5 v6 v7 0 0 (1 : Int32) 0 0 0 I J) := rfl
theorem G_X11_passesShips_99 (a0 : Int32) (a1 : Int32) (a2 : Int32) (a3 : Int32) (n : Nat) (v5 : Int32) (v6 : Int32) (v7 : Int32) (v8 : Int32) (v10 : Int32) (s0 : Int32) (s1 : Int32) (s2 : Int32) (s3 : Int32) (I : kI) (J : kJ) : G_X11_passesShips a0 a1 a2 a3 (n + 1) 99 v5 v6 v7 v8 v10 s0 s1 s2 s3 I J = ((G_X11_passesShips a0 a1 a2 a3 n) 100 v5 v6 v7 0 0 (2 : Int32) 0 0 0 I J) := rfl
theorem G_X11_passesShips_100 (a0 : Int32) (a1 : Int32) (a2 : Int32) (a3 : Int32) (n : Nat) (v5 : Int32) (v6 : Int32) (v7 : Int32) (v8 : Int32) (v10 : Int32) (s0 : Int32) (s1 : Int32) (s2 : Int32) (s3 : Int32) (I : kI) (J : kJ) : G_X11_passesShips a0 a1 a2 a3 (n + 1) 100 v5 v6 v7 v8 v10 s0 s1 s2 s3 I J = (kif (vp_in (((109 : Int32) + ((4 : Int32) * v7)) + (2 : Int32)) 2509) (kif (vp_in (6 : Int32) 2509) (kif (a1 = 0) ((G_X11_passesShips a0 a1 a2 a3 n) 147 v5 v6 v7 0 s0 0 (((109 : Int32) + ((4 : Int32) * v7)) + (3 : Int32)) ((kw I 41 0 ((((109 : Int32) + ((4 : Int32) * v7)) + (2 : Int32))).toNatClampNeg s0) 41 0 ((6 : Int32)).toNatClampNeg) (0 : Int32) (kw I 41 0 ((((109 : Int32) + ((4 : Int32) * v7)) + (2 : Int32))).toNatClampNeg s0) J) ((G_X11_passesShips a0 a1 a2 a3 n) 147 v5 v6 v7 0 s0 0 (((109 : Int32) + ((4 : Int32) * v7)) + (3 : Int32)) ((kw I 41 0 ((((109 : Int32) + ((4 : Int32) * v7)) + (2 : Int32))).toNatClampNeg s0) 41 0 ((6 : Int32)).toNatClampNeg) (2 : Int32) (kw I 41 0 ((((109 : Int32) + ((4 : Int32) * v7)) + (2 : Int32))).toNatClampNeg s0) J)) none) none) := rfl
theorem G_X11_passesShips_147 (a0 : Int32) (a1 : Int32) (a2 : Int32) (a3 : Int32) (n : Nat) (v5 : Int32) (v6 : Int32) (v7 : Int32) (v8 : Int32) (v10 : Int32) (s0 : Int32) (s1 : Int32) (s2 : Int32) (s3 : Int32) (I : kI) (J : kJ) : G_X11_passesShips a0 a1 a2 a3 (n + 1) 147 v5 v6 v7 v8 v10 s0 s1 s2 s3 I J = (kif (vp_in s1 2509) (kif (a3 < 0) ((G_X11_passesShips a0 a1 a2 a3 n) 166 v5 v6 0 0 0 0 0 0 0 (kw I 41 0 (s1).toNatClampNeg (s2 + s3)) J) (kif (pre_X11_logs ((4 : Int32) + v10) v7 a3 (kw I 41 0 (s1).toNatClampNeg (s2 + s3)) J) ((G_X11_passesShips a0 a1 a2 a3 n) 166 v5 v6 0 0 0 0 0 0 0 (F_X11_logs ((4 : Int32) + v10) v7 a3 (kw I 41 0 (s1).toNatClampNeg (s2 + s3)) J).1 (F_X11_logs ((4 : Int32) + v10) v7 a3 (kw I 41 0 (s1).toNatClampNeg (s2 + s3)) J).2) none)) none) := rfl
theorem G_X11_passesShips_166 (a0 : Int32) (a1 : Int32) (a2 : Int32) (a3 : Int32) (n : Nat) (v5 : Int32) (v6 : Int32) (v7 : Int32) (v8 : Int32) (v10 : Int32) (s0 : Int32) (s1 : Int32) (s2 : Int32) (s3 : Int32) (I : kI) (J : kJ) : G_X11_passesShips a0 a1 a2 a3 (n + 1) 166 v5 v6 v7 v8 v10 s0 s1 s2 s3 I J = ((G_X11_passesShips a0 a1 a2 a3 n) 11 v5 (v6 + (1)) 0 0 0 0 0 0 0 I J) := rfl
noncomputable def E_X11_passesShips (a0 : Int32) (a1 : Int32) (a2 : Int32) (a3 : Int32) (I : kI) (J : kJ) : Option (kI × kJ) := (kif (vp_in (0 : Int32) 2509) ((G_X11_passesShips a0 a1 a2 a3 kfu) 11 (I 41 0 ((0 : Int32)).toNatClampNeg) (0 : Int32) 0 0 0 0 0 0 0 I J) none)
set_option maxRecDepth 100000 in
set_option maxHeartbeats 4000000 in
theorem cl_X11_passesShips (a0 : Int32) (a1 : Int32) (a2 : Int32) (a3 : Int32) : ∀ n : Nat, (∀ (v5 : Int32) (v6 : Int32) (v7 : Int32) (v8 : Int32) (v10 : Int32) (s0 : Int32) (s1 : Int32) (s2 : Int32) (s3 : Int32) (x7 x8 x9 x10 : Option kx_V) (I : kI) (J : kJ) (q : kI × kJ), G_X11_passesShips a0 a1 a2 a3 n 11 v5 v6 v7 v8 v10 s0 s1 s2 s3 I J = some q → kx_Run tb_X11_passesShips (kx_NC, fun r' S'' => r' = none ∧ S'' = (q.1, q.2, none)) 11 [some (kx_r 11 (0)), some (kx_i a0), some (kx_i a1), some (kx_i a2), some (kx_i a3), some (kx_i v5), some (kx_i v6), x7, x8, x9, x10] [] (I, J, none)) ∧ (∀ (v5 : Int32) (v6 : Int32) (v7 : Int32) (v8 : Int32) (v10 : Int32) (s0 : Int32) (s1 : Int32) (s2 : Int32) (s3 : Int32) (x9 x10 : Option kx_V) (I : kI) (J : kJ) (q : kI × kJ), G_X11_passesShips a0 a1 a2 a3 n 60 v5 v6 v7 v8 v10 s0 s1 s2 s3 I J = some q → kx_Run tb_X11_passesShips (kx_NC, fun r' S'' => r' = none ∧ S'' = (q.1, q.2, none)) 60 [some (kx_r 11 (0)), some (kx_i a0), some (kx_i a1), some (kx_i a2), some (kx_i a3), some (kx_i v5), some (kx_i v6), some (kx_i v7), some (kx_i v8), x9, x10] [kx_i s2, kx_i s1, kx_i s0] (I, J, none)) ∧ (∀ (v5 : Int32) (v6 : Int32) (v7 : Int32) (v8 : Int32) (v10 : Int32) (s0 : Int32) (s1 : Int32) (s2 : Int32) (s3 : Int32) (x8 x9 x10 : Option kx_V) (I : kI) (J : kJ) (q : kI × kJ), G_X11_passesShips a0 a1 a2 a3 n 95 v5 v6 v7 v8 v10 s0 s1 s2 s3 I J = some q → kx_Run tb_X11_passesShips (kx_NC, fun r' S'' => r' = none ∧ S'' = (q.1, q.2, none)) 95 [some (kx_r 11 (0)), some (kx_i a0), some (kx_i a1), some (kx_i a2), some (kx_i a3), some (kx_i v5), some (kx_i v6), some (kx_i v7), x8, x9, x10] [] (I, J, none)) ∧ (∀ (v5 : Int32) (v6 : Int32) (v7 : Int32) (v8 : Int32) (v10 : Int32) (s0 : Int32) (s1 : Int32) (s2 : Int32) (s3 : Int32) (x8 x9 x10 : Option kx_V) (I : kI) (J : kJ) (q : kI × kJ), G_X11_passesShips a0 a1 a2 a3 n 99 v5 v6 v7 v8 v10 s0 s1 s2 s3 I J = some q → kx_Run tb_X11_passesShips (kx_NC, fun r' S'' => r' = none ∧ S'' = (q.1, q.2, none)) 99 [some (kx_r 11 (0)), some (kx_i a0), some (kx_i a1), some (kx_i a2), some (kx_i a3), some (kx_i v5), some (kx_i v6), some (kx_i v7), x8, x9, x10] [] (I, J, none)) ∧ (∀ (v5 : Int32) (v6 : Int32) (v7 : Int32) (v8 : Int32) (v10 : Int32) (s0 : Int32) (s1 : Int32) (s2 : Int32) (s3 : Int32) (x8 x9 x10 : Option kx_V) (I : kI) (J : kJ) (q : kI × kJ), G_X11_passesShips a0 a1 a2 a3 n 100 v5 v6 v7 v8 v10 s0 s1 s2 s3 I J = some q → kx_Run tb_X11_passesShips (kx_NC, fun r' S'' => r' = none ∧ S'' = (q.1, q.2, none)) 100 [some (kx_r 11 (0)), some (kx_i a0), some (kx_i a1), some (kx_i a2), some (kx_i a3), some (kx_i v5), some (kx_i v6), some (kx_i v7), x8, x9, x10] [kx_i s0] (I, J, none)) ∧ (∀ (v5 : Int32) (v6 : Int32) (v7 : Int32) (v8 : Int32) (v10 : Int32) (s0 : Int32) (s1 : Int32) (s2 : Int32) (s3 : Int32) (x8 x9 : Option kx_V) (I : kI) (J : kJ) (q : kI × kJ), G_X11_passesShips a0 a1 a2 a3 n 147 v5 v6 v7 v8 v10 s0 s1 s2 s3 I J = some q → kx_Run tb_X11_passesShips (kx_NC, fun r' S'' => r' = none ∧ S'' = (q.1, q.2, none)) 147 [some (kx_r 11 (0)), some (kx_i a0), some (kx_i a1), some (kx_i a2), some (kx_i a3), some (kx_i v5), some (kx_i v6), some (kx_i v7), x8, x9, some (kx_i v10)] [kx_i s3, kx_i s2, kx_i s1, kx_r 41 (0)] (I, J, none)) ∧ (∀ (v5 : Int32) (v6 : Int32) (v7 : Int32) (v8 : Int32) (v10 : Int32) (s0 : Int32) (s1 : Int32) (s2 : Int32) (s3 : Int32) (x7 x8 x9 x10 : Option kx_V) (I : kI) (J : kJ) (q : kI × kJ), G_X11_passesShips a0 a1 a2 a3 n 166 v5 v6 v7 v8 v10 s0 s1 s2 s3 I J = some q → kx_Run tb_X11_passesShips (kx_NC, fun r' S'' => r' = none ∧ S'' = (q.1, q.2, none)) 166 [some (kx_r 11 (0)), some (kx_i a0), some (kx_i a1), some (kx_i a2), some (kx_i a3), some (kx_i v5), some (kx_i v6), x7, x8, x9, x10] [] (I, J, none)) := by
  intro n
  induction n with
  | zero => refine ⟨?_, ?_, ?_, ?_, ?_, ?_, ?_⟩ <;> (intros; rename_i h; have h2 : (none : Option _) = some _ := h; cases h2)
  | succ n ih =>
    refine ⟨?_, ?_, ?_, ?_, ?_, ?_, ?_⟩
    · intro v5 v6 v7 v8 v10 s0 s1 s2 s3 x7 x8 x9 x10  I J q hG
      rw [G_X11_passesShips_11] at hG
      refine kx_start [11, 60, 95, 99, 100, 147, 166] 100 ?_
      obtain ⟨q1, hq, hG⟩ := kbd_some hG
      refine ⟨_, _, cs_X11_rankedAt v5 v6 I J q1 hq, rfl, ?_⟩
      refine ⟨fun h1 => ?_, fun h1 => ?_⟩
      · replace h1 : q1 < 0 := h1
        rw [kif_pos h1] at hG
        replace hG := Option.some.inj hG
        subst hG
        exact ⟨rfl, rfl⟩
      · replace h1 : ¬ q1 < 0 := h1
        rw [kif_neg h1] at hG
        obtain ⟨q2, hq, hG⟩ := kbd_some hG
        refine ⟨_, _, cs_X11_rankedAt v5 v6 I J q2 hq, rfl, ?_⟩
        obtain ⟨hq, hG⟩ := kif_some hG
        refine ⟨_, _, cs_X11_ofShip q2 (0 : Int32) I J hq, rfl, ?_⟩
        obtain ⟨hq, hG⟩ := kif_some hG
        refine ⟨hq, ?_⟩
        refine ⟨fun h2 => ?_, fun h2 => ?_⟩
        · replace h2 : ¬ (I 41 0 ((6 : Int32)).toNatClampNeg) = (1 : Int32) := h2
          rw [kif_neg h2] at hG
          exact (ih.2.1) _ _ _ _ _ _ _ _ _ _ _ _ _ q hG
        · replace h2 : (I 41 0 ((6 : Int32)).toNatClampNeg) = (1 : Int32) := h2
          rw [kif_pos h2] at hG
          exact (ih.2.1) _ _ _ _ _ _ _ _ _ _ _ _ _ q hG
    · intro v5 v6 v7 v8 v10 s0 s1 s2 s3 x9 x10  I J q hG
      rw [G_X11_passesShips_60] at hG
      refine kx_start [11, 60, 95, 99, 100, 147, 166] 100 ?_
      obtain ⟨q1, hq, hG⟩ := kbd_some hG
      refine ⟨_, _, cs_X11_lacks s0 s1 s2 a1 a2 I J q1 hq, rfl, ?_⟩
      refine ⟨fun h3 => ?_, fun h3 => ?_⟩
      · replace h3 : ¬ q1 = 0 := h3
        rw [kif_neg h3] at hG
        refine ⟨fun h4 => ?_, fun h4 => ?_⟩
        · replace h4 : ¬ q1 = (1 : Int32) := h4
          rw [kif_neg h4] at hG
          exact (ih.2.2.2.1) _ _ _ _ _ _ _ _ _ _ _ _ _ _ q hG
        · replace h4 : q1 = (1 : Int32) := h4
          rw [kif_pos h4] at hG
          refine ⟨_, _, cs_X11_isSmall v8 I J, rfl, ?_⟩
          refine ⟨fun h5 => ?_, fun h5 => ?_⟩
          · replace h5 : ¬ (F_X11_isSmall v8 I J) = 0 := h5
            rw [kif_neg h5] at hG
            exact (ih.2.2.1) _ _ _ _ _ _ _ _ _ _ _ _ _ _ q hG
          · replace h5 : (F_X11_isSmall v8 I J) = 0 := h5
            rw [kif_pos h5] at hG
            refine ⟨fun h6 => ?_, fun h6 => ?_⟩
            · replace h6 : a2 = (2 : Int32) := h6
              rw [kif_pos h6] at hG
              exact (ih.2.2.2.1) _ _ _ _ _ _ _ _ _ _ _ _ _ _ q hG
            · replace h6 : ¬ a2 = (2 : Int32) := h6
              rw [kif_neg h6] at hG
              exact (ih.2.2.1) _ _ _ _ _ _ _ _ _ _ _ _ _ _ q hG
      · replace h3 : q1 = 0 := h3
        rw [kif_pos h3] at hG
        exact (ih.2.2.2.2.1) _ _ _ _ _ _ _ _ _ _ _ _ _ _ q hG
    · intro v5 v6 v7 v8 v10 s0 s1 s2 s3 x8 x9 x10  I J q hG
      rw [G_X11_passesShips_95] at hG
      refine kx_start [11, 60, 95, 99, 100, 147, 166] 100 ?_
      exact (ih.2.2.2.2.1) _ _ _ _ _ _ _ _ _ _ _ _ _ _ q hG
    · intro v5 v6 v7 v8 v10 s0 s1 s2 s3 x8 x9 x10  I J q hG
      rw [G_X11_passesShips_99] at hG
      refine kx_start [11, 60, 95, 99, 100, 147, 166] 100 ?_
      exact (ih.2.2.2.2.1) _ _ _ _ _ _ _ _ _ _ _ _ _ _ q hG
    · intro v5 v6 v7 v8 v10 s0 s1 s2 s3 x8 x9 x10  I J q hG
      rw [G_X11_passesShips_100] at hG
      refine kx_start [11, 60, 95, 99, 100, 147, 166] 100 ?_
      obtain ⟨hq, hG⟩ := kif_some hG
      refine ⟨hq, ?_⟩
      obtain ⟨hq, hG⟩ := kif_some hG
      refine ⟨hq, ?_⟩
      refine ⟨fun h7 => ?_, fun h7 => ?_⟩
      · replace h7 : a1 = 0 := h7
        rw [kif_pos h7] at hG
        exact (ih.2.2.2.2.2.1) _ _ _ _ _ _ _ _ _ _ _ _ _ q hG
      · replace h7 : ¬ a1 = 0 := h7
        rw [kif_neg h7] at hG
        exact (ih.2.2.2.2.2.1) _ _ _ _ _ _ _ _ _ _ _ _ _ q hG
    · intro v5 v6 v7 v8 v10 s0 s1 s2 s3 x8 x9  I J q hG
      rw [G_X11_passesShips_147] at hG
      refine kx_start [11, 60, 95, 99, 100, 147, 166] 100 ?_
      obtain ⟨hq, hG⟩ := kif_some hG
      refine ⟨hq, ?_⟩
      refine ⟨fun h8 => ?_, fun h8 => ?_⟩
      · replace h8 : a3 < 0 := h8
        rw [kif_pos h8] at hG
        exact (ih.2.2.2.2.2.2) _ _ _ _ _ _ _ _ _ _ _ _ _ _ _ q hG
      · replace h8 : ¬ a3 < 0 := h8
        rw [kif_neg h8] at hG
        obtain ⟨hq, hG⟩ := kif_some hG
        refine ⟨_, _, cs_X11_logs ((4 : Int32) + v10) v7 a3 (kw I 41 0 (s1).toNatClampNeg (s2 + s3)) J hq, rfl, ?_⟩
        exact (ih.2.2.2.2.2.2) _ _ _ _ _ _ _ _ _ _ _ _ _ _ _ q hG
    · intro v5 v6 v7 v8 v10 s0 s1 s2 s3 x7 x8 x9 x10  I J q hG
      rw [G_X11_passesShips_166] at hG
      refine kx_start [11, 60, 95, 99, 100, 147, 166] 100 ?_
      exact (ih.1) _ _ _ _ _ _ _ _ _ _ _ _ _ _ _ q hG
set_option maxRecDepth 100000 in
set_option maxHeartbeats 4000000 in
theorem cs_X11_passesShips (a0 : Int32) (a1 : Int32) (a2 : Int32) (a3 : Int32) (I : kI) (J : kJ) (q : kI × kJ) (hG : E_X11_passesShips a0 a1 a2 a3 I J = some q) : sp_X11_passesShips [kx_r 11 0, kx_i a0, kx_i a1, kx_i a2, kx_i a3] (I, J, none) (none) (q.1, q.2, none) := by
  unfold E_X11_passesShips at hG
  refine kx_start [11, 60, 95, 99, 100, 147, 166] 100 ?_
  obtain ⟨hq, hG⟩ := kif_some hG
  refine ⟨hq, ?_⟩
  exact ((cl_X11_passesShips a0 a1 a2 a3 kfu).1) _ _ _ _ _ _ _ _ _ _ _ _ _ _ _ q hG
noncomputable def G_X11_passesLamp (a0 : Int32) (a1 : Int32) : Nat → Nat → Int32 → Int32 → Int32 → Int32 → Int32 → kI → kJ → Option (kI × kJ)
  | 0, _, _, _, _, _, _, _, _ => none
  | n + 1, pc, v3, s0, s1, s2, s3, I, J => (bif Nat.beq pc 29 then (kif (vp_in (4 : Int32) 2509) (kif (vp_in (3 : Int32) 2509) (kif ((I 41 0 ((4 : Int32)).toNatClampNeg) < (I 41 0 ((3 : Int32)).toNatClampNeg)) ((G_X11_passesLamp a0 a1 n) 48 0 0 0 0 0 I J) ((G_X11_passesLamp a0 a1 n) 49 0 (1 : Int32) 0 0 0 I J)) none) none) else (bif Nat.beq pc 48 then ((G_X11_passesLamp a0 a1 n) 49 0 (0 : Int32) 0 0 0 I J) else (bif Nat.beq pc 49 then (kif (s0 = 0) ((G_X11_passesLamp a0 a1 n) 65 s0 0 (6 : Int32) (0 : Int32) 0 I J) ((G_X11_passesLamp a0 a1 n) 65 s0 0 (6 : Int32) (1 : Int32) 0 I J)) else (bif Nat.beq pc 65 then (kif (vp_in s1 2509) (kif (vp_in (4 : Int32) 2509) (kif (v3 = 0) ((G_X11_passesLamp a0 a1 n) 87 v3 0 (4 : Int32) ((kw I 41 0 (s1).toNatClampNeg s2) 41 0 ((4 : Int32)).toNatClampNeg) (0 : Int32) (kw I 41 0 (s1).toNatClampNeg s2) J) (kif (vp_in (3 : Int32) 2509) ((G_X11_passesLamp a0 a1 n) 87 v3 0 (4 : Int32) ((kw I 41 0 (s1).toNatClampNeg s2) 41 0 ((4 : Int32)).toNatClampNeg) ((kw I 41 0 (s1).toNatClampNeg s2) 41 0 ((3 : Int32)).toNatClampNeg) (kw I 41 0 (s1).toNatClampNeg s2) J) none)) none) none) else (bif Nat.beq pc 87 then (kif (vp_in s1 2509) (kif (v3 = 0) ((G_X11_passesLamp a0 a1 n) 107 v3 0 (7 : Int32) 0 0 (kw I 41 0 (s1).toNatClampNeg (s2 - s3)) J) (kif (a1 = 0) ((G_X11_passesLamp a0 a1 n) 108 v3 0 (7 : Int32) (1 : Int32) 0 (kw I 41 0 (s1).toNatClampNeg (s2 - s3)) J) ((G_X11_passesLamp a0 a1 n) 107 v3 0 (7 : Int32) 0 0 (kw I 41 0 (s1).toNatClampNeg (s2 - s3)) J))) none) else (bif Nat.beq pc 107 then ((G_X11_passesLamp a0 a1 n) 108 v3 0 s1 (0 : Int32) 0 I J) else (bif Nat.beq pc 108 then (kif (vp_in s1 2509) (kif (a0 = 0) ((G_X11_passesLamp a0 a1 n) 149 0 0 0 0 0 (kw I 41 0 (s1).toNatClampNeg s2) J) (kif (v3 = 0) (kif (vp_in (16 : Int32) 2509) (kif (vp_in (16 : Int32) 2509) ((G_X11_passesLamp a0 a1 n) 128 0 0 0 0 0 (kw (kw I 41 0 (s1).toNatClampNeg s2) 41 0 ((16 : Int32)).toNatClampNeg (((kw I 41 0 (s1).toNatClampNeg s2) 41 0 ((16 : Int32)).toNatClampNeg) + (1 : Int32))) J) none) none) ((G_X11_passesLamp a0 a1 n) 149 0 0 0 0 0 (kw I 41 0 (s1).toNatClampNeg s2) J))) none) else (bif Nat.beq pc 128 then (kif (vp_in (17 : Int32) 2509) (kif (vp_in (0 : Int32) 2509) (kif (¬ (24 : Int32) = 0) (kif (vp_in (17 : Int32) 2509) ((G_X11_passesLamp a0 a1 n) 149 0 0 0 0 0 (kw I 41 0 ((17 : Int32)).toNatClampNeg ((I 41 0 ((17 : Int32)).toNatClampNeg) ||| ((1 : Int32) <<< (((I 41 0 ((0 : Int32)).toNatClampNeg) - (I 41 0 ((0 : Int32)).toNatClampNeg) / (24 : Int32) * (24 : Int32)) &&& 31)))) J) none) none) none) none) else (bif Nat.beq pc 149 then (some (I, J)) else none)))))))))
theorem G_X11_passesLamp_29 (a0 : Int32) (a1 : Int32) (n : Nat) (v3 : Int32) (s0 : Int32) (s1 : Int32) (s2 : Int32) (s3 : Int32) (I : kI) (J : kJ) : G_X11_passesLamp a0 a1 (n + 1) 29 v3 s0 s1 s2 s3 I J = (kif (vp_in (4 : Int32) 2509) (kif (vp_in (3 : Int32) 2509) (kif ((I 41 0 ((4 : Int32)).toNatClampNeg) < (I 41 0 ((3 : Int32)).toNatClampNeg)) ((G_X11_passesLamp a0 a1 n) 48 0 0 0 0 0 I J) ((G_X11_passesLamp a0 a1 n) 49 0 (1 : Int32) 0 0 0 I J)) none) none) := rfl
theorem G_X11_passesLamp_48 (a0 : Int32) (a1 : Int32) (n : Nat) (v3 : Int32) (s0 : Int32) (s1 : Int32) (s2 : Int32) (s3 : Int32) (I : kI) (J : kJ) : G_X11_passesLamp a0 a1 (n + 1) 48 v3 s0 s1 s2 s3 I J = ((G_X11_passesLamp a0 a1 n) 49 0 (0 : Int32) 0 0 0 I J) := rfl
theorem G_X11_passesLamp_49 (a0 : Int32) (a1 : Int32) (n : Nat) (v3 : Int32) (s0 : Int32) (s1 : Int32) (s2 : Int32) (s3 : Int32) (I : kI) (J : kJ) : G_X11_passesLamp a0 a1 (n + 1) 49 v3 s0 s1 s2 s3 I J = (kif (s0 = 0) ((G_X11_passesLamp a0 a1 n) 65 s0 0 (6 : Int32) (0 : Int32) 0 I J) ((G_X11_passesLamp a0 a1 n) 65 s0 0 (6 : Int32) (1 : Int32) 0 I J)) := rfl
theorem G_X11_passesLamp_65 (a0 : Int32) (a1 : Int32) (n : Nat) (v3 : Int32) (s0 : Int32) (s1 : Int32) (s2 : Int32) (s3 : Int32) (I : kI) (J : kJ) : G_X11_passesLamp a0 a1 (n + 1) 65 v3 s0 s1 s2 s3 I J = (kif (vp_in s1 2509) (kif (vp_in (4 : Int32) 2509) (kif (v3 = 0) ((G_X11_passesLamp a0 a1 n) 87 v3 0 (4 : Int32) ((kw I 41 0 (s1).toNatClampNeg s2) 41 0 ((4 : Int32)).toNatClampNeg) (0 : Int32) (kw I 41 0 (s1).toNatClampNeg s2) J) (kif (vp_in (3 : Int32) 2509) ((G_X11_passesLamp a0 a1 n) 87 v3 0 (4 : Int32) ((kw I 41 0 (s1).toNatClampNeg s2) 41 0 ((4 : Int32)).toNatClampNeg) ((kw I 41 0 (s1).toNatClampNeg s2) 41 0 ((3 : Int32)).toNatClampNeg) (kw I 41 0 (s1).toNatClampNeg s2) J) none)) none) none) := rfl
theorem G_X11_passesLamp_87 (a0 : Int32) (a1 : Int32) (n : Nat) (v3 : Int32) (s0 : Int32) (s1 : Int32) (s2 : Int32) (s3 : Int32) (I : kI) (J : kJ) : G_X11_passesLamp a0 a1 (n + 1) 87 v3 s0 s1 s2 s3 I J = (kif (vp_in s1 2509) (kif (v3 = 0) ((G_X11_passesLamp a0 a1 n) 107 v3 0 (7 : Int32) 0 0 (kw I 41 0 (s1).toNatClampNeg (s2 - s3)) J) (kif (a1 = 0) ((G_X11_passesLamp a0 a1 n) 108 v3 0 (7 : Int32) (1 : Int32) 0 (kw I 41 0 (s1).toNatClampNeg (s2 - s3)) J) ((G_X11_passesLamp a0 a1 n) 107 v3 0 (7 : Int32) 0 0 (kw I 41 0 (s1).toNatClampNeg (s2 - s3)) J))) none) := rfl
theorem G_X11_passesLamp_107 (a0 : Int32) (a1 : Int32) (n : Nat) (v3 : Int32) (s0 : Int32) (s1 : Int32) (s2 : Int32) (s3 : Int32) (I : kI) (J : kJ) : G_X11_passesLamp a0 a1 (n + 1) 107 v3 s0 s1 s2 s3 I J = ((G_X11_passesLamp a0 a1 n) 108 v3 0 s1 (0 : Int32) 0 I J) := rfl
theorem G_X11_passesLamp_108 (a0 : Int32) (a1 : Int32) (n : Nat) (v3 : Int32) (s0 : Int32) (s1 : Int32) (s2 : Int32) (s3 : Int32) (I : kI) (J : kJ) : G_X11_passesLamp a0 a1 (n + 1) 108 v3 s0 s1 s2 s3 I J = (kif (vp_in s1 2509) (kif (a0 = 0) ((G_X11_passesLamp a0 a1 n) 149 0 0 0 0 0 (kw I 41 0 (s1).toNatClampNeg s2) J) (kif (v3 = 0) (kif (vp_in (16 : Int32) 2509) (kif (vp_in (16 : Int32) 2509) ((G_X11_passesLamp a0 a1 n) 128 0 0 0 0 0 (kw (kw I 41 0 (s1).toNatClampNeg s2) 41 0 ((16 : Int32)).toNatClampNeg (((kw I 41 0 (s1).toNatClampNeg s2) 41 0 ((16 : Int32)).toNatClampNeg) + (1 : Int32))) J) none) none) ((G_X11_passesLamp a0 a1 n) 149 0 0 0 0 0 (kw I 41 0 (s1).toNatClampNeg s2) J))) none) := rfl
theorem G_X11_passesLamp_128 (a0 : Int32) (a1 : Int32) (n : Nat) (v3 : Int32) (s0 : Int32) (s1 : Int32) (s2 : Int32) (s3 : Int32) (I : kI) (J : kJ) : G_X11_passesLamp a0 a1 (n + 1) 128 v3 s0 s1 s2 s3 I J = (kif (vp_in (17 : Int32) 2509) (kif (vp_in (0 : Int32) 2509) (kif (¬ (24 : Int32) = 0) (kif (vp_in (17 : Int32) 2509) ((G_X11_passesLamp a0 a1 n) 149 0 0 0 0 0 (kw I 41 0 ((17 : Int32)).toNatClampNeg ((I 41 0 ((17 : Int32)).toNatClampNeg) ||| ((1 : Int32) <<< (((I 41 0 ((0 : Int32)).toNatClampNeg) - (I 41 0 ((0 : Int32)).toNatClampNeg) / (24 : Int32) * (24 : Int32)) &&& 31)))) J) none) none) none) none) := rfl
theorem G_X11_passesLamp_149 (a0 : Int32) (a1 : Int32) (n : Nat) (v3 : Int32) (s0 : Int32) (s1 : Int32) (s2 : Int32) (s3 : Int32) (I : kI) (J : kJ) : G_X11_passesLamp a0 a1 (n + 1) 149 v3 s0 s1 s2 s3 I J = (some (I, J)) := rfl
noncomputable def E_X11_passesLamp (a0 : Int32) (a1 : Int32) (I : kI) (J : kJ) : Option (kI × kJ) := (kif (a0 = 0) ((G_X11_passesLamp a0 a1 kfu) 48 0 0 0 0 0 I J) (kif (a1 = 0) (kif (vp_in (6 : Int32) 2509) (kif ((I 41 0 ((6 : Int32)).toNatClampNeg) = (1 : Int32)) (kif (vp_in (7 : Int32) 2509) (kif ((I 41 0 ((7 : Int32)).toNatClampNeg) = 0) ((G_X11_passesLamp a0 a1 kfu) 29 0 0 0 0 0 I J) ((G_X11_passesLamp a0 a1 kfu) 48 0 0 0 0 0 I J)) none) ((G_X11_passesLamp a0 a1 kfu) 48 0 0 0 0 0 I J)) none) ((G_X11_passesLamp a0 a1 kfu) 29 0 0 0 0 0 I J)))
set_option maxRecDepth 100000 in
set_option maxHeartbeats 4000000 in
theorem cl_X11_passesLamp (a0 : Int32) (a1 : Int32) : ∀ n : Nat, (∀ (v3 : Int32) (s0 : Int32) (s1 : Int32) (s2 : Int32) (s3 : Int32) (x3 : Option kx_V) (I : kI) (J : kJ) (q : kI × kJ), G_X11_passesLamp a0 a1 n 29 v3 s0 s1 s2 s3 I J = some q → kx_Run tb_X11_passesLamp (kx_NC, fun r' S'' => r' = none ∧ S'' = (q.1, q.2, none)) 29 [some (kx_r 11 (0)), some (kx_i a0), some (kx_i a1), x3] [] (I, J, none)) ∧ (∀ (v3 : Int32) (s0 : Int32) (s1 : Int32) (s2 : Int32) (s3 : Int32) (x3 : Option kx_V) (I : kI) (J : kJ) (q : kI × kJ), G_X11_passesLamp a0 a1 n 48 v3 s0 s1 s2 s3 I J = some q → kx_Run tb_X11_passesLamp (kx_NC, fun r' S'' => r' = none ∧ S'' = (q.1, q.2, none)) 48 [some (kx_r 11 (0)), some (kx_i a0), some (kx_i a1), x3] [] (I, J, none)) ∧ (∀ (v3 : Int32) (s0 : Int32) (s1 : Int32) (s2 : Int32) (s3 : Int32) (x3 : Option kx_V) (I : kI) (J : kJ) (q : kI × kJ), G_X11_passesLamp a0 a1 n 49 v3 s0 s1 s2 s3 I J = some q → kx_Run tb_X11_passesLamp (kx_NC, fun r' S'' => r' = none ∧ S'' = (q.1, q.2, none)) 49 [some (kx_r 11 (0)), some (kx_i a0), some (kx_i a1), x3] [kx_i s0] (I, J, none)) ∧ (∀ (v3 : Int32) (s0 : Int32) (s1 : Int32) (s2 : Int32) (s3 : Int32) (I : kI) (J : kJ) (q : kI × kJ), G_X11_passesLamp a0 a1 n 65 v3 s0 s1 s2 s3 I J = some q → kx_Run tb_X11_passesLamp (kx_NC, fun r' S'' => r' = none ∧ S'' = (q.1, q.2, none)) 65 [some (kx_r 11 (0)), some (kx_i a0), some (kx_i a1), some (kx_i v3)] [kx_i s2, kx_i s1, kx_r 41 (0)] (I, J, none)) ∧ (∀ (v3 : Int32) (s0 : Int32) (s1 : Int32) (s2 : Int32) (s3 : Int32) (I : kI) (J : kJ) (q : kI × kJ), G_X11_passesLamp a0 a1 n 87 v3 s0 s1 s2 s3 I J = some q → kx_Run tb_X11_passesLamp (kx_NC, fun r' S'' => r' = none ∧ S'' = (q.1, q.2, none)) 87 [some (kx_r 11 (0)), some (kx_i a0), some (kx_i a1), some (kx_i v3)] [kx_i s3, kx_i s2, kx_i s1, kx_r 41 (0)] (I, J, none)) ∧ (∀ (v3 : Int32) (s0 : Int32) (s1 : Int32) (s2 : Int32) (s3 : Int32) (x2 : Option kx_V) (I : kI) (J : kJ) (q : kI × kJ), G_X11_passesLamp a0 a1 n 107 v3 s0 s1 s2 s3 I J = some q → kx_Run tb_X11_passesLamp (kx_NC, fun r' S'' => r' = none ∧ S'' = (q.1, q.2, none)) 107 [some (kx_r 11 (0)), some (kx_i a0), x2, some (kx_i v3)] [kx_i s1, kx_r 41 (0)] (I, J, none)) ∧ (∀ (v3 : Int32) (s0 : Int32) (s1 : Int32) (s2 : Int32) (s3 : Int32) (x2 : Option kx_V) (I : kI) (J : kJ) (q : kI × kJ), G_X11_passesLamp a0 a1 n 108 v3 s0 s1 s2 s3 I J = some q → kx_Run tb_X11_passesLamp (kx_NC, fun r' S'' => r' = none ∧ S'' = (q.1, q.2, none)) 108 [some (kx_r 11 (0)), some (kx_i a0), x2, some (kx_i v3)] [kx_i s2, kx_i s1, kx_r 41 (0)] (I, J, none)) ∧ (∀ (v3 : Int32) (s0 : Int32) (s1 : Int32) (s2 : Int32) (s3 : Int32) (x1 x2 x3 : Option kx_V) (I : kI) (J : kJ) (q : kI × kJ), G_X11_passesLamp a0 a1 n 128 v3 s0 s1 s2 s3 I J = some q → kx_Run tb_X11_passesLamp (kx_NC, fun r' S'' => r' = none ∧ S'' = (q.1, q.2, none)) 128 [some (kx_r 11 (0)), x1, x2, x3] [] (I, J, none)) ∧ (∀ (v3 : Int32) (s0 : Int32) (s1 : Int32) (s2 : Int32) (s3 : Int32) (x0 x1 x2 x3 : Option kx_V) (I : kI) (J : kJ) (q : kI × kJ), G_X11_passesLamp a0 a1 n 149 v3 s0 s1 s2 s3 I J = some q → kx_Run tb_X11_passesLamp (kx_NC, fun r' S'' => r' = none ∧ S'' = (q.1, q.2, none)) 149 [x0, x1, x2, x3] [] (I, J, none)) := by
  intro n
  induction n with
  | zero => refine ⟨?_, ?_, ?_, ?_, ?_, ?_, ?_, ?_, ?_⟩ <;> (intros; rename_i h; have h2 : (none : Option _) = some _ := h; cases h2)
  | succ n ih =>
    refine ⟨?_, ?_, ?_, ?_, ?_, ?_, ?_, ?_, ?_⟩
    · intro v3 s0 s1 s2 s3 x3  I J q hG
      rw [G_X11_passesLamp_29] at hG
      refine kx_start [29, 48, 49, 65, 87, 107, 108, 128, 149] 94 ?_
      obtain ⟨hq, hG⟩ := kif_some hG
      refine ⟨hq, ?_⟩
      obtain ⟨hq, hG⟩ := kif_some hG
      refine ⟨hq, ?_⟩
      refine ⟨fun h1 => ?_, fun h1 => ?_⟩
      · replace h1 : (I 41 0 ((4 : Int32)).toNatClampNeg) < (I 41 0 ((3 : Int32)).toNatClampNeg) := h1
        rw [kif_pos h1] at hG
        exact (ih.2.1) _ _ _ _ _ _ _ _ q hG
      · replace h1 : ¬ (I 41 0 ((4 : Int32)).toNatClampNeg) < (I 41 0 ((3 : Int32)).toNatClampNeg) := h1
        rw [kif_neg h1] at hG
        exact (ih.2.2.1) _ _ _ _ _ _ _ _ q hG
    · intro v3 s0 s1 s2 s3 x3  I J q hG
      rw [G_X11_passesLamp_48] at hG
      refine kx_start [29, 48, 49, 65, 87, 107, 108, 128, 149] 94 ?_
      exact (ih.2.2.1) _ _ _ _ _ _ _ _ q hG
    · intro v3 s0 s1 s2 s3 x3  I J q hG
      rw [G_X11_passesLamp_49] at hG
      refine kx_start [29, 48, 49, 65, 87, 107, 108, 128, 149] 94 ?_
      refine ⟨fun h2 => ?_, fun h2 => ?_⟩
      · replace h2 : s0 = 0 := h2
        rw [kif_pos h2] at hG
        exact (ih.2.2.2.1) _ _ _ _ _ _ _ q hG
      · replace h2 : ¬ s0 = 0 := h2
        rw [kif_neg h2] at hG
        exact (ih.2.2.2.1) _ _ _ _ _ _ _ q hG
    · intro v3 s0 s1 s2 s3  I J q hG
      rw [G_X11_passesLamp_65] at hG
      refine kx_start [29, 48, 49, 65, 87, 107, 108, 128, 149] 94 ?_
      obtain ⟨hq, hG⟩ := kif_some hG
      refine ⟨hq, ?_⟩
      obtain ⟨hq, hG⟩ := kif_some hG
      refine ⟨hq, ?_⟩
      refine ⟨fun h3 => ?_, fun h3 => ?_⟩
      · replace h3 : v3 = 0 := h3
        rw [kif_pos h3] at hG
        exact (ih.2.2.2.2.1) _ _ _ _ _ _ _ q hG
      · replace h3 : ¬ v3 = 0 := h3
        rw [kif_neg h3] at hG
        obtain ⟨hq, hG⟩ := kif_some hG
        refine ⟨hq, ?_⟩
        exact (ih.2.2.2.2.1) _ _ _ _ _ _ _ q hG
    · intro v3 s0 s1 s2 s3  I J q hG
      rw [G_X11_passesLamp_87] at hG
      refine kx_start [29, 48, 49, 65, 87, 107, 108, 128, 149] 94 ?_
      obtain ⟨hq, hG⟩ := kif_some hG
      refine ⟨hq, ?_⟩
      refine ⟨fun h4 => ?_, fun h4 => ?_⟩
      · replace h4 : v3 = 0 := h4
        rw [kif_pos h4] at hG
        exact (ih.2.2.2.2.2.1) _ _ _ _ _ _ _ _ q hG
      · replace h4 : ¬ v3 = 0 := h4
        rw [kif_neg h4] at hG
        refine ⟨fun h5 => ?_, fun h5 => ?_⟩
        · replace h5 : ¬ a1 = 0 := h5
          rw [kif_neg h5] at hG
          exact (ih.2.2.2.2.2.1) _ _ _ _ _ _ _ _ q hG
        · replace h5 : a1 = 0 := h5
          rw [kif_pos h5] at hG
          exact (ih.2.2.2.2.2.2.1) _ _ _ _ _ _ _ _ q hG
    · intro v3 s0 s1 s2 s3 x2  I J q hG
      rw [G_X11_passesLamp_107] at hG
      refine kx_start [29, 48, 49, 65, 87, 107, 108, 128, 149] 94 ?_
      exact (ih.2.2.2.2.2.2.1) _ _ _ _ _ _ _ _ q hG
    · intro v3 s0 s1 s2 s3 x2  I J q hG
      rw [G_X11_passesLamp_108] at hG
      refine kx_start [29, 48, 49, 65, 87, 107, 108, 128, 149] 94 ?_
      obtain ⟨hq, hG⟩ := kif_some hG
      refine ⟨hq, ?_⟩
      refine ⟨fun h6 => ?_, fun h6 => ?_⟩
      · replace h6 : a0 = 0 := h6
        rw [kif_pos h6] at hG
        exact (ih.2.2.2.2.2.2.2.2) _ _ _ _ _ _ _ _ _ _ _ q hG
      · replace h6 : ¬ a0 = 0 := h6
        rw [kif_neg h6] at hG
        refine ⟨fun h7 => ?_, fun h7 => ?_⟩
        · replace h7 : ¬ v3 = 0 := h7
          rw [kif_neg h7] at hG
          exact (ih.2.2.2.2.2.2.2.2) _ _ _ _ _ _ _ _ _ _ _ q hG
        · replace h7 : v3 = 0 := h7
          rw [kif_pos h7] at hG
          obtain ⟨hq, hG⟩ := kif_some hG
          refine ⟨hq, ?_⟩
          obtain ⟨hq, hG⟩ := kif_some hG
          refine ⟨hq, ?_⟩
          exact (ih.2.2.2.2.2.2.2.1) _ _ _ _ _ _ _ _ _ _ q hG
    · intro v3 s0 s1 s2 s3 x1 x2 x3  I J q hG
      rw [G_X11_passesLamp_128] at hG
      refine kx_start [29, 48, 49, 65, 87, 107, 108, 128, 149] 94 ?_
      obtain ⟨hq, hG⟩ := kif_some hG
      refine ⟨hq, ?_⟩
      obtain ⟨hq, hG⟩ := kif_some hG
      refine ⟨hq, ?_⟩
      obtain ⟨hq, hG⟩ := kif_some hG
      refine ⟨hq, ?_⟩
      obtain ⟨hq, hG⟩ := kif_some hG
      refine ⟨hq, ?_⟩
      exact (ih.2.2.2.2.2.2.2.2) _ _ _ _ _ _ _ _ _ _ _ q hG
    · intro v3 s0 s1 s2 s3 x0 x1 x2 x3  I J q hG
      rw [G_X11_passesLamp_149] at hG
      refine kx_start [29, 48, 49, 65, 87, 107, 108, 128, 149] 94 ?_
      replace hG := Option.some.inj hG
      subst hG
      exact ⟨rfl, rfl⟩
set_option maxRecDepth 100000 in
set_option maxHeartbeats 4000000 in
theorem cs_X11_passesLamp (a0 : Int32) (a1 : Int32) (I : kI) (J : kJ) (q : kI × kJ) (hG : E_X11_passesLamp a0 a1 I J = some q) : sp_X11_passesLamp [kx_r 11 0, kx_i a0, kx_i a1] (I, J, none) (none) (q.1, q.2, none) := by
  unfold E_X11_passesLamp at hG
  refine kx_start [29, 48, 49, 65, 87, 107, 108, 128, 149] 94 ?_
  refine ⟨fun h1 => ?_, fun h1 => ?_⟩
  · replace h1 : a0 = 0 := h1
    rw [kif_pos h1] at hG
    exact ((cl_X11_passesLamp a0 a1 kfu).2.1) _ _ _ _ _ _ _ _ q hG
  · replace h1 : ¬ a0 = 0 := h1
    rw [kif_neg h1] at hG
    refine ⟨fun h2 => ?_, fun h2 => ?_⟩
    · replace h2 : ¬ a1 = 0 := h2
      rw [kif_neg h2] at hG
      exact ((cl_X11_passesLamp a0 a1 kfu).1) _ _ _ _ _ _ _ _ q hG
    · replace h2 : a1 = 0 := h2
      rw [kif_pos h2] at hG
      obtain ⟨hq, hG⟩ := kif_some hG
      refine ⟨hq, ?_⟩
      refine ⟨fun h3 => ?_, fun h3 => ?_⟩
      · replace h3 : ¬ (I 41 0 ((6 : Int32)).toNatClampNeg) = (1 : Int32) := h3
        rw [kif_neg h3] at hG
        exact ((cl_X11_passesLamp a0 a1 kfu).2.1) _ _ _ _ _ _ _ _ q hG
      · replace h3 : (I 41 0 ((6 : Int32)).toNatClampNeg) = (1 : Int32) := h3
        rw [kif_pos h3] at hG
        obtain ⟨hq, hG⟩ := kif_some hG
        refine ⟨hq, ?_⟩
        refine ⟨fun h4 => ?_, fun h4 => ?_⟩
        · replace h4 : ¬ (I 41 0 ((7 : Int32)).toNatClampNeg) = 0 := h4
          rw [kif_neg h4] at hG
          exact ((cl_X11_passesLamp a0 a1 kfu).2.1) _ _ _ _ _ _ _ _ q hG
        · replace h4 : (I 41 0 ((7 : Int32)).toNatClampNeg) = 0 := h4
          rw [kif_pos h4] at hG
          exact ((cl_X11_passesLamp a0 a1 kfu).1) _ _ _ _ _ _ _ _ q hG
noncomputable def G_X11_tires (a0 : Int32) (a1 : Int32) : Nat → Nat → Int32 → kI → kJ → Option (kI × kJ)
  | 0, _, _, _, _ => none
  | n + 1, pc, v3, I, J => (bif Nat.beq pc 2 then (kif (vp_in (13 : Int32) 2509) (kif ((I 41 0 ((13 : Int32)).toNatClampNeg) ≤ v3) (some (I, J)) (kif (pre_X11_ofKeeper v3 (1 : Int32) I J) (kif (v3 = a0) (kif (a1 = (2 : Int32)) (kif (vp_in (((61 : Int32) + ((4 : Int32) * v3)) + (1 : Int32)) 2509) ((G_X11_tires a0 a1 n) 2 (v3 + (1)) (kw I 41 0 ((((61 : Int32) + ((4 : Int32) * v3)) + (1 : Int32))).toNatClampNeg ((F_X11_ofKeeper v3 (1 : Int32) I J) + (2 : Int32))) J) none) (kif (vp_in (((61 : Int32) + ((4 : Int32) * v3)) + (1 : Int32)) 2509) ((G_X11_tires a0 a1 n) 2 (v3 + (1)) (kw I 41 0 ((((61 : Int32) + ((4 : Int32) * v3)) + (1 : Int32))).toNatClampNeg ((F_X11_ofKeeper v3 (1 : Int32) I J) + (1 : Int32))) J) none)) (kif (vp_in (((61 : Int32) + ((4 : Int32) * v3)) + (1 : Int32)) 2509) ((G_X11_tires a0 a1 n) 2 (v3 + (1)) (kw I 41 0 ((((61 : Int32) + ((4 : Int32) * v3)) + (1 : Int32))).toNatClampNeg (if (0 : Int32) < ((F_X11_ofKeeper v3 (1 : Int32) I J) - (2 : Int32)) then ((F_X11_ofKeeper v3 (1 : Int32) I J) - (2 : Int32)) else (0 : Int32))) J) none)) none)) none) else none)
theorem G_X11_tires_2 (a0 : Int32) (a1 : Int32) (n : Nat) (v3 : Int32) (I : kI) (J : kJ) : G_X11_tires a0 a1 (n + 1) 2 v3 I J = (kif (vp_in (13 : Int32) 2509) (kif ((I 41 0 ((13 : Int32)).toNatClampNeg) ≤ v3) (some (I, J)) (kif (pre_X11_ofKeeper v3 (1 : Int32) I J) (kif (v3 = a0) (kif (a1 = (2 : Int32)) (kif (vp_in (((61 : Int32) + ((4 : Int32) * v3)) + (1 : Int32)) 2509) ((G_X11_tires a0 a1 n) 2 (v3 + (1)) (kw I 41 0 ((((61 : Int32) + ((4 : Int32) * v3)) + (1 : Int32))).toNatClampNeg ((F_X11_ofKeeper v3 (1 : Int32) I J) + (2 : Int32))) J) none) (kif (vp_in (((61 : Int32) + ((4 : Int32) * v3)) + (1 : Int32)) 2509) ((G_X11_tires a0 a1 n) 2 (v3 + (1)) (kw I 41 0 ((((61 : Int32) + ((4 : Int32) * v3)) + (1 : Int32))).toNatClampNeg ((F_X11_ofKeeper v3 (1 : Int32) I J) + (1 : Int32))) J) none)) (kif (vp_in (((61 : Int32) + ((4 : Int32) * v3)) + (1 : Int32)) 2509) ((G_X11_tires a0 a1 n) 2 (v3 + (1)) (kw I 41 0 ((((61 : Int32) + ((4 : Int32) * v3)) + (1 : Int32))).toNatClampNeg (if (0 : Int32) < ((F_X11_ofKeeper v3 (1 : Int32) I J) - (2 : Int32)) then ((F_X11_ofKeeper v3 (1 : Int32) I J) - (2 : Int32)) else (0 : Int32))) J) none)) none)) none) := rfl
noncomputable def E_X11_tires (a0 : Int32) (a1 : Int32) (I : kI) (J : kJ) : Option (kI × kJ) := ((G_X11_tires a0 a1 kfu) 2 (0 : Int32) I J)
set_option maxRecDepth 100000 in
set_option maxHeartbeats 4000000 in
theorem cl_X11_tires (a0 : Int32) (a1 : Int32) : ∀ n : Nat, (∀ (v3 : Int32) (x4 : Option kx_V) (I : kI) (J : kJ) (q : kI × kJ), G_X11_tires a0 a1 n 2 v3 I J = some q → kx_Run tb_X11_tires (kx_NC, fun r' S'' => r' = none ∧ S'' = (q.1, q.2, none)) 2 [some (kx_r 11 (0)), some (kx_i a0), some (kx_i a1), some (kx_i v3), x4] [] (I, J, none)) := by
  intro n
  induction n with
  | zero => (intros; rename_i h; have h2 : (none : Option _) = some _ := h; cases h2)
  | succ n ih =>
    intro v3 x4  I J q hG
    rw [G_X11_tires_2] at hG
    refine kx_start [2] 46 ?_
    obtain ⟨hq, hG⟩ := kif_some hG
    refine ⟨hq, ?_⟩
    refine ⟨fun h1 => ?_, fun h1 => ?_⟩
    · replace h1 : (I 41 0 ((13 : Int32)).toNatClampNeg) ≤ v3 := h1
      rw [kif_pos h1] at hG
      replace hG := Option.some.inj hG
      subst hG
      exact ⟨rfl, rfl⟩
    · replace h1 : ¬ (I 41 0 ((13 : Int32)).toNatClampNeg) ≤ v3 := h1
      rw [kif_neg h1] at hG
      obtain ⟨hq, hG⟩ := kif_some hG
      refine ⟨_, _, cs_X11_ofKeeper v3 (1 : Int32) I J hq, rfl, ?_⟩
      refine ⟨fun h2 => ?_, fun h2 => ?_⟩
      · replace h2 : ¬ v3 = a0 := h2
        rw [kif_neg h2] at hG
        obtain ⟨hq, hG⟩ := kif_some hG
        refine ⟨hq, ?_⟩
        exact (ih) _ _ _ _ q hG
      · replace h2 : v3 = a0 := h2
        rw [kif_pos h2] at hG
        refine ⟨fun h3 => ?_, fun h3 => ?_⟩
        · replace h3 : ¬ a1 = (2 : Int32) := h3
          rw [kif_neg h3] at hG
          obtain ⟨hq, hG⟩ := kif_some hG
          refine ⟨hq, ?_⟩
          exact (ih) _ _ _ _ q hG
        · replace h3 : a1 = (2 : Int32) := h3
          rw [kif_pos h3] at hG
          obtain ⟨hq, hG⟩ := kif_some hG
          refine ⟨hq, ?_⟩
          exact (ih) _ _ _ _ q hG
set_option maxRecDepth 100000 in
set_option maxHeartbeats 4000000 in
theorem cs_X11_tires (a0 : Int32) (a1 : Int32) (I : kI) (J : kJ) (q : kI × kJ) (hG : E_X11_tires a0 a1 I J = some q) : sp_X11_tires [kx_r 11 0, kx_i a0, kx_i a1] (I, J, none) (none) (q.1, q.2, none) := by
  unfold E_X11_tires at hG
  refine kx_start [2] 46 ?_
  exact ((cl_X11_tires a0 a1 kfu)) _ _ _ _ q hG
noncomputable def G_X11_hourPasses  : Nat → Nat → Int32 → Int32 → Int32 → Int32 → Int32 → Int32 → Int32 → Int32 → Int32 → Int32 → Int32 → Int32 → Int32 → kI → kJ → Option (kI × kJ)
  | 0, _, _, _, _, _, _, _, _, _, _, _, _, _, _, _, _ => none
  | n + 1, pc, v1, v2, v3, v4, v5, v6, v7, v8, v9, s0, s1, s2, s3, I, J => (bif Nat.beq pc 58 then ((G_X11_hourPasses  n) 59 v1 v2 v3 v4 0 0 0 0 0 (0 : Int32) 0 0 0 I J) else (bif Nat.beq pc 59 then (kif (v4 < 0) ((G_X11_hourPasses  n) 75 v1 v2 v3 v4 s0 0 0 0 0 0 0 0 0 I J) (kif (s0 = 0) ((G_X11_hourPasses  n) 76 v1 v2 v3 v4 s0 0 0 0 0 (1 : Int32) 0 0 0 I J) ((G_X11_hourPasses  n) 75 v1 v2 v3 v4 s0 0 0 0 0 0 0 0 0 I J))) else (bif Nat.beq pc 75 then ((G_X11_hourPasses  n) 76 v1 v2 v3 v4 v5 0 0 0 0 (0 : Int32) 0 0 0 I J) else (bif Nat.beq pc 76 then (kif (v4 < 0) ((G_X11_hourPasses  n) 130 v1 v2 v3 v4 v5 s0 0 0 0 0 0 0 0 I J) (kif (v5 = 0) ((G_X11_hourPasses  n) 104 v1 v2 v3 v4 v5 s0 0 0 0 0 ((61 : Int32) + ((4 : Int32) * v4)) (2 : Int32) 0 I J) ((G_X11_hourPasses  n) 104 v1 v2 v3 v4 v5 s0 0 0 0 0 ((61 : Int32) + ((4 : Int32) * v4)) (3 : Int32) 0 I J))) else (bif Nat.beq pc 104 then (kif (vp_in (s1 + s2) 2509) (kif (vp_in (s1 + s2) 2509) (kif (vp_in (20 : Int32) 2509) (kif (v5 = 0) ((G_X11_hourPasses  n) 128 v1 v2 v3 v4 v5 v6 0 0 0 0 (20 : Int32) ((kw I 41 0 ((s1 + s2)).toNatClampNeg ((I 41 0 ((s1 + s2)).toNatClampNeg) + (1 : Int32))) 41 0 ((20 : Int32)).toNatClampNeg) (0 : Int32) (kw I 41 0 ((s1 + s2)).toNatClampNeg ((I 41 0 ((s1 + s2)).toNatClampNeg) + (1 : Int32))) J) ((G_X11_hourPasses  n) 128 v1 v2 v3 v4 v5 v6 0 0 0 0 (20 : Int32) ((kw I 41 0 ((s1 + s2)).toNatClampNeg ((I 41 0 ((s1 + s2)).toNatClampNeg) + (1 : Int32))) 41 0 ((20 : Int32)).toNatClampNeg) (1 : Int32) (kw I 41 0 ((s1 + s2)).toNatClampNeg ((I 41 0 ((s1 + s2)).toNatClampNeg) + (1 : Int32))) J)) none) none) none) else (bif Nat.beq pc 128 then (kif (vp_in s1 2509) ((G_X11_hourPasses  n) 130 v1 v2 v3 v4 v5 v6 0 0 0 0 0 0 0 (kw I 41 0 (s1).toNatClampNeg (s2 + s3)) J) none) else (bif Nat.beq pc 130 then (kbd (E_X11_passesLamp v3 v6 I J) (fun q1 => (kif (v2 = (1 : Int32)) (kif (v6 = 0) ((G_X11_hourPasses  n) 161 v1 v2 v3 v4 v5 v6 0 0 0 0 0 0 0 q1.1 q1.2) (kif (vp_in (5 : Int32) 2509) (kif ((q1.1 41 0 ((5 : Int32)).toNatClampNeg) < (1 : Int32)) ((G_X11_hourPasses  n) 161 v1 v2 v3 v4 v5 v6 0 0 0 0 0 0 0 q1.1 q1.2) ((G_X11_hourPasses  n) 162 v1 v2 v3 v4 v5 v6 0 0 0 (1 : Int32) 0 0 0 q1.1 q1.2)) none)) ((G_X11_hourPasses  n) 161 v1 v2 v3 v4 v5 v6 0 0 0 0 0 0 0 q1.1 q1.2)))) else (bif Nat.beq pc 161 then ((G_X11_hourPasses  n) 162 v1 v2 v3 v4 v5 v6 0 0 0 (0 : Int32) 0 0 0 I J) else (bif Nat.beq pc 162 then (kif (vp_in (5 : Int32) 2509) (kif (s0 = 0) ((G_X11_hourPasses  n) 181 v1 v2 v3 v4 v5 v6 s0 0 0 0 (5 : Int32) (I 41 0 ((5 : Int32)).toNatClampNeg) (0 : Int32) I J) ((G_X11_hourPasses  n) 181 v1 v2 v3 v4 v5 v6 s0 0 0 0 (5 : Int32) (I 41 0 ((5 : Int32)).toNatClampNeg) (1 : Int32) I J)) none) else (bif Nat.beq pc 181 then (kif (vp_in s1 2509) (kif (v6 = 0) ((G_X11_hourPasses  n) 194 v1 v2 v3 v4 v5 v6 v7 0 0 (-1 : Int32) 0 0 0 (kw I 41 0 (s1).toNatClampNeg (s2 - s3)) J) ((G_X11_hourPasses  n) 194 v1 v2 v3 v4 v5 v6 v7 0 0 v4 0 0 0 (kw I 41 0 (s1).toNatClampNeg (s2 - s3)) J)) none) else (bif Nat.beq pc 194 then (kif (v6 = 0) ((G_X11_hourPasses  n) 228 v1 v2 v3 v4 v5 v6 v7 s0 0 0 0 0 0 I J) (kif (v3 = 0) ((G_X11_hourPasses  n) 228 v1 v2 v3 v4 v5 v6 v7 s0 0 0 0 0 0 I J) (kif (vp_in (6 : Int32) 2509) (kif ((I 41 0 ((6 : Int32)).toNatClampNeg) = (1 : Int32)) ((G_X11_hourPasses  n) 222 v1 v2 v3 v4 v5 v6 v7 s0 0 0 (1 : Int32) 0 0 I J) ((G_X11_hourPasses  n) 222 v1 v2 v3 v4 v5 v6 v7 s0 0 0 (2 : Int32) 0 0 I J)) none))) else (bif Nat.beq pc 222 then (kif (pre_X11_logs s1 (-1 : Int32) v4 I J) ((G_X11_hourPasses  n) 228 v1 v2 v3 v4 v5 v6 v7 v8 0 0 0 0 0 (F_X11_logs s1 (-1 : Int32) v4 I J).1 (F_X11_logs s1 (-1 : Int32) v4 I J).2) none) else (bif Nat.beq pc 228 then (kif (v7 = 0) ((G_X11_hourPasses  n) 241 v1 v2 v3 v4 v5 v6 v7 v8 0 0 0 0 0 I J) (kif (pre_X11_logs (3 : Int32) (-1 : Int32) v4 I J) ((G_X11_hourPasses  n) 241 v1 v2 v3 v4 v5 v6 v7 v8 0 0 0 0 0 (F_X11_logs (3 : Int32) (-1 : Int32) v4 I J).1 (F_X11_logs (3 : Int32) (-1 : Int32) v4 I J).2) none)) else (bif Nat.beq pc 241 then (kif (v5 = 0) ((G_X11_hourPasses  n) 269 v1 v2 v3 0 0 v6 v7 v8 0 0 0 0 0 I J) (kif (pre_X11_ofKeeper v4 (0 : Int32) I J) (kif ((F_X11_ofKeeper v4 (0 : Int32) I J) = (2 : Int32)) (kif (v3 = 0) ((G_X11_hourPasses  n) 269 v1 v2 v3 0 0 v6 v7 v8 0 0 0 0 0 I J) (kif (pre_X11_logs (1 : Int32) (-1 : Int32) v4 I J) ((G_X11_hourPasses  n) 269 v1 v2 v3 0 0 v6 v7 v8 0 0 0 0 0 (F_X11_logs (1 : Int32) (-1 : Int32) v4 I J).1 (F_X11_logs (1 : Int32) (-1 : Int32) v4 I J).2) none)) ((G_X11_hourPasses  n) 269 v1 v2 v3 0 0 v6 v7 v8 0 0 0 0 0 I J)) none)) else (bif Nat.beq pc 269 then (kbd (E_X11_passesShips v3 v7 v2 v8 I J) (fun q1 => (kbd (E_X11_tires v8 v2 q1.1 q1.2) (fun q2 => (kif (vp_in (8 : Int32) 2509) (kif ((q2.1 41 0 ((8 : Int32)).toNatClampNeg) = (-1 : Int32)) ((G_X11_hourPasses  n) 322 v1 0 v3 0 0 v6 0 0 0 0 0 0 0 q2.1 q2.2) (kif (vp_in (8 : Int32) 2509) (kif (v1 < (q2.1 41 0 ((8 : Int32)).toNatClampNeg)) ((G_X11_hourPasses  n) 322 v1 0 v3 0 0 v6 0 0 0 0 0 0 0 q2.1 q2.2) (kif (v2 = (2 : Int32)) ((G_X11_hourPasses  n) 322 v1 0 v3 0 0 v6 0 0 0 0 0 0 0 q2.1 q2.2) (kif (v3 = 0) ((G_X11_hourPasses  n) 323 v1 0 v3 0 0 v6 0 0 0 0 (1 : Int32) 0 0 q2.1 q2.2) ((G_X11_hourPasses  n) 322 v1 0 v3 0 0 v6 0 0 0 0 0 0 0 q2.1 q2.2)))) none)) none))))) else (bif Nat.beq pc 322 then ((G_X11_hourPasses  n) 323 v1 0 v3 0 0 v6 0 0 0 0 (0 : Int32) 0 0 I J) else (bif Nat.beq pc 323 then (kif ((s1 = 0 ∨ s1 = 1)) (kif (((kw I 11 0 7 s1) 11 0 7) = 0) ((G_X11_hourPasses  n) 448 v1 0 v3 0 0 v6 0 0 0 0 0 0 0 (kw I 11 0 7 s1) J) (kif (vp_in (4 : Int32) 2509) (kif (vp_in (10 : Int32) 2509) (kif (vp_in (4 : Int32) 2509) (kif (vp_in (5 : Int32) 2509) (kif (vp_in (11 : Int32) 2509) (kif (vp_in (5 : Int32) 2509) ((G_X11_hourPasses  n) 385 v1 0 v3 0 0 v6 0 0 0 0 0 0 0 (kw (kw (kw I 11 0 7 s1) 41 0 ((4 : Int32)).toNatClampNeg (if (((kw I 11 0 7 s1) 41 0 ((4 : Int32)).toNatClampNeg) + ((kw I 11 0 7 s1) 41 0 ((10 : Int32)).toNatClampNeg)) < (9999 : Int32) then (((kw I 11 0 7 s1) 41 0 ((4 : Int32)).toNatClampNeg) + ((kw I 11 0 7 s1) 41 0 ((10 : Int32)).toNatClampNeg)) else (9999 : Int32))) 41 0 ((5 : Int32)).toNatClampNeg (if (((kw (kw I 11 0 7 s1) 41 0 ((4 : Int32)).toNatClampNeg (if (((kw I 11 0 7 s1) 41 0 ((4 : Int32)).toNatClampNeg) + ((kw I 11 0 7 s1) 41 0 ((10 : Int32)).toNatClampNeg)) < (9999 : Int32) then (((kw I 11 0 7 s1) 41 0 ((4 : Int32)).toNatClampNeg) + ((kw I 11 0 7 s1) 41 0 ((10 : Int32)).toNatClampNeg)) else (9999 : Int32))) 41 0 ((5 : Int32)).toNatClampNeg) + ((kw (kw I 11 0 7 s1) 41 0 ((4 : Int32)).toNatClampNeg (if (((kw I 11 0 7 s1) 41 0 ((4 : Int32)).toNatClampNeg) + ((kw I 11 0 7 s1) 41 0 ((10 : Int32)).toNatClampNeg)) < (9999 : Int32) then (((kw I 11 0 7 s1) 41 0 ((4 : Int32)).toNatClampNeg) + ((kw I 11 0 7 s1) 41 0 ((10 : Int32)).toNatClampNeg)) else (9999 : Int32))) 41 0 ((11 : Int32)).toNatClampNeg)) < (9999 : Int32) then (((kw (kw I 11 0 7 s1) 41 0 ((4 : Int32)).toNatClampNeg (if (((kw I 11 0 7 s1) 41 0 ((4 : Int32)).toNatClampNeg) + ((kw I 11 0 7 s1) 41 0 ((10 : Int32)).toNatClampNeg)) < (9999 : Int32) then (((kw I 11 0 7 s1) 41 0 ((4 : Int32)).toNatClampNeg) + ((kw I 11 0 7 s1) 41 0 ((10 : Int32)).toNatClampNeg)) else (9999 : Int32))) 41 0 ((5 : Int32)).toNatClampNeg) + ((kw (kw I 11 0 7 s1) 41 0 ((4 : Int32)).toNatClampNeg (if (((kw I 11 0 7 s1) 41 0 ((4 : Int32)).toNatClampNeg) + ((kw I 11 0 7 s1) 41 0 ((10 : Int32)).toNatClampNeg)) < (9999 : Int32) then (((kw I 11 0 7 s1) 41 0 ((4 : Int32)).toNatClampNeg) + ((kw I 11 0 7 s1) 41 0 ((10 : Int32)).toNatClampNeg)) else (9999 : Int32))) 41 0 ((11 : Int32)).toNatClampNeg)) else (9999 : Int32))) J) none) none) none) none) none) none)) none) else (bif Nat.beq pc 385 then (kif (vp_in (9 : Int32) 2509) (kif (vp_in (8 : Int32) 2509) (kif (vp_in (18 : Int32) 2509) (kif (vp_in (18 : Int32) 2509) ((G_X11_hourPasses  n) 415 v1 0 v3 0 0 v6 0 0 (0 : Int32) 0 0 0 0 (kw (kw I 41 0 ((8 : Int32)).toNatClampNeg (v1 + (I 41 0 ((9 : Int32)).toNatClampNeg))) 41 0 ((18 : Int32)).toNatClampNeg (((kw I 41 0 ((8 : Int32)).toNatClampNeg (v1 + (I 41 0 ((9 : Int32)).toNatClampNeg))) 41 0 ((18 : Int32)).toNatClampNeg) + (1 : Int32))) J) none) none) none) none) else (bif Nat.beq pc 415 then (kif (vp_in (13 : Int32) 2509) (kif ((I 41 0 ((13 : Int32)).toNatClampNeg) ≤ v9) ((G_X11_hourPasses  n) 448 v1 0 v3 0 0 v6 0 0 0 0 0 0 0 I J) (kif (vp_in (((61 : Int32) + ((4 : Int32) * v9)) + (1 : Int32)) 2509) ((G_X11_hourPasses  n) 415 v1 0 v3 0 0 v6 0 0 (v9 + (1)) 0 0 0 0 (kw I 41 0 ((((61 : Int32) + ((4 : Int32) * v9)) + (1 : Int32))).toNatClampNeg (0 : Int32)) J) none)) none) else (bif Nat.beq pc 448 then (kif ((v3 = 0 ∨ v3 = 1)) (kif ((v6 = 0 ∨ v6 = 1)) (kif (vp_in (0 : Int32) 2509) (some ((kw (kw (kw I 11 0 5 v3) 11 0 6 v6) 41 0 ((0 : Int32)).toNatClampNeg (v1 + (1 : Int32))), J)) none) none) none) else none))))))))))))))))))))
theorem G_X11_hourPasses_58  (n : Nat) (v1 : Int32) (v2 : Int32) (v3 : Int32) (v4 : Int32) (v5 : Int32) (v6 : Int32) (v7 : Int32) (v8 : Int32) (v9 : Int32) (s0 : Int32) (s1 : Int32) (s2 : Int32) (s3 : Int32) (I : kI) (J : kJ) : G_X11_hourPasses  (n + 1) 58 v1 v2 v3 v4 v5 v6 v7 v8 v9 s0 s1 s2 s3 I J = ((G_X11_hourPasses  n) 59 v1 v2 v3 v4 0 0 0 0 0 (0 : Int32) 0 0 0 I J) := rfl
theorem G_X11_hourPasses_59  (n : Nat) (v1 : Int32) (v2 : Int32) (v3 : Int32) (v4 : Int32) (v5 : Int32) (v6 : Int32) (v7 : Int32) (v8 : Int32) (v9 : Int32) (s0 : Int32) (s1 : Int32) (s2 : Int32) (s3 : Int32) (I : kI) (J : kJ) : G_X11_hourPasses  (n + 1) 59 v1 v2 v3 v4 v5 v6 v7 v8 v9 s0 s1 s2 s3 I J = (kif (v4 < 0) ((G_X11_hourPasses  n) 75 v1 v2 v3 v4 s0 0 0 0 0 0 0 0 0 I J) (kif (s0 = 0) ((G_X11_hourPasses  n) 76 v1 v2 v3 v4 s0 0 0 0 0 (1 : Int32) 0 0 0 I J) ((G_X11_hourPasses  n) 75 v1 v2 v3 v4 s0 0 0 0 0 0 0 0 0 I J))) := rfl
theorem G_X11_hourPasses_75  (n : Nat) (v1 : Int32) (v2 : Int32) (v3 : Int32) (v4 : Int32) (v5 : Int32) (v6 : Int32) (v7 : Int32) (v8 : Int32) (v9 : Int32) (s0 : Int32) (s1 : Int32) (s2 : Int32) (s3 : Int32) (I : kI) (J : kJ) : G_X11_hourPasses  (n + 1) 75 v1 v2 v3 v4 v5 v6 v7 v8 v9 s0 s1 s2 s3 I J = ((G_X11_hourPasses  n) 76 v1 v2 v3 v4 v5 0 0 0 0 (0 : Int32) 0 0 0 I J) := rfl
theorem G_X11_hourPasses_76  (n : Nat) (v1 : Int32) (v2 : Int32) (v3 : Int32) (v4 : Int32) (v5 : Int32) (v6 : Int32) (v7 : Int32) (v8 : Int32) (v9 : Int32) (s0 : Int32) (s1 : Int32) (s2 : Int32) (s3 : Int32) (I : kI) (J : kJ) : G_X11_hourPasses  (n + 1) 76 v1 v2 v3 v4 v5 v6 v7 v8 v9 s0 s1 s2 s3 I J = (kif (v4 < 0) ((G_X11_hourPasses  n) 130 v1 v2 v3 v4 v5 s0 0 0 0 0 0 0 0 I J) (kif (v5 = 0) ((G_X11_hourPasses  n) 104 v1 v2 v3 v4 v5 s0 0 0 0 0 ((61 : Int32) + ((4 : Int32) * v4)) (2 : Int32) 0 I J) ((G_X11_hourPasses  n) 104 v1 v2 v3 v4 v5 s0 0 0 0 0 ((61 : Int32) + ((4 : Int32) * v4)) (3 : Int32) 0 I J))) := rfl
theorem G_X11_hourPasses_104  (n : Nat) (v1 : Int32) (v2 : Int32) (v3 : Int32) (v4 : Int32) (v5 : Int32) (v6 : Int32) (v7 : Int32) (v8 : Int32) (v9 : Int32) (s0 : Int32) (s1 : Int32) (s2 : Int32) (s3 : Int32) (I : kI) (J : kJ) : G_X11_hourPasses  (n + 1) 104 v1 v2 v3 v4 v5 v6 v7 v8 v9 s0 s1 s2 s3 I J = (kif (vp_in (s1 + s2) 2509) (kif (vp_in (s1 + s2) 2509) (kif (vp_in (20 : Int32) 2509) (kif (v5 = 0) ((G_X11_hourPasses  n) 128 v1 v2 v3 v4 v5 v6 0 0 0 0 (20 : Int32) ((kw I 41 0 ((s1 + s2)).toNatClampNeg ((I 41 0 ((s1 + s2)).toNatClampNeg) + (1 : Int32))) 41 0 ((20 : Int32)).toNatClampNeg) (0 : Int32) (kw I 41 0 ((s1 + s2)).toNatClampNeg ((I 41 0 ((s1 + s2)).toNatClampNeg) + (1 : Int32))) J) ((G_X11_hourPasses  n) 128 v1 v2 v3 v4 v5 v6 0 0 0 0 (20 : Int32) ((kw I 41 0 ((s1 + s2)).toNatClampNeg ((I 41 0 ((s1 + s2)).toNatClampNeg) + (1 : Int32))) 41 0 ((20 : Int32)).toNatClampNeg) (1 : Int32) (kw I 41 0 ((s1 + s2)).toNatClampNeg ((I 41 0 ((s1 + s2)).toNatClampNeg) + (1 : Int32))) J)) none) none) none) := rfl
theorem G_X11_hourPasses_128  (n : Nat) (v1 : Int32) (v2 : Int32) (v3 : Int32) (v4 : Int32) (v5 : Int32) (v6 : Int32) (v7 : Int32) (v8 : Int32) (v9 : Int32) (s0 : Int32) (s1 : Int32) (s2 : Int32) (s3 : Int32) (I : kI) (J : kJ) : G_X11_hourPasses  (n + 1) 128 v1 v2 v3 v4 v5 v6 v7 v8 v9 s0 s1 s2 s3 I J = (kif (vp_in s1 2509) ((G_X11_hourPasses  n) 130 v1 v2 v3 v4 v5 v6 0 0 0 0 0 0 0 (kw I 41 0 (s1).toNatClampNeg (s2 + s3)) J) none) := rfl
theorem G_X11_hourPasses_130  (n : Nat) (v1 : Int32) (v2 : Int32) (v3 : Int32) (v4 : Int32) (v5 : Int32) (v6 : Int32) (v7 : Int32) (v8 : Int32) (v9 : Int32) (s0 : Int32) (s1 : Int32) (s2 : Int32) (s3 : Int32) (I : kI) (J : kJ) : G_X11_hourPasses  (n + 1) 130 v1 v2 v3 v4 v5 v6 v7 v8 v9 s0 s1 s2 s3 I J = (kbd (E_X11_passesLamp v3 v6 I J) (fun q1 => (kif (v2 = (1 : Int32)) (kif (v6 = 0) ((G_X11_hourPasses  n) 161 v1 v2 v3 v4 v5 v6 0 0 0 0 0 0 0 q1.1 q1.2) (kif (vp_in (5 : Int32) 2509) (kif ((q1.1 41 0 ((5 : Int32)).toNatClampNeg) < (1 : Int32)) ((G_X11_hourPasses  n) 161 v1 v2 v3 v4 v5 v6 0 0 0 0 0 0 0 q1.1 q1.2) ((G_X11_hourPasses  n) 162 v1 v2 v3 v4 v5 v6 0 0 0 (1 : Int32) 0 0 0 q1.1 q1.2)) none)) ((G_X11_hourPasses  n) 161 v1 v2 v3 v4 v5 v6 0 0 0 0 0 0 0 q1.1 q1.2)))) := rfl
theorem G_X11_hourPasses_161  (n : Nat) (v1 : Int32) (v2 : Int32) (v3 : Int32) (v4 : Int32) (v5 : Int32) (v6 : Int32) (v7 : Int32) (v8 : Int32) (v9 : Int32) (s0 : Int32) (s1 : Int32) (s2 : Int32) (s3 : Int32) (I : kI) (J : kJ) : G_X11_hourPasses  (n + 1) 161 v1 v2 v3 v4 v5 v6 v7 v8 v9 s0 s1 s2 s3 I J = ((G_X11_hourPasses  n) 162 v1 v2 v3 v4 v5 v6 0 0 0 (0 : Int32) 0 0 0 I J) := rfl
theorem G_X11_hourPasses_162  (n : Nat) (v1 : Int32) (v2 : Int32) (v3 : Int32) (v4 : Int32) (v5 : Int32) (v6 : Int32) (v7 : Int32) (v8 : Int32) (v9 : Int32) (s0 : Int32) (s1 : Int32) (s2 : Int32) (s3 : Int32) (I : kI) (J : kJ) : G_X11_hourPasses  (n + 1) 162 v1 v2 v3 v4 v5 v6 v7 v8 v9 s0 s1 s2 s3 I J = (kif (vp_in (5 : Int32) 2509) (kif (s0 = 0) ((G_X11_hourPasses  n) 181 v1 v2 v3 v4 v5 v6 s0 0 0 0 (5 : Int32) (I 41 0 ((5 : Int32)).toNatClampNeg) (0 : Int32) I J) ((G_X11_hourPasses  n) 181 v1 v2 v3 v4 v5 v6 s0 0 0 0 (5 : Int32) (I 41 0 ((5 : Int32)).toNatClampNeg) (1 : Int32) I J)) none) := rfl
theorem G_X11_hourPasses_181  (n : Nat) (v1 : Int32) (v2 : Int32) (v3 : Int32) (v4 : Int32) (v5 : Int32) (v6 : Int32) (v7 : Int32) (v8 : Int32) (v9 : Int32) (s0 : Int32) (s1 : Int32) (s2 : Int32) (s3 : Int32) (I : kI) (J : kJ) : G_X11_hourPasses  (n + 1) 181 v1 v2 v3 v4 v5 v6 v7 v8 v9 s0 s1 s2 s3 I J = (kif (vp_in s1 2509) (kif (v6 = 0) ((G_X11_hourPasses  n) 194 v1 v2 v3 v4 v5 v6 v7 0 0 (-1 : Int32) 0 0 0 (kw I 41 0 (s1).toNatClampNeg (s2 - s3)) J) ((G_X11_hourPasses  n) 194 v1 v2 v3 v4 v5 v6 v7 0 0 v4 0 0 0 (kw I 41 0 (s1).toNatClampNeg (s2 - s3)) J)) none) := rfl
theorem G_X11_hourPasses_194  (n : Nat) (v1 : Int32) (v2 : Int32) (v3 : Int32) (v4 : Int32) (v5 : Int32) (v6 : Int32) (v7 : Int32) (v8 : Int32) (v9 : Int32) (s0 : Int32) (s1 : Int32) (s2 : Int32) (s3 : Int32) (I : kI) (J : kJ) : G_X11_hourPasses  (n + 1) 194 v1 v2 v3 v4 v5 v6 v7 v8 v9 s0 s1 s2 s3 I J = (kif (v6 = 0) ((G_X11_hourPasses  n) 228 v1 v2 v3 v4 v5 v6 v7 s0 0 0 0 0 0 I J) (kif (v3 = 0) ((G_X11_hourPasses  n) 228 v1 v2 v3 v4 v5 v6 v7 s0 0 0 0 0 0 I J) (kif (vp_in (6 : Int32) 2509) (kif ((I 41 0 ((6 : Int32)).toNatClampNeg) = (1 : Int32)) ((G_X11_hourPasses  n) 222 v1 v2 v3 v4 v5 v6 v7 s0 0 0 (1 : Int32) 0 0 I J) ((G_X11_hourPasses  n) 222 v1 v2 v3 v4 v5 v6 v7 s0 0 0 (2 : Int32) 0 0 I J)) none))) := rfl
theorem G_X11_hourPasses_222  (n : Nat) (v1 : Int32) (v2 : Int32) (v3 : Int32) (v4 : Int32) (v5 : Int32) (v6 : Int32) (v7 : Int32) (v8 : Int32) (v9 : Int32) (s0 : Int32) (s1 : Int32) (s2 : Int32) (s3 : Int32) (I : kI) (J : kJ) : G_X11_hourPasses  (n + 1) 222 v1 v2 v3 v4 v5 v6 v7 v8 v9 s0 s1 s2 s3 I J = (kif (pre_X11_logs s1 (-1 : Int32) v4 I J) ((G_X11_hourPasses  n) 228 v1 v2 v3 v4 v5 v6 v7 v8 0 0 0 0 0 (F_X11_logs s1 (-1 : Int32) v4 I J).1 (F_X11_logs s1 (-1 : Int32) v4 I J).2) none) := rfl
theorem G_X11_hourPasses_228  (n : Nat) (v1 : Int32) (v2 : Int32) (v3 : Int32) (v4 : Int32) (v5 : Int32) (v6 : Int32) (v7 : Int32) (v8 : Int32) (v9 : Int32) (s0 : Int32) (s1 : Int32) (s2 : Int32) (s3 : Int32) (I : kI) (J : kJ) : G_X11_hourPasses  (n + 1) 228 v1 v2 v3 v4 v5 v6 v7 v8 v9 s0 s1 s2 s3 I J = (kif (v7 = 0) ((G_X11_hourPasses  n) 241 v1 v2 v3 v4 v5 v6 v7 v8 0 0 0 0 0 I J) (kif (pre_X11_logs (3 : Int32) (-1 : Int32) v4 I J) ((G_X11_hourPasses  n) 241 v1 v2 v3 v4 v5 v6 v7 v8 0 0 0 0 0 (F_X11_logs (3 : Int32) (-1 : Int32) v4 I J).1 (F_X11_logs (3 : Int32) (-1 : Int32) v4 I J).2) none)) := rfl
theorem G_X11_hourPasses_241  (n : Nat) (v1 : Int32) (v2 : Int32) (v3 : Int32) (v4 : Int32) (v5 : Int32) (v6 : Int32) (v7 : Int32) (v8 : Int32) (v9 : Int32) (s0 : Int32) (s1 : Int32) (s2 : Int32) (s3 : Int32) (I : kI) (J : kJ) : G_X11_hourPasses  (n + 1) 241 v1 v2 v3 v4 v5 v6 v7 v8 v9 s0 s1 s2 s3 I J = (kif (v5 = 0) ((G_X11_hourPasses  n) 269 v1 v2 v3 0 0 v6 v7 v8 0 0 0 0 0 I J) (kif (pre_X11_ofKeeper v4 (0 : Int32) I J) (kif ((F_X11_ofKeeper v4 (0 : Int32) I J) = (2 : Int32)) (kif (v3 = 0) ((G_X11_hourPasses  n) 269 v1 v2 v3 0 0 v6 v7 v8 0 0 0 0 0 I J) (kif (pre_X11_logs (1 : Int32) (-1 : Int32) v4 I J) ((G_X11_hourPasses  n) 269 v1 v2 v3 0 0 v6 v7 v8 0 0 0 0 0 (F_X11_logs (1 : Int32) (-1 : Int32) v4 I J).1 (F_X11_logs (1 : Int32) (-1 : Int32) v4 I J).2) none)) ((G_X11_hourPasses  n) 269 v1 v2 v3 0 0 v6 v7 v8 0 0 0 0 0 I J)) none)) := rfl
theorem G_X11_hourPasses_269  (n : Nat) (v1 : Int32) (v2 : Int32) (v3 : Int32) (v4 : Int32) (v5 : Int32) (v6 : Int32) (v7 : Int32) (v8 : Int32) (v9 : Int32) (s0 : Int32) (s1 : Int32) (s2 : Int32) (s3 : Int32) (I : kI) (J : kJ) : G_X11_hourPasses  (n + 1) 269 v1 v2 v3 v4 v5 v6 v7 v8 v9 s0 s1 s2 s3 I J = (kbd (E_X11_passesShips v3 v7 v2 v8 I J) (fun q1 => (kbd (E_X11_tires v8 v2 q1.1 q1.2) (fun q2 => (kif (vp_in (8 : Int32) 2509) (kif ((q2.1 41 0 ((8 : Int32)).toNatClampNeg) = (-1 : Int32)) ((G_X11_hourPasses  n) 322 v1 0 v3 0 0 v6 0 0 0 0 0 0 0 q2.1 q2.2) (kif (vp_in (8 : Int32) 2509) (kif (v1 < (q2.1 41 0 ((8 : Int32)).toNatClampNeg)) ((G_X11_hourPasses  n) 322 v1 0 v3 0 0 v6 0 0 0 0 0 0 0 q2.1 q2.2) (kif (v2 = (2 : Int32)) ((G_X11_hourPasses  n) 322 v1 0 v3 0 0 v6 0 0 0 0 0 0 0 q2.1 q2.2) (kif (v3 = 0) ((G_X11_hourPasses  n) 323 v1 0 v3 0 0 v6 0 0 0 0 (1 : Int32) 0 0 q2.1 q2.2) ((G_X11_hourPasses  n) 322 v1 0 v3 0 0 v6 0 0 0 0 0 0 0 q2.1 q2.2)))) none)) none))))) := rfl
theorem G_X11_hourPasses_322  (n : Nat) (v1 : Int32) (v2 : Int32) (v3 : Int32) (v4 : Int32) (v5 : Int32) (v6 : Int32) (v7 : Int32) (v8 : Int32) (v9 : Int32) (s0 : Int32) (s1 : Int32) (s2 : Int32) (s3 : Int32) (I : kI) (J : kJ) : G_X11_hourPasses  (n + 1) 322 v1 v2 v3 v4 v5 v6 v7 v8 v9 s0 s1 s2 s3 I J = ((G_X11_hourPasses  n) 323 v1 0 v3 0 0 v6 0 0 0 0 (0 : Int32) 0 0 I J) := rfl
theorem G_X11_hourPasses_323  (n : Nat) (v1 : Int32) (v2 : Int32) (v3 : Int32) (v4 : Int32) (v5 : Int32) (v6 : Int32) (v7 : Int32) (v8 : Int32) (v9 : Int32) (s0 : Int32) (s1 : Int32) (s2 : Int32) (s3 : Int32) (I : kI) (J : kJ) : G_X11_hourPasses  (n + 1) 323 v1 v2 v3 v4 v5 v6 v7 v8 v9 s0 s1 s2 s3 I J = (kif ((s1 = 0 ∨ s1 = 1)) (kif (((kw I 11 0 7 s1) 11 0 7) = 0) ((G_X11_hourPasses  n) 448 v1 0 v3 0 0 v6 0 0 0 0 0 0 0 (kw I 11 0 7 s1) J) (kif (vp_in (4 : Int32) 2509) (kif (vp_in (10 : Int32) 2509) (kif (vp_in (4 : Int32) 2509) (kif (vp_in (5 : Int32) 2509) (kif (vp_in (11 : Int32) 2509) (kif (vp_in (5 : Int32) 2509) ((G_X11_hourPasses  n) 385 v1 0 v3 0 0 v6 0 0 0 0 0 0 0 (kw (kw (kw I 11 0 7 s1) 41 0 ((4 : Int32)).toNatClampNeg (if (((kw I 11 0 7 s1) 41 0 ((4 : Int32)).toNatClampNeg) + ((kw I 11 0 7 s1) 41 0 ((10 : Int32)).toNatClampNeg)) < (9999 : Int32) then (((kw I 11 0 7 s1) 41 0 ((4 : Int32)).toNatClampNeg) + ((kw I 11 0 7 s1) 41 0 ((10 : Int32)).toNatClampNeg)) else (9999 : Int32))) 41 0 ((5 : Int32)).toNatClampNeg (if (((kw (kw I 11 0 7 s1) 41 0 ((4 : Int32)).toNatClampNeg (if (((kw I 11 0 7 s1) 41 0 ((4 : Int32)).toNatClampNeg) + ((kw I 11 0 7 s1) 41 0 ((10 : Int32)).toNatClampNeg)) < (9999 : Int32) then (((kw I 11 0 7 s1) 41 0 ((4 : Int32)).toNatClampNeg) + ((kw I 11 0 7 s1) 41 0 ((10 : Int32)).toNatClampNeg)) else (9999 : Int32))) 41 0 ((5 : Int32)).toNatClampNeg) + ((kw (kw I 11 0 7 s1) 41 0 ((4 : Int32)).toNatClampNeg (if (((kw I 11 0 7 s1) 41 0 ((4 : Int32)).toNatClampNeg) + ((kw I 11 0 7 s1) 41 0 ((10 : Int32)).toNatClampNeg)) < (9999 : Int32) then (((kw I 11 0 7 s1) 41 0 ((4 : Int32)).toNatClampNeg) + ((kw I 11 0 7 s1) 41 0 ((10 : Int32)).toNatClampNeg)) else (9999 : Int32))) 41 0 ((11 : Int32)).toNatClampNeg)) < (9999 : Int32) then (((kw (kw I 11 0 7 s1) 41 0 ((4 : Int32)).toNatClampNeg (if (((kw I 11 0 7 s1) 41 0 ((4 : Int32)).toNatClampNeg) + ((kw I 11 0 7 s1) 41 0 ((10 : Int32)).toNatClampNeg)) < (9999 : Int32) then (((kw I 11 0 7 s1) 41 0 ((4 : Int32)).toNatClampNeg) + ((kw I 11 0 7 s1) 41 0 ((10 : Int32)).toNatClampNeg)) else (9999 : Int32))) 41 0 ((5 : Int32)).toNatClampNeg) + ((kw (kw I 11 0 7 s1) 41 0 ((4 : Int32)).toNatClampNeg (if (((kw I 11 0 7 s1) 41 0 ((4 : Int32)).toNatClampNeg) + ((kw I 11 0 7 s1) 41 0 ((10 : Int32)).toNatClampNeg)) < (9999 : Int32) then (((kw I 11 0 7 s1) 41 0 ((4 : Int32)).toNatClampNeg) + ((kw I 11 0 7 s1) 41 0 ((10 : Int32)).toNatClampNeg)) else (9999 : Int32))) 41 0 ((11 : Int32)).toNatClampNeg)) else (9999 : Int32))) J) none) none) none) none) none) none)) none) := rfl
theorem G_X11_hourPasses_385  (n : Nat) (v1 : Int32) (v2 : Int32) (v3 : Int32) (v4 : Int32) (v5 : Int32) (v6 : Int32) (v7 : Int32) (v8 : Int32) (v9 : Int32) (s0 : Int32) (s1 : Int32) (s2 : Int32) (s3 : Int32) (I : kI) (J : kJ) : G_X11_hourPasses  (n + 1) 385 v1 v2 v3 v4 v5 v6 v7 v8 v9 s0 s1 s2 s3 I J = (kif (vp_in (9 : Int32) 2509) (kif (vp_in (8 : Int32) 2509) (kif (vp_in (18 : Int32) 2509) (kif (vp_in (18 : Int32) 2509) ((G_X11_hourPasses  n) 415 v1 0 v3 0 0 v6 0 0 (0 : Int32) 0 0 0 0 (kw (kw I 41 0 ((8 : Int32)).toNatClampNeg (v1 + (I 41 0 ((9 : Int32)).toNatClampNeg))) 41 0 ((18 : Int32)).toNatClampNeg (((kw I 41 0 ((8 : Int32)).toNatClampNeg (v1 + (I 41 0 ((9 : Int32)).toNatClampNeg))) 41 0 ((18 : Int32)).toNatClampNeg) + (1 : Int32))) J) none) none) none) none) := rfl
theorem G_X11_hourPasses_415  (n : Nat) (v1 : Int32) (v2 : Int32) (v3 : Int32) (v4 : Int32) (v5 : Int32) (v6 : Int32) (v7 : Int32) (v8 : Int32) (v9 : Int32) (s0 : Int32) (s1 : Int32) (s2 : Int32) (s3 : Int32) (I : kI) (J : kJ) : G_X11_hourPasses  (n + 1) 415 v1 v2 v3 v4 v5 v6 v7 v8 v9 s0 s1 s2 s3 I J = (kif (vp_in (13 : Int32) 2509) (kif ((I 41 0 ((13 : Int32)).toNatClampNeg) ≤ v9) ((G_X11_hourPasses  n) 448 v1 0 v3 0 0 v6 0 0 0 0 0 0 0 I J) (kif (vp_in (((61 : Int32) + ((4 : Int32) * v9)) + (1 : Int32)) 2509) ((G_X11_hourPasses  n) 415 v1 0 v3 0 0 v6 0 0 (v9 + (1)) 0 0 0 0 (kw I 41 0 ((((61 : Int32) + ((4 : Int32) * v9)) + (1 : Int32))).toNatClampNeg (0 : Int32)) J) none)) none) := rfl
theorem G_X11_hourPasses_448  (n : Nat) (v1 : Int32) (v2 : Int32) (v3 : Int32) (v4 : Int32) (v5 : Int32) (v6 : Int32) (v7 : Int32) (v8 : Int32) (v9 : Int32) (s0 : Int32) (s1 : Int32) (s2 : Int32) (s3 : Int32) (I : kI) (J : kJ) : G_X11_hourPasses  (n + 1) 448 v1 v2 v3 v4 v5 v6 v7 v8 v9 s0 s1 s2 s3 I J = (kif ((v3 = 0 ∨ v3 = 1)) (kif ((v6 = 0 ∨ v6 = 1)) (kif (vp_in (0 : Int32) 2509) (some ((kw (kw (kw I 11 0 5 v3) 11 0 6 v6) 41 0 ((0 : Int32)).toNatClampNeg (v1 + (1 : Int32))), J)) none) none) none) := rfl
noncomputable def E_X11_hourPasses  (I : kI) (J : kJ) : Option (kI × kJ) := (kif (vp_in (0 : Int32) 2509) (kbd (E_X11_weatherOf (I 41 0 ((0 : Int32)).toNatClampNeg) I J) (fun q1 => (kif (pre_X11_isDark (I 41 0 ((0 : Int32)).toNatClampNeg) I J) (kif (¬ (24 : Int32) = 0) (kif (vp_in ((85 : Int32) + ((I 41 0 ((0 : Int32)).toNatClampNeg) - (I 41 0 ((0 : Int32)).toNatClampNeg) / (24 : Int32) * (24 : Int32))) 2509) (kif ((I 41 0 (((85 : Int32) + ((I 41 0 ((0 : Int32)).toNatClampNeg) - (I 41 0 ((0 : Int32)).toNatClampNeg) / (24 : Int32) * (24 : Int32)))).toNatClampNeg) < 0) ((G_X11_hourPasses  kfu) 58 (I 41 0 ((0 : Int32)).toNatClampNeg) q1 (F_X11_isDark (I 41 0 ((0 : Int32)).toNatClampNeg) I J) (I 41 0 (((85 : Int32) + ((I 41 0 ((0 : Int32)).toNatClampNeg) - (I 41 0 ((0 : Int32)).toNatClampNeg) / (24 : Int32) * (24 : Int32)))).toNatClampNeg) 0 0 0 0 0 0 0 0 0 I J) (kif (pre_X11_ofKeeper (I 41 0 (((85 : Int32) + ((I 41 0 ((0 : Int32)).toNatClampNeg) - (I 41 0 ((0 : Int32)).toNatClampNeg) / (24 : Int32) * (24 : Int32)))).toNatClampNeg) (1 : Int32) I J) (kif (pre_X11_lasts (I 41 0 (((85 : Int32) + ((I 41 0 ((0 : Int32)).toNatClampNeg) - (I 41 0 ((0 : Int32)).toNatClampNeg) / (24 : Int32) * (24 : Int32)))).toNatClampNeg) I J) (kif ((F_X11_ofKeeper (I 41 0 (((85 : Int32) + ((I 41 0 ((0 : Int32)).toNatClampNeg) - (I 41 0 ((0 : Int32)).toNatClampNeg) / (24 : Int32) * (24 : Int32)))).toNatClampNeg) (1 : Int32) I J) < (F_X11_lasts (I 41 0 (((85 : Int32) + ((I 41 0 ((0 : Int32)).toNatClampNeg) - (I 41 0 ((0 : Int32)).toNatClampNeg) / (24 : Int32) * (24 : Int32)))).toNatClampNeg) I J)) ((G_X11_hourPasses  kfu) 58 (I 41 0 ((0 : Int32)).toNatClampNeg) q1 (F_X11_isDark (I 41 0 ((0 : Int32)).toNatClampNeg) I J) (I 41 0 (((85 : Int32) + ((I 41 0 ((0 : Int32)).toNatClampNeg) - (I 41 0 ((0 : Int32)).toNatClampNeg) / (24 : Int32) * (24 : Int32)))).toNatClampNeg) 0 0 0 0 0 0 0 0 0 I J) ((G_X11_hourPasses  kfu) 59 (I 41 0 ((0 : Int32)).toNatClampNeg) q1 (F_X11_isDark (I 41 0 ((0 : Int32)).toNatClampNeg) I J) (I 41 0 (((85 : Int32) + ((I 41 0 ((0 : Int32)).toNatClampNeg) - (I 41 0 ((0 : Int32)).toNatClampNeg) / (24 : Int32) * (24 : Int32)))).toNatClampNeg) 0 0 0 0 0 (1 : Int32) 0 0 0 I J)) none) none)) none) none) none))) none)
set_option maxRecDepth 100000 in
set_option maxHeartbeats 4000000 in
theorem cl_X11_hourPasses  : ∀ n : Nat, (∀ (v1 : Int32) (v2 : Int32) (v3 : Int32) (v4 : Int32) (v5 : Int32) (v6 : Int32) (v7 : Int32) (v8 : Int32) (v9 : Int32) (s0 : Int32) (s1 : Int32) (s2 : Int32) (s3 : Int32) (x5 x6 x7 x8 x9 : Option kx_V) (I : kI) (J : kJ) (q : kI × kJ), G_X11_hourPasses  n 58 v1 v2 v3 v4 v5 v6 v7 v8 v9 s0 s1 s2 s3 I J = some q → kx_Run tb_X11_hourPasses (kx_NC, fun r' S'' => r' = none ∧ S'' = (q.1, q.2, none)) 58 [some (kx_r 11 (0)), some (kx_i v1), some (kx_i v2), some (kx_i v3), some (kx_i v4), x5, x6, x7, x8, x9] [] (I, J, none)) ∧ (∀ (v1 : Int32) (v2 : Int32) (v3 : Int32) (v4 : Int32) (v5 : Int32) (v6 : Int32) (v7 : Int32) (v8 : Int32) (v9 : Int32) (s0 : Int32) (s1 : Int32) (s2 : Int32) (s3 : Int32) (x5 x6 x7 x8 x9 : Option kx_V) (I : kI) (J : kJ) (q : kI × kJ), G_X11_hourPasses  n 59 v1 v2 v3 v4 v5 v6 v7 v8 v9 s0 s1 s2 s3 I J = some q → kx_Run tb_X11_hourPasses (kx_NC, fun r' S'' => r' = none ∧ S'' = (q.1, q.2, none)) 59 [some (kx_r 11 (0)), some (kx_i v1), some (kx_i v2), some (kx_i v3), some (kx_i v4), x5, x6, x7, x8, x9] [kx_i s0] (I, J, none)) ∧ (∀ (v1 : Int32) (v2 : Int32) (v3 : Int32) (v4 : Int32) (v5 : Int32) (v6 : Int32) (v7 : Int32) (v8 : Int32) (v9 : Int32) (s0 : Int32) (s1 : Int32) (s2 : Int32) (s3 : Int32) (x6 x7 x8 x9 : Option kx_V) (I : kI) (J : kJ) (q : kI × kJ), G_X11_hourPasses  n 75 v1 v2 v3 v4 v5 v6 v7 v8 v9 s0 s1 s2 s3 I J = some q → kx_Run tb_X11_hourPasses (kx_NC, fun r' S'' => r' = none ∧ S'' = (q.1, q.2, none)) 75 [some (kx_r 11 (0)), some (kx_i v1), some (kx_i v2), some (kx_i v3), some (kx_i v4), some (kx_i v5), x6, x7, x8, x9] [] (I, J, none)) ∧ (∀ (v1 : Int32) (v2 : Int32) (v3 : Int32) (v4 : Int32) (v5 : Int32) (v6 : Int32) (v7 : Int32) (v8 : Int32) (v9 : Int32) (s0 : Int32) (s1 : Int32) (s2 : Int32) (s3 : Int32) (x6 x7 x8 x9 : Option kx_V) (I : kI) (J : kJ) (q : kI × kJ), G_X11_hourPasses  n 76 v1 v2 v3 v4 v5 v6 v7 v8 v9 s0 s1 s2 s3 I J = some q → kx_Run tb_X11_hourPasses (kx_NC, fun r' S'' => r' = none ∧ S'' = (q.1, q.2, none)) 76 [some (kx_r 11 (0)), some (kx_i v1), some (kx_i v2), some (kx_i v3), some (kx_i v4), some (kx_i v5), x6, x7, x8, x9] [kx_i s0] (I, J, none)) ∧ (∀ (v1 : Int32) (v2 : Int32) (v3 : Int32) (v4 : Int32) (v5 : Int32) (v6 : Int32) (v7 : Int32) (v8 : Int32) (v9 : Int32) (s0 : Int32) (s1 : Int32) (s2 : Int32) (s3 : Int32) (x7 x8 x9 : Option kx_V) (I : kI) (J : kJ) (q : kI × kJ), G_X11_hourPasses  n 104 v1 v2 v3 v4 v5 v6 v7 v8 v9 s0 s1 s2 s3 I J = some q → kx_Run tb_X11_hourPasses (kx_NC, fun r' S'' => r' = none ∧ S'' = (q.1, q.2, none)) 104 [some (kx_r 11 (0)), some (kx_i v1), some (kx_i v2), some (kx_i v3), some (kx_i v4), some (kx_i v5), some (kx_i v6), x7, x8, x9] [kx_i s2, kx_i s1, kx_r 41 (0)] (I, J, none)) ∧ (∀ (v1 : Int32) (v2 : Int32) (v3 : Int32) (v4 : Int32) (v5 : Int32) (v6 : Int32) (v7 : Int32) (v8 : Int32) (v9 : Int32) (s0 : Int32) (s1 : Int32) (s2 : Int32) (s3 : Int32) (x7 x8 x9 : Option kx_V) (I : kI) (J : kJ) (q : kI × kJ), G_X11_hourPasses  n 128 v1 v2 v3 v4 v5 v6 v7 v8 v9 s0 s1 s2 s3 I J = some q → kx_Run tb_X11_hourPasses (kx_NC, fun r' S'' => r' = none ∧ S'' = (q.1, q.2, none)) 128 [some (kx_r 11 (0)), some (kx_i v1), some (kx_i v2), some (kx_i v3), some (kx_i v4), some (kx_i v5), some (kx_i v6), x7, x8, x9] [kx_i s3, kx_i s2, kx_i s1, kx_r 41 (0)] (I, J, none)) ∧ (∀ (v1 : Int32) (v2 : Int32) (v3 : Int32) (v4 : Int32) (v5 : Int32) (v6 : Int32) (v7 : Int32) (v8 : Int32) (v9 : Int32) (s0 : Int32) (s1 : Int32) (s2 : Int32) (s3 : Int32) (x7 x8 x9 : Option kx_V) (I : kI) (J : kJ) (q : kI × kJ), G_X11_hourPasses  n 130 v1 v2 v3 v4 v5 v6 v7 v8 v9 s0 s1 s2 s3 I J = some q → kx_Run tb_X11_hourPasses (kx_NC, fun r' S'' => r' = none ∧ S'' = (q.1, q.2, none)) 130 [some (kx_r 11 (0)), some (kx_i v1), some (kx_i v2), some (kx_i v3), some (kx_i v4), some (kx_i v5), some (kx_i v6), x7, x8, x9] [] (I, J, none)) ∧ (∀ (v1 : Int32) (v2 : Int32) (v3 : Int32) (v4 : Int32) (v5 : Int32) (v6 : Int32) (v7 : Int32) (v8 : Int32) (v9 : Int32) (s0 : Int32) (s1 : Int32) (s2 : Int32) (s3 : Int32) (x7 x8 x9 : Option kx_V) (I : kI) (J : kJ) (q : kI × kJ), G_X11_hourPasses  n 161 v1 v2 v3 v4 v5 v6 v7 v8 v9 s0 s1 s2 s3 I J = some q → kx_Run tb_X11_hourPasses (kx_NC, fun r' S'' => r' = none ∧ S'' = (q.1, q.2, none)) 161 [some (kx_r 11 (0)), some (kx_i v1), some (kx_i v2), some (kx_i v3), some (kx_i v4), some (kx_i v5), some (kx_i v6), x7, x8, x9] [] (I, J, none)) ∧ (∀ (v1 : Int32) (v2 : Int32) (v3 : Int32) (v4 : Int32) (v5 : Int32) (v6 : Int32) (v7 : Int32) (v8 : Int32) (v9 : Int32) (s0 : Int32) (s1 : Int32) (s2 : Int32) (s3 : Int32) (x7 x8 x9 : Option kx_V) (I : kI) (J : kJ) (q : kI × kJ), G_X11_hourPasses  n 162 v1 v2 v3 v4 v5 v6 v7 v8 v9 s0 s1 s2 s3 I J = some q → kx_Run tb_X11_hourPasses (kx_NC, fun r' S'' => r' = none ∧ S'' = (q.1, q.2, none)) 162 [some (kx_r 11 (0)), some (kx_i v1), some (kx_i v2), some (kx_i v3), some (kx_i v4), some (kx_i v5), some (kx_i v6), x7, x8, x9] [kx_i s0] (I, J, none)) ∧ (∀ (v1 : Int32) (v2 : Int32) (v3 : Int32) (v4 : Int32) (v5 : Int32) (v6 : Int32) (v7 : Int32) (v8 : Int32) (v9 : Int32) (s0 : Int32) (s1 : Int32) (s2 : Int32) (s3 : Int32) (x8 x9 : Option kx_V) (I : kI) (J : kJ) (q : kI × kJ), G_X11_hourPasses  n 181 v1 v2 v3 v4 v5 v6 v7 v8 v9 s0 s1 s2 s3 I J = some q → kx_Run tb_X11_hourPasses (kx_NC, fun r' S'' => r' = none ∧ S'' = (q.1, q.2, none)) 181 [some (kx_r 11 (0)), some (kx_i v1), some (kx_i v2), some (kx_i v3), some (kx_i v4), some (kx_i v5), some (kx_i v6), some (kx_i v7), x8, x9] [kx_i s3, kx_i s2, kx_i s1, kx_r 41 (0)] (I, J, none)) ∧ (∀ (v1 : Int32) (v2 : Int32) (v3 : Int32) (v4 : Int32) (v5 : Int32) (v6 : Int32) (v7 : Int32) (v8 : Int32) (v9 : Int32) (s0 : Int32) (s1 : Int32) (s2 : Int32) (s3 : Int32) (x8 x9 : Option kx_V) (I : kI) (J : kJ) (q : kI × kJ), G_X11_hourPasses  n 194 v1 v2 v3 v4 v5 v6 v7 v8 v9 s0 s1 s2 s3 I J = some q → kx_Run tb_X11_hourPasses (kx_NC, fun r' S'' => r' = none ∧ S'' = (q.1, q.2, none)) 194 [some (kx_r 11 (0)), some (kx_i v1), some (kx_i v2), some (kx_i v3), some (kx_i v4), some (kx_i v5), some (kx_i v6), some (kx_i v7), x8, x9] [kx_i s0] (I, J, none)) ∧ (∀ (v1 : Int32) (v2 : Int32) (v3 : Int32) (v4 : Int32) (v5 : Int32) (v6 : Int32) (v7 : Int32) (v8 : Int32) (v9 : Int32) (s0 : Int32) (s1 : Int32) (s2 : Int32) (s3 : Int32) (x9 : Option kx_V) (I : kI) (J : kJ) (q : kI × kJ), G_X11_hourPasses  n 222 v1 v2 v3 v4 v5 v6 v7 v8 v9 s0 s1 s2 s3 I J = some q → kx_Run tb_X11_hourPasses (kx_NC, fun r' S'' => r' = none ∧ S'' = (q.1, q.2, none)) 222 [some (kx_r 11 (0)), some (kx_i v1), some (kx_i v2), some (kx_i v3), some (kx_i v4), some (kx_i v5), some (kx_i v6), some (kx_i v7), some (kx_i v8), x9] [kx_i s1, kx_r 11 (0)] (I, J, none)) ∧ (∀ (v1 : Int32) (v2 : Int32) (v3 : Int32) (v4 : Int32) (v5 : Int32) (v6 : Int32) (v7 : Int32) (v8 : Int32) (v9 : Int32) (s0 : Int32) (s1 : Int32) (s2 : Int32) (s3 : Int32) (x9 : Option kx_V) (I : kI) (J : kJ) (q : kI × kJ), G_X11_hourPasses  n 228 v1 v2 v3 v4 v5 v6 v7 v8 v9 s0 s1 s2 s3 I J = some q → kx_Run tb_X11_hourPasses (kx_NC, fun r' S'' => r' = none ∧ S'' = (q.1, q.2, none)) 228 [some (kx_r 11 (0)), some (kx_i v1), some (kx_i v2), some (kx_i v3), some (kx_i v4), some (kx_i v5), some (kx_i v6), some (kx_i v7), some (kx_i v8), x9] [] (I, J, none)) ∧ (∀ (v1 : Int32) (v2 : Int32) (v3 : Int32) (v4 : Int32) (v5 : Int32) (v6 : Int32) (v7 : Int32) (v8 : Int32) (v9 : Int32) (s0 : Int32) (s1 : Int32) (s2 : Int32) (s3 : Int32) (x9 : Option kx_V) (I : kI) (J : kJ) (q : kI × kJ), G_X11_hourPasses  n 241 v1 v2 v3 v4 v5 v6 v7 v8 v9 s0 s1 s2 s3 I J = some q → kx_Run tb_X11_hourPasses (kx_NC, fun r' S'' => r' = none ∧ S'' = (q.1, q.2, none)) 241 [some (kx_r 11 (0)), some (kx_i v1), some (kx_i v2), some (kx_i v3), some (kx_i v4), some (kx_i v5), some (kx_i v6), some (kx_i v7), some (kx_i v8), x9] [] (I, J, none)) ∧ (∀ (v1 : Int32) (v2 : Int32) (v3 : Int32) (v4 : Int32) (v5 : Int32) (v6 : Int32) (v7 : Int32) (v8 : Int32) (v9 : Int32) (s0 : Int32) (s1 : Int32) (s2 : Int32) (s3 : Int32) (x4 x5 x9 : Option kx_V) (I : kI) (J : kJ) (q : kI × kJ), G_X11_hourPasses  n 269 v1 v2 v3 v4 v5 v6 v7 v8 v9 s0 s1 s2 s3 I J = some q → kx_Run tb_X11_hourPasses (kx_NC, fun r' S'' => r' = none ∧ S'' = (q.1, q.2, none)) 269 [some (kx_r 11 (0)), some (kx_i v1), some (kx_i v2), some (kx_i v3), x4, x5, some (kx_i v6), some (kx_i v7), some (kx_i v8), x9] [] (I, J, none)) ∧ (∀ (v1 : Int32) (v2 : Int32) (v3 : Int32) (v4 : Int32) (v5 : Int32) (v6 : Int32) (v7 : Int32) (v8 : Int32) (v9 : Int32) (s0 : Int32) (s1 : Int32) (s2 : Int32) (s3 : Int32) (x2 x4 x5 x7 x8 x9 : Option kx_V) (I : kI) (J : kJ) (q : kI × kJ), G_X11_hourPasses  n 322 v1 v2 v3 v4 v5 v6 v7 v8 v9 s0 s1 s2 s3 I J = some q → kx_Run tb_X11_hourPasses (kx_NC, fun r' S'' => r' = none ∧ S'' = (q.1, q.2, none)) 322 [some (kx_r 11 (0)), some (kx_i v1), x2, some (kx_i v3), x4, x5, some (kx_i v6), x7, x8, x9] [kx_r 11 (0)] (I, J, none)) ∧ (∀ (v1 : Int32) (v2 : Int32) (v3 : Int32) (v4 : Int32) (v5 : Int32) (v6 : Int32) (v7 : Int32) (v8 : Int32) (v9 : Int32) (s0 : Int32) (s1 : Int32) (s2 : Int32) (s3 : Int32) (x2 x4 x5 x7 x8 x9 : Option kx_V) (I : kI) (J : kJ) (q : kI × kJ), G_X11_hourPasses  n 323 v1 v2 v3 v4 v5 v6 v7 v8 v9 s0 s1 s2 s3 I J = some q → kx_Run tb_X11_hourPasses (kx_NC, fun r' S'' => r' = none ∧ S'' = (q.1, q.2, none)) 323 [some (kx_r 11 (0)), some (kx_i v1), x2, some (kx_i v3), x4, x5, some (kx_i v6), x7, x8, x9] [kx_i s1, kx_r 11 (0)] (I, J, none)) ∧ (∀ (v1 : Int32) (v2 : Int32) (v3 : Int32) (v4 : Int32) (v5 : Int32) (v6 : Int32) (v7 : Int32) (v8 : Int32) (v9 : Int32) (s0 : Int32) (s1 : Int32) (s2 : Int32) (s3 : Int32) (x2 x4 x5 x7 x8 x9 : Option kx_V) (I : kI) (J : kJ) (q : kI × kJ), G_X11_hourPasses  n 385 v1 v2 v3 v4 v5 v6 v7 v8 v9 s0 s1 s2 s3 I J = some q → kx_Run tb_X11_hourPasses (kx_NC, fun r' S'' => r' = none ∧ S'' = (q.1, q.2, none)) 385 [some (kx_r 11 (0)), some (kx_i v1), x2, some (kx_i v3), x4, x5, some (kx_i v6), x7, x8, x9] [] (I, J, none)) ∧ (∀ (v1 : Int32) (v2 : Int32) (v3 : Int32) (v4 : Int32) (v5 : Int32) (v6 : Int32) (v7 : Int32) (v8 : Int32) (v9 : Int32) (s0 : Int32) (s1 : Int32) (s2 : Int32) (s3 : Int32) (x2 x4 x5 x7 x8 : Option kx_V) (I : kI) (J : kJ) (q : kI × kJ), G_X11_hourPasses  n 415 v1 v2 v3 v4 v5 v6 v7 v8 v9 s0 s1 s2 s3 I J = some q → kx_Run tb_X11_hourPasses (kx_NC, fun r' S'' => r' = none ∧ S'' = (q.1, q.2, none)) 415 [some (kx_r 11 (0)), some (kx_i v1), x2, some (kx_i v3), x4, x5, some (kx_i v6), x7, x8, some (kx_i v9)] [] (I, J, none)) ∧ (∀ (v1 : Int32) (v2 : Int32) (v3 : Int32) (v4 : Int32) (v5 : Int32) (v6 : Int32) (v7 : Int32) (v8 : Int32) (v9 : Int32) (s0 : Int32) (s1 : Int32) (s2 : Int32) (s3 : Int32) (x2 x4 x5 x7 x8 x9 : Option kx_V) (I : kI) (J : kJ) (q : kI × kJ), G_X11_hourPasses  n 448 v1 v2 v3 v4 v5 v6 v7 v8 v9 s0 s1 s2 s3 I J = some q → kx_Run tb_X11_hourPasses (kx_NC, fun r' S'' => r' = none ∧ S'' = (q.1, q.2, none)) 448 [some (kx_r 11 (0)), some (kx_i v1), x2, some (kx_i v3), x4, x5, some (kx_i v6), x7, x8, x9] [] (I, J, none)) := by
  intro n
  induction n with
  | zero => refine ⟨?_, ?_, ?_, ?_, ?_, ?_, ?_, ?_, ?_, ?_, ?_, ?_, ?_, ?_, ?_, ?_, ?_, ?_, ?_, ?_⟩ <;> (intros; rename_i h; have h2 : (none : Option _) = some _ := h; cases h2)
  | succ n ih =>
    refine ⟨?_, ?_, ?_, ?_, ?_, ?_, ?_, ?_, ?_, ?_, ?_, ?_, ?_, ?_, ?_, ?_, ?_, ?_, ?_, ?_⟩
    · intro v1 v2 v3 v4 v5 v6 v7 v8 v9 s0 s1 s2 s3 x5 x6 x7 x8 x9  I J q hG
      rw [G_X11_hourPasses_58] at hG
      refine kx_start [58, 59, 75, 76, 104, 128, 130, 161, 162, 181, 194, 222, 228, 241, 269, 322, 323, 385, 415, 448] 273 ?_
      exact (ih.2.1) _ _ _ _ _ _ _ _ _ _ _ _ _ _ _ _ _ _ _ _ q hG
    · intro v1 v2 v3 v4 v5 v6 v7 v8 v9 s0 s1 s2 s3 x5 x6 x7 x8 x9  I J q hG
      rw [G_X11_hourPasses_59] at hG
      refine kx_start [58, 59, 75, 76, 104, 128, 130, 161, 162, 181, 194, 222, 228, 241, 269, 322, 323, 385, 415, 448] 273 ?_
      refine ⟨fun h1 => ?_, fun h1 => ?_⟩
      · replace h1 : v4 < 0 := h1
        rw [kif_pos h1] at hG
        exact (ih.2.2.1) _ _ _ _ _ _ _ _ _ _ _ _ _ _ _ _ _ _ _ q hG
      · replace h1 : ¬ v4 < 0 := h1
        rw [kif_neg h1] at hG
        refine ⟨fun h2 => ?_, fun h2 => ?_⟩
        · replace h2 : ¬ s0 = 0 := h2
          rw [kif_neg h2] at hG
          exact (ih.2.2.1) _ _ _ _ _ _ _ _ _ _ _ _ _ _ _ _ _ _ _ q hG
        · replace h2 : s0 = 0 := h2
          rw [kif_pos h2] at hG
          exact (ih.2.2.2.1) _ _ _ _ _ _ _ _ _ _ _ _ _ _ _ _ _ _ _ q hG
    · intro v1 v2 v3 v4 v5 v6 v7 v8 v9 s0 s1 s2 s3 x6 x7 x8 x9  I J q hG
      rw [G_X11_hourPasses_75] at hG
      refine kx_start [58, 59, 75, 76, 104, 128, 130, 161, 162, 181, 194, 222, 228, 241, 269, 322, 323, 385, 415, 448] 273 ?_
      exact (ih.2.2.2.1) _ _ _ _ _ _ _ _ _ _ _ _ _ _ _ _ _ _ _ q hG
    · intro v1 v2 v3 v4 v5 v6 v7 v8 v9 s0 s1 s2 s3 x6 x7 x8 x9  I J q hG
      rw [G_X11_hourPasses_76] at hG
      refine kx_start [58, 59, 75, 76, 104, 128, 130, 161, 162, 181, 194, 222, 228, 241, 269, 322, 323, 385, 415, 448] 273 ?_
      refine ⟨fun h3 => ?_, fun h3 => ?_⟩
      · replace h3 : v4 < 0 := h3
        rw [kif_pos h3] at hG
        exact (ih.2.2.2.2.2.2.1) _ _ _ _ _ _ _ _ _ _ _ _ _ _ _ _ _ _ q hG
      · replace h3 : ¬ v4 < 0 := h3
        rw [kif_neg h3] at hG
        refine ⟨fun h4 => ?_, fun h4 => ?_⟩
        · replace h4 : v5 = 0 := h4
          rw [kif_pos h4] at hG
          exact (ih.2.2.2.2.1) _ _ _ _ _ _ _ _ _ _ _ _ _ _ _ _ _ _ q hG
        · replace h4 : ¬ v5 = 0 := h4
          rw [kif_neg h4] at hG
          exact (ih.2.2.2.2.1) _ _ _ _ _ _ _ _ _ _ _ _ _ _ _ _ _ _ q hG
    · intro v1 v2 v3 v4 v5 v6 v7 v8 v9 s0 s1 s2 s3 x7 x8 x9  I J q hG
      rw [G_X11_hourPasses_104] at hG
      refine kx_start [58, 59, 75, 76, 104, 128, 130, 161, 162, 181, 194, 222, 228, 241, 269, 322, 323, 385, 415, 448] 273 ?_
      obtain ⟨hq, hG⟩ := kif_some hG
      refine ⟨hq, ?_⟩
      obtain ⟨hq, hG⟩ := kif_some hG
      refine ⟨hq, ?_⟩
      obtain ⟨hq, hG⟩ := kif_some hG
      refine ⟨hq, ?_⟩
      refine ⟨fun h5 => ?_, fun h5 => ?_⟩
      · replace h5 : v5 = 0 := h5
        rw [kif_pos h5] at hG
        exact (ih.2.2.2.2.2.1) _ _ _ _ _ _ _ _ _ _ _ _ _ _ _ _ _ _ q hG
      · replace h5 : ¬ v5 = 0 := h5
        rw [kif_neg h5] at hG
        exact (ih.2.2.2.2.2.1) _ _ _ _ _ _ _ _ _ _ _ _ _ _ _ _ _ _ q hG
    · intro v1 v2 v3 v4 v5 v6 v7 v8 v9 s0 s1 s2 s3 x7 x8 x9  I J q hG
      rw [G_X11_hourPasses_128] at hG
      refine kx_start [58, 59, 75, 76, 104, 128, 130, 161, 162, 181, 194, 222, 228, 241, 269, 322, 323, 385, 415, 448] 273 ?_
      obtain ⟨hq, hG⟩ := kif_some hG
      refine ⟨hq, ?_⟩
      exact (ih.2.2.2.2.2.2.1) _ _ _ _ _ _ _ _ _ _ _ _ _ _ _ _ _ _ q hG
    · intro v1 v2 v3 v4 v5 v6 v7 v8 v9 s0 s1 s2 s3 x7 x8 x9  I J q hG
      rw [G_X11_hourPasses_130] at hG
      refine kx_start [58, 59, 75, 76, 104, 128, 130, 161, 162, 181, 194, 222, 228, 241, 269, 322, 323, 385, 415, 448] 273 ?_
      obtain ⟨q1, hq, hG⟩ := kbd_some hG
      refine ⟨_, _, cs_X11_passesLamp v3 v6 I J q1 hq, rfl, ?_⟩
      refine ⟨fun h6 => ?_, fun h6 => ?_⟩
      · replace h6 : ¬ v2 = (1 : Int32) := h6
        rw [kif_neg h6] at hG
        exact (ih.2.2.2.2.2.2.2.1) _ _ _ _ _ _ _ _ _ _ _ _ _ _ _ _ _ _ q hG
      · replace h6 : v2 = (1 : Int32) := h6
        rw [kif_pos h6] at hG
        refine ⟨fun h7 => ?_, fun h7 => ?_⟩
        · replace h7 : v6 = 0 := h7
          rw [kif_pos h7] at hG
          exact (ih.2.2.2.2.2.2.2.1) _ _ _ _ _ _ _ _ _ _ _ _ _ _ _ _ _ _ q hG
        · replace h7 : ¬ v6 = 0 := h7
          rw [kif_neg h7] at hG
          obtain ⟨hq, hG⟩ := kif_some hG
          refine ⟨hq, ?_⟩
          refine ⟨fun h8 => ?_, fun h8 => ?_⟩
          · replace h8 : (q1.1 41 0 ((5 : Int32)).toNatClampNeg) < (1 : Int32) := h8
            rw [kif_pos h8] at hG
            exact (ih.2.2.2.2.2.2.2.1) _ _ _ _ _ _ _ _ _ _ _ _ _ _ _ _ _ _ q hG
          · replace h8 : ¬ (q1.1 41 0 ((5 : Int32)).toNatClampNeg) < (1 : Int32) := h8
            rw [kif_neg h8] at hG
            exact (ih.2.2.2.2.2.2.2.2.1) _ _ _ _ _ _ _ _ _ _ _ _ _ _ _ _ _ _ q hG
    · intro v1 v2 v3 v4 v5 v6 v7 v8 v9 s0 s1 s2 s3 x7 x8 x9  I J q hG
      rw [G_X11_hourPasses_161] at hG
      refine kx_start [58, 59, 75, 76, 104, 128, 130, 161, 162, 181, 194, 222, 228, 241, 269, 322, 323, 385, 415, 448] 273 ?_
      exact (ih.2.2.2.2.2.2.2.2.1) _ _ _ _ _ _ _ _ _ _ _ _ _ _ _ _ _ _ q hG
    · intro v1 v2 v3 v4 v5 v6 v7 v8 v9 s0 s1 s2 s3 x7 x8 x9  I J q hG
      rw [G_X11_hourPasses_162] at hG
      refine kx_start [58, 59, 75, 76, 104, 128, 130, 161, 162, 181, 194, 222, 228, 241, 269, 322, 323, 385, 415, 448] 273 ?_
      obtain ⟨hq, hG⟩ := kif_some hG
      refine ⟨hq, ?_⟩
      refine ⟨fun h9 => ?_, fun h9 => ?_⟩
      · replace h9 : s0 = 0 := h9
        rw [kif_pos h9] at hG
        exact (ih.2.2.2.2.2.2.2.2.2.1) _ _ _ _ _ _ _ _ _ _ _ _ _ _ _ _ _ q hG
      · replace h9 : ¬ s0 = 0 := h9
        rw [kif_neg h9] at hG
        exact (ih.2.2.2.2.2.2.2.2.2.1) _ _ _ _ _ _ _ _ _ _ _ _ _ _ _ _ _ q hG
    · intro v1 v2 v3 v4 v5 v6 v7 v8 v9 s0 s1 s2 s3 x8 x9  I J q hG
      rw [G_X11_hourPasses_181] at hG
      refine kx_start [58, 59, 75, 76, 104, 128, 130, 161, 162, 181, 194, 222, 228, 241, 269, 322, 323, 385, 415, 448] 273 ?_
      obtain ⟨hq, hG⟩ := kif_some hG
      refine ⟨hq, ?_⟩
      refine ⟨fun h10 => ?_, fun h10 => ?_⟩
      · replace h10 : v6 = 0 := h10
        rw [kif_pos h10] at hG
        exact (ih.2.2.2.2.2.2.2.2.2.2.1) _ _ _ _ _ _ _ _ _ _ _ _ _ _ _ _ _ q hG
      · replace h10 : ¬ v6 = 0 := h10
        rw [kif_neg h10] at hG
        exact (ih.2.2.2.2.2.2.2.2.2.2.1) _ _ _ _ _ _ _ _ _ _ _ _ _ _ _ _ _ q hG
    · intro v1 v2 v3 v4 v5 v6 v7 v8 v9 s0 s1 s2 s3 x8 x9  I J q hG
      rw [G_X11_hourPasses_194] at hG
      refine kx_start [58, 59, 75, 76, 104, 128, 130, 161, 162, 181, 194, 222, 228, 241, 269, 322, 323, 385, 415, 448] 273 ?_
      refine ⟨fun h11 => ?_, fun h11 => ?_⟩
      · replace h11 : v6 = 0 := h11
        rw [kif_pos h11] at hG
        exact (ih.2.2.2.2.2.2.2.2.2.2.2.2.1) _ _ _ _ _ _ _ _ _ _ _ _ _ _ _ _ q hG
      · replace h11 : ¬ v6 = 0 := h11
        rw [kif_neg h11] at hG
        refine ⟨fun h12 => ?_, fun h12 => ?_⟩
        · replace h12 : v3 = 0 := h12
          rw [kif_pos h12] at hG
          exact (ih.2.2.2.2.2.2.2.2.2.2.2.2.1) _ _ _ _ _ _ _ _ _ _ _ _ _ _ _ _ q hG
        · replace h12 : ¬ v3 = 0 := h12
          rw [kif_neg h12] at hG
          obtain ⟨hq, hG⟩ := kif_some hG
          refine ⟨hq, ?_⟩
          refine ⟨fun h13 => ?_, fun h13 => ?_⟩
          · replace h13 : ¬ (I 41 0 ((6 : Int32)).toNatClampNeg) = (1 : Int32) := h13
            rw [kif_neg h13] at hG
            exact (ih.2.2.2.2.2.2.2.2.2.2.2.1) _ _ _ _ _ _ _ _ _ _ _ _ _ _ _ _ q hG
          · replace h13 : (I 41 0 ((6 : Int32)).toNatClampNeg) = (1 : Int32) := h13
            rw [kif_pos h13] at hG
            exact (ih.2.2.2.2.2.2.2.2.2.2.2.1) _ _ _ _ _ _ _ _ _ _ _ _ _ _ _ _ q hG
    · intro v1 v2 v3 v4 v5 v6 v7 v8 v9 s0 s1 s2 s3 x9  I J q hG
      rw [G_X11_hourPasses_222] at hG
      refine kx_start [58, 59, 75, 76, 104, 128, 130, 161, 162, 181, 194, 222, 228, 241, 269, 322, 323, 385, 415, 448] 273 ?_
      obtain ⟨hq, hG⟩ := kif_some hG
      refine ⟨_, _, cs_X11_logs s1 (-1 : Int32) v4 I J hq, rfl, ?_⟩
      exact (ih.2.2.2.2.2.2.2.2.2.2.2.2.1) _ _ _ _ _ _ _ _ _ _ _ _ _ _ _ _ q hG
    · intro v1 v2 v3 v4 v5 v6 v7 v8 v9 s0 s1 s2 s3 x9  I J q hG
      rw [G_X11_hourPasses_228] at hG
      refine kx_start [58, 59, 75, 76, 104, 128, 130, 161, 162, 181, 194, 222, 228, 241, 269, 322, 323, 385, 415, 448] 273 ?_
      refine ⟨fun h14 => ?_, fun h14 => ?_⟩
      · replace h14 : v7 = 0 := h14
        rw [kif_pos h14] at hG
        exact (ih.2.2.2.2.2.2.2.2.2.2.2.2.2.1) _ _ _ _ _ _ _ _ _ _ _ _ _ _ _ _ q hG
      · replace h14 : ¬ v7 = 0 := h14
        rw [kif_neg h14] at hG
        obtain ⟨hq, hG⟩ := kif_some hG
        refine ⟨_, _, cs_X11_logs (3 : Int32) (-1 : Int32) v4 I J hq, rfl, ?_⟩
        exact (ih.2.2.2.2.2.2.2.2.2.2.2.2.2.1) _ _ _ _ _ _ _ _ _ _ _ _ _ _ _ _ q hG
    · intro v1 v2 v3 v4 v5 v6 v7 v8 v9 s0 s1 s2 s3 x9  I J q hG
      rw [G_X11_hourPasses_241] at hG
      refine kx_start [58, 59, 75, 76, 104, 128, 130, 161, 162, 181, 194, 222, 228, 241, 269, 322, 323, 385, 415, 448] 273 ?_
      refine ⟨fun h15 => ?_, fun h15 => ?_⟩
      · replace h15 : v5 = 0 := h15
        rw [kif_pos h15] at hG
        exact (ih.2.2.2.2.2.2.2.2.2.2.2.2.2.2.1) _ _ _ _ _ _ _ _ _ _ _ _ _ _ _ _ _ _ q hG
      · replace h15 : ¬ v5 = 0 := h15
        rw [kif_neg h15] at hG
        obtain ⟨hq, hG⟩ := kif_some hG
        refine ⟨_, _, cs_X11_ofKeeper v4 (0 : Int32) I J hq, rfl, ?_⟩
        refine ⟨fun h16 => ?_, fun h16 => ?_⟩
        · replace h16 : ¬ (F_X11_ofKeeper v4 (0 : Int32) I J) = (2 : Int32) := h16
          rw [kif_neg h16] at hG
          exact (ih.2.2.2.2.2.2.2.2.2.2.2.2.2.2.1) _ _ _ _ _ _ _ _ _ _ _ _ _ _ _ _ _ _ q hG
        · replace h16 : (F_X11_ofKeeper v4 (0 : Int32) I J) = (2 : Int32) := h16
          rw [kif_pos h16] at hG
          refine ⟨fun h17 => ?_, fun h17 => ?_⟩
          · replace h17 : v3 = 0 := h17
            rw [kif_pos h17] at hG
            exact (ih.2.2.2.2.2.2.2.2.2.2.2.2.2.2.1) _ _ _ _ _ _ _ _ _ _ _ _ _ _ _ _ _ _ q hG
          · replace h17 : ¬ v3 = 0 := h17
            rw [kif_neg h17] at hG
            obtain ⟨hq, hG⟩ := kif_some hG
            refine ⟨_, _, cs_X11_logs (1 : Int32) (-1 : Int32) v4 I J hq, rfl, ?_⟩
            exact (ih.2.2.2.2.2.2.2.2.2.2.2.2.2.2.1) _ _ _ _ _ _ _ _ _ _ _ _ _ _ _ _ _ _ q hG
    · intro v1 v2 v3 v4 v5 v6 v7 v8 v9 s0 s1 s2 s3 x4 x5 x9  I J q hG
      rw [G_X11_hourPasses_269] at hG
      refine kx_start [58, 59, 75, 76, 104, 128, 130, 161, 162, 181, 194, 222, 228, 241, 269, 322, 323, 385, 415, 448] 273 ?_
      obtain ⟨q1, hq, hG⟩ := kbd_some hG
      refine ⟨_, _, cs_X11_passesShips v3 v7 v2 v8 I J q1 hq, rfl, ?_⟩
      obtain ⟨q2, hq, hG⟩ := kbd_some hG
      refine ⟨_, _, cs_X11_tires v8 v2 q1.1 q1.2 q2 hq, rfl, ?_⟩
      obtain ⟨hq, hG⟩ := kif_some hG
      refine ⟨hq, ?_⟩
      refine ⟨fun h18 => ?_, fun h18 => ?_⟩
      · replace h18 : (q2.1 41 0 ((8 : Int32)).toNatClampNeg) = (-1 : Int32) := h18
        rw [kif_pos h18] at hG
        exact (ih.2.2.2.2.2.2.2.2.2.2.2.2.2.2.2.1) _ _ _ _ _ _ _ _ _ _ _ _ _ _ _ _ _ _ _ _ _ q hG
      · replace h18 : ¬ (q2.1 41 0 ((8 : Int32)).toNatClampNeg) = (-1 : Int32) := h18
        rw [kif_neg h18] at hG
        obtain ⟨hq, hG⟩ := kif_some hG
        refine ⟨hq, ?_⟩
        refine ⟨fun h19 => ?_, fun h19 => ?_⟩
        · replace h19 : v1 < (q2.1 41 0 ((8 : Int32)).toNatClampNeg) := h19
          rw [kif_pos h19] at hG
          exact (ih.2.2.2.2.2.2.2.2.2.2.2.2.2.2.2.1) _ _ _ _ _ _ _ _ _ _ _ _ _ _ _ _ _ _ _ _ _ q hG
        · replace h19 : ¬ v1 < (q2.1 41 0 ((8 : Int32)).toNatClampNeg) := h19
          rw [kif_neg h19] at hG
          refine ⟨fun h20 => ?_, fun h20 => ?_⟩
          · replace h20 : v2 = (2 : Int32) := h20
            rw [kif_pos h20] at hG
            exact (ih.2.2.2.2.2.2.2.2.2.2.2.2.2.2.2.1) _ _ _ _ _ _ _ _ _ _ _ _ _ _ _ _ _ _ _ _ _ q hG
          · replace h20 : ¬ v2 = (2 : Int32) := h20
            rw [kif_neg h20] at hG
            refine ⟨fun h21 => ?_, fun h21 => ?_⟩
            · replace h21 : ¬ v3 = 0 := h21
              rw [kif_neg h21] at hG
              exact (ih.2.2.2.2.2.2.2.2.2.2.2.2.2.2.2.1) _ _ _ _ _ _ _ _ _ _ _ _ _ _ _ _ _ _ _ _ _ q hG
            · replace h21 : v3 = 0 := h21
              rw [kif_pos h21] at hG
              exact (ih.2.2.2.2.2.2.2.2.2.2.2.2.2.2.2.2.1) _ _ _ _ _ _ _ _ _ _ _ _ _ _ _ _ _ _ _ _ _ q hG
    · intro v1 v2 v3 v4 v5 v6 v7 v8 v9 s0 s1 s2 s3 x2 x4 x5 x7 x8 x9  I J q hG
      rw [G_X11_hourPasses_322] at hG
      refine kx_start [58, 59, 75, 76, 104, 128, 130, 161, 162, 181, 194, 222, 228, 241, 269, 322, 323, 385, 415, 448] 273 ?_
      exact (ih.2.2.2.2.2.2.2.2.2.2.2.2.2.2.2.2.1) _ _ _ _ _ _ _ _ _ _ _ _ _ _ _ _ _ _ _ _ _ q hG
    · intro v1 v2 v3 v4 v5 v6 v7 v8 v9 s0 s1 s2 s3 x2 x4 x5 x7 x8 x9  I J q hG
      rw [G_X11_hourPasses_323] at hG
      refine kx_start [58, 59, 75, 76, 104, 128, 130, 161, 162, 181, 194, 222, 228, 241, 269, 322, 323, 385, 415, 448] 273 ?_
      obtain ⟨hq, hG⟩ := kif_some hG
      refine ⟨hq, ?_⟩
      refine ⟨fun h22 => ?_, fun h22 => ?_⟩
      · replace h22 : ((kw I 11 0 7 s1) 11 0 7) = 0 := h22
        rw [kif_pos h22] at hG
        exact (ih.2.2.2.2.2.2.2.2.2.2.2.2.2.2.2.2.2.2.2) _ _ _ _ _ _ _ _ _ _ _ _ _ _ _ _ _ _ _ _ _ q hG
      · replace h22 : ¬ ((kw I 11 0 7 s1) 11 0 7) = 0 := h22
        rw [kif_neg h22] at hG
        obtain ⟨hq, hG⟩ := kif_some hG
        refine ⟨hq, ?_⟩
        obtain ⟨hq, hG⟩ := kif_some hG
        refine ⟨hq, ?_⟩
        obtain ⟨hq, hG⟩ := kif_some hG
        refine ⟨hq, ?_⟩
        obtain ⟨hq, hG⟩ := kif_some hG
        refine ⟨hq, ?_⟩
        obtain ⟨hq, hG⟩ := kif_some hG
        refine ⟨hq, ?_⟩
        obtain ⟨hq, hG⟩ := kif_some hG
        refine ⟨hq, ?_⟩
        exact (ih.2.2.2.2.2.2.2.2.2.2.2.2.2.2.2.2.2.1) _ _ _ _ _ _ _ _ _ _ _ _ _ _ _ _ _ _ _ _ _ q hG
    · intro v1 v2 v3 v4 v5 v6 v7 v8 v9 s0 s1 s2 s3 x2 x4 x5 x7 x8 x9  I J q hG
      rw [G_X11_hourPasses_385] at hG
      refine kx_start [58, 59, 75, 76, 104, 128, 130, 161, 162, 181, 194, 222, 228, 241, 269, 322, 323, 385, 415, 448] 273 ?_
      obtain ⟨hq, hG⟩ := kif_some hG
      refine ⟨hq, ?_⟩
      obtain ⟨hq, hG⟩ := kif_some hG
      refine ⟨hq, ?_⟩
      obtain ⟨hq, hG⟩ := kif_some hG
      refine ⟨hq, ?_⟩
      obtain ⟨hq, hG⟩ := kif_some hG
      refine ⟨hq, ?_⟩
      exact (ih.2.2.2.2.2.2.2.2.2.2.2.2.2.2.2.2.2.2.1) _ _ _ _ _ _ _ _ _ _ _ _ _ _ _ _ _ _ _ _ q hG
    · intro v1 v2 v3 v4 v5 v6 v7 v8 v9 s0 s1 s2 s3 x2 x4 x5 x7 x8  I J q hG
      rw [G_X11_hourPasses_415] at hG
      refine kx_start [58, 59, 75, 76, 104, 128, 130, 161, 162, 181, 194, 222, 228, 241, 269, 322, 323, 385, 415, 448] 273 ?_
      obtain ⟨hq, hG⟩ := kif_some hG
      refine ⟨hq, ?_⟩
      refine ⟨fun h23 => ?_, fun h23 => ?_⟩
      · replace h23 : (I 41 0 ((13 : Int32)).toNatClampNeg) ≤ v9 := h23
        rw [kif_pos h23] at hG
        exact (ih.2.2.2.2.2.2.2.2.2.2.2.2.2.2.2.2.2.2.2) _ _ _ _ _ _ _ _ _ _ _ _ _ _ _ _ _ _ _ _ _ q hG
      · replace h23 : ¬ (I 41 0 ((13 : Int32)).toNatClampNeg) ≤ v9 := h23
        rw [kif_neg h23] at hG
        obtain ⟨hq, hG⟩ := kif_some hG
        refine ⟨hq, ?_⟩
        exact (ih.2.2.2.2.2.2.2.2.2.2.2.2.2.2.2.2.2.2.1) _ _ _ _ _ _ _ _ _ _ _ _ _ _ _ _ _ _ _ _ q hG
    · intro v1 v2 v3 v4 v5 v6 v7 v8 v9 s0 s1 s2 s3 x2 x4 x5 x7 x8 x9  I J q hG
      rw [G_X11_hourPasses_448] at hG
      refine kx_start [58, 59, 75, 76, 104, 128, 130, 161, 162, 181, 194, 222, 228, 241, 269, 322, 323, 385, 415, 448] 273 ?_
      obtain ⟨hq, hG⟩ := kif_some hG
      refine ⟨hq, ?_⟩
      obtain ⟨hq, hG⟩ := kif_some hG
      refine ⟨hq, ?_⟩
      obtain ⟨hq, hG⟩ := kif_some hG
      refine ⟨hq, ?_⟩
      replace hG := Option.some.inj hG
      subst hG
      exact ⟨rfl, rfl⟩
set_option maxRecDepth 100000 in
set_option maxHeartbeats 4000000 in
theorem cs_X11_hourPasses  (I : kI) (J : kJ) (q : kI × kJ) (hG : E_X11_hourPasses  I J = some q) : sp_X11_hourPasses [kx_r 11 0] (I, J, none) (none) (q.1, q.2, none) := by
  unfold E_X11_hourPasses at hG
  refine kx_start [58, 59, 75, 76, 104, 128, 130, 161, 162, 181, 194, 222, 228, 241, 269, 322, 323, 385, 415, 448] 273 ?_
  obtain ⟨hq, hG⟩ := kif_some hG
  refine ⟨hq, ?_⟩
  obtain ⟨q1, hq, hG⟩ := kbd_some hG
  refine ⟨_, _, cs_X11_weatherOf (I 41 0 ((0 : Int32)).toNatClampNeg) I J q1 hq, rfl, ?_⟩
  obtain ⟨hq, hG⟩ := kif_some hG
  refine ⟨_, _, cs_X11_isDark (I 41 0 ((0 : Int32)).toNatClampNeg) I J hq, rfl, ?_⟩
  obtain ⟨hq, hG⟩ := kif_some hG
  refine ⟨hq, ?_⟩
  obtain ⟨hq, hG⟩ := kif_some hG
  refine ⟨hq, ?_⟩
  refine ⟨fun h1 => ?_, fun h1 => ?_⟩
  · replace h1 : (I 41 0 (((85 : Int32) + ((I 41 0 ((0 : Int32)).toNatClampNeg) - (I 41 0 ((0 : Int32)).toNatClampNeg) / (24 : Int32) * (24 : Int32)))).toNatClampNeg) < 0 := h1
    rw [kif_pos h1] at hG
    exact ((cl_X11_hourPasses  kfu).1) _ _ _ _ _ _ _ _ _ _ _ _ _ _ _ _ _ _ _ _ q hG
  · replace h1 : ¬ (I 41 0 (((85 : Int32) + ((I 41 0 ((0 : Int32)).toNatClampNeg) - (I 41 0 ((0 : Int32)).toNatClampNeg) / (24 : Int32) * (24 : Int32)))).toNatClampNeg) < 0 := h1
    rw [kif_neg h1] at hG
    obtain ⟨hq, hG⟩ := kif_some hG
    refine ⟨_, _, cs_X11_ofKeeper (I 41 0 (((85 : Int32) + ((I 41 0 ((0 : Int32)).toNatClampNeg) - (I 41 0 ((0 : Int32)).toNatClampNeg) / (24 : Int32) * (24 : Int32)))).toNatClampNeg) (1 : Int32) I J hq, rfl, ?_⟩
    obtain ⟨hq, hG⟩ := kif_some hG
    refine ⟨_, _, cs_X11_lasts (I 41 0 (((85 : Int32) + ((I 41 0 ((0 : Int32)).toNatClampNeg) - (I 41 0 ((0 : Int32)).toNatClampNeg) / (24 : Int32) * (24 : Int32)))).toNatClampNeg) I J hq, rfl, ?_⟩
    refine ⟨fun h2 => ?_, fun h2 => ?_⟩
    · replace h2 : (F_X11_ofKeeper (I 41 0 (((85 : Int32) + ((I 41 0 ((0 : Int32)).toNatClampNeg) - (I 41 0 ((0 : Int32)).toNatClampNeg) / (24 : Int32) * (24 : Int32)))).toNatClampNeg) (1 : Int32) I J) < (F_X11_lasts (I 41 0 (((85 : Int32) + ((I 41 0 ((0 : Int32)).toNatClampNeg) - (I 41 0 ((0 : Int32)).toNatClampNeg) / (24 : Int32) * (24 : Int32)))).toNatClampNeg) I J) := h2
      rw [kif_pos h2] at hG
      exact ((cl_X11_hourPasses  kfu).1) _ _ _ _ _ _ _ _ _ _ _ _ _ _ _ _ _ _ _ _ q hG
    · replace h2 : ¬ (F_X11_ofKeeper (I 41 0 (((85 : Int32) + ((I 41 0 ((0 : Int32)).toNatClampNeg) - (I 41 0 ((0 : Int32)).toNatClampNeg) / (24 : Int32) * (24 : Int32)))).toNatClampNeg) (1 : Int32) I J) < (F_X11_lasts (I 41 0 (((85 : Int32) + ((I 41 0 ((0 : Int32)).toNatClampNeg) - (I 41 0 ((0 : Int32)).toNatClampNeg) / (24 : Int32) * (24 : Int32)))).toNatClampNeg) I J) := h2
      rw [kif_neg h2] at hG
      exact ((cl_X11_hourPasses  kfu).2.1) _ _ _ _ _ _ _ _ _ _ _ _ _ _ _ _ _ _ _ _ q hG

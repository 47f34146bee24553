noncomputable def G_X11_oil (a0 : Int32) : Nat → Nat → Int32 → Int32 → kI → kJ → Option (Int32 × kI × kJ)
  | 0, _, _, _, _, _ => none
  | n + 1, pc, v2, v3, I, J => (bif Nat.beq pc 32 then (kif (a0 ≤ v2) (kif (pre_X11_copies (1) (0) I J) (kbd (E_X11_unlitBy (9999 : Int32) a0 (F_X11_copies (1) (0) I J).1 (F_X11_copies (1) (0) I J).2) (fun q1 => ((G_X11_oil a0 n) 99 q1 (0 : Int32) (F_X11_copies (1) (0) I J).1 (F_X11_copies (1) (0) I J).2))) none) (kbd (E_X11_hourPasses  I J) (fun q2 => (kif (vp_in v2 200) (kif (vp_in v2 200) (kif (vp_in v2 200) ((G_X11_oil a0 n) 71 v2 0 (kw (kw (kw q2.1 45 0 (v2).toNatClampNeg (vp_nar .boolean (q2.1 11 0 5))) 46 0 (v2).toNatClampNeg (vp_nar .boolean ((kw q2.1 45 0 (v2).toNatClampNeg (vp_nar .boolean (q2.1 11 0 5))) 11 0 6))) 47 0 (v2).toNatClampNeg (vp_nar .boolean ((kw (kw q2.1 45 0 (v2).toNatClampNeg (vp_nar .boolean (q2.1 11 0 5))) 46 0 (v2).toNatClampNeg (vp_nar .boolean ((kw q2.1 45 0 (v2).toNatClampNeg (vp_nar .boolean (q2.1 11 0 5))) 11 0 6))) 11 0 7))) q2.2) none) none) none)))) else (bif Nat.beq pc 71 then ((G_X11_oil a0 n) 32 (v2 + (1)) 0 I J) else (bif Nat.beq pc 99 then (kbd (E_X11_unlitBy v3 a0 I J) (fun q1 => (kif (q1 ≤ v2) (some (v3, I, J)) ((G_X11_oil a0 n) 99 v2 (v3 + (1)) I J)))) else none)))
theorem G_X11_oil_32 (a0 : Int32) (n : Nat) (v2 : Int32) (v3 : Int32) (I : kI) (J : kJ) : G_X11_oil a0 (n + 1) 32 v2 v3 I J = (kif (a0 ≤ v2) (kif (pre_X11_copies (1) (0) I J) (kbd (E_X11_unlitBy (9999 : Int32) a0 (F_X11_copies (1) (0) I J).1 (F_X11_copies (1) (0) I J).2) (fun q1 => ((G_X11_oil a0 n) 99 q1 (0 : Int32) (F_X11_copies (1) (0) I J).1 (F_X11_copies (1) (0) I J).2))) none) (kbd (E_X11_hourPasses  I J) (fun q2 => (kif (vp_in v2 200) (kif (vp_in v2 200) (kif (vp_in v2 200) ((G_X11_oil a0 n) 71 v2 0 (kw (kw (kw q2.1 45 0 (v2).toNatClampNeg (vp_nar .boolean (q2.1 11 0 5))) 46 0 (v2).toNatClampNeg (vp_nar .boolean ((kw q2.1 45 0 (v2).toNatClampNeg (vp_nar .boolean (q2.1 11 0 5))) 11 0 6))) 47 0 (v2).toNatClampNeg (vp_nar .boolean ((kw (kw q2.1 45 0 (v2).toNatClampNeg (vp_nar .boolean (q2.1 11 0 5))) 46 0 (v2).toNatClampNeg (vp_nar .boolean ((kw q2.1 45 0 (v2).toNatClampNeg (vp_nar .boolean (q2.1 11 0 5))) 11 0 6))) 11 0 7))) q2.2) none) none) none)))) := rfl
theorem G_X11_oil_71 (a0 : Int32) (n : Nat) (v2 : Int32) (v3 : Int32) (I : kI) (J : kJ) : G_X11_oil a0 (n + 1) 71 v2 v3 I J = ((G_X11_oil a0 n) 32 (v2 + (1)) 0 I J) := rfl
theorem G_X11_oil_99 (a0 : Int32) (n : Nat) (v2 : Int32) (v3 : Int32) (I : kI) (J : kJ) : G_X11_oil a0 (n + 1) 99 v2 v3 I J = (kbd (E_X11_unlitBy v3 a0 I J) (fun q1 => (kif (q1 ≤ v2) (some (v3, I, J)) ((G_X11_oil a0 n) 99 v2 (v3 + (1)) I J)))) := rfl
noncomputable def E_X11_oil (a0 : Int32) (I : kI) (J : kJ) : Option (Int32 × kI × kJ) := (kif ((F_X11_in (Int32.toInt64 a0) (0 : Int64) (200 : Int64) I J) = 0) (kif (pre_X11_refused (-102 : Int32) I J) (some ((F_X11_refused (-102 : Int32) I J).1, (F_X11_refused (-102 : Int32) I J).2.1, (F_X11_refused (-102 : Int32) I J).2.2)) none) (kif (pre_X11_copies (0) (1) I J) ((G_X11_oil a0 kfu) 32 (0 : Int32) 0 (F_X11_copies (0) (1) I J).1 (F_X11_copies (0) (1) I J).2) none))
set_option maxRecDepth 100000 in
set_option maxHeartbeats 4000000 in
theorem cl_X11_oil (a0 : Int32) : ∀ n : Nat, (∀ (v2 : Int32) (v3 : Int32) (x3 : Option kx_V) (I : kI) (J : kJ) (q : Int32 × kI × kJ), G_X11_oil a0 n 32 v2 v3 I J = some q → kx_Run tb_X11_oil (kx_NC, fun r' S'' => r' = some (kx_i q.1) ∧ S'' = (q.2.1, q.2.2, none)) 32 [some (kx_r 11 (0)), some (kx_i a0), some (kx_i v2), x3] [] (I, J, none)) ∧ (∀ (v2 : Int32) (v3 : Int32) (x3 : Option kx_V) (I : kI) (J : kJ) (q : Int32 × kI × kJ), G_X11_oil a0 n 71 v2 v3 I J = some q → kx_Run tb_X11_oil (kx_NC, fun r' S'' => r' = some (kx_i q.1) ∧ S'' = (q.2.1, q.2.2, none)) 71 [some (kx_r 11 (0)), some (kx_i a0), some (kx_i v2), x3] [] (I, J, none)) ∧ (∀ (v2 : Int32) (v3 : Int32) (I : kI) (J : kJ) (q : Int32 × kI × kJ), G_X11_oil a0 n 99 v2 v3 I J = some q → kx_Run tb_X11_oil (kx_NC, fun r' S'' => r' = some (kx_i q.1) ∧ S'' = (q.2.1, q.2.2, none)) 99 [some (kx_r 11 (0)), some (kx_i a0), some (kx_i v2), some (kx_i v3)] [] (I, J, none)) := by
  intro n
  induction n with
  | zero => refine ⟨?_, ?_, ?_⟩ <;> (intros; rename_i h; have h2 : (none : Option _) = some _ := h; cases h2)
  | succ n ih =>
    refine ⟨?_, ?_, ?_⟩
    · intro v2 v3 x3  I J q hG
      rw [G_X11_oil_32] at hG
      refine kx_start [32, 71, 99] 67 ?_
      refine ⟨fun h1 => ?_, fun h1 => ?_⟩
      · replace h1 : a0 ≤ v2 := h1
        rw [kif_pos h1] at hG
        obtain ⟨hq, hG⟩ := kif_some hG
        refine ⟨_, _, ct_X11_copies (1) (0) I J hq, rfl, ?_⟩
        obtain ⟨q1, hq, hG⟩ := kbd_some hG
        refine ⟨_, _, cs_X11_unlitBy (9999 : Int32) a0 (F_X11_copies (1) (0) I J).1 (F_X11_copies (1) (0) I J).2 q1 hq, rfl, ?_⟩
        exact (ih.2.2) _ _ _ _ q hG
      · replace h1 : ¬ a0 ≤ v2 := h1
        rw [kif_neg h1] at hG
        obtain ⟨q2, hq, hG⟩ := kbd_some hG
        refine ⟨_, _, cs_X11_hourPasses  I J q2 hq, rfl, ?_⟩
        obtain ⟨hq, hG⟩ := kif_some hG
        refine ⟨hq, ?_⟩
        obtain ⟨hq, hG⟩ := kif_some hG
        refine ⟨hq, ?_⟩
        obtain ⟨hq, hG⟩ := kif_some hG
        refine ⟨hq, ?_⟩
        exact (ih.2.1) _ _ _ _ _ q hG
    · intro v2 v3 x3  I J q hG
      rw [G_X11_oil_71] at hG
      refine kx_start [32, 71, 99] 67 ?_
      exact (ih.1) _ _ _ _ _ q hG
    · intro v2 v3  I J q hG
      rw [G_X11_oil_99] at hG
      refine kx_start [32, 71, 99] 67 ?_
      obtain ⟨q1, hq, hG⟩ := kbd_some hG
      refine ⟨_, _, cs_X11_unlitBy v3 a0 I J q1 hq, rfl, ?_⟩
      refine ⟨fun h2 => ?_, fun h2 => ?_⟩
      · replace h2 : q1 ≤ v2 := h2
        rw [kif_pos h2] at hG
        replace hG := Option.some.inj hG
        subst hG
        exact ⟨rfl, rfl⟩
      · replace h2 : ¬ q1 ≤ v2 := h2
        rw [kif_neg h2] at hG
        exact (ih.2.2) _ _ _ _ q hG
set_option maxRecDepth 100000 in
set_option maxHeartbeats 4000000 in
theorem cs_X11_oil (a0 : Int32) (I : kI) (J : kJ) (q : Int32 × kI × kJ) (hG : E_X11_oil a0 I J = some q) : sp_X11_oil [kx_r 11 0, kx_i a0] (I, J, none) (some (kx_i q.1)) (q.2.1, q.2.2, none) := by
  unfold E_X11_oil at hG
  refine kx_start [32, 71, 99] 67 ?_
  refine ⟨_, _, cs_X11_in (Int32.toInt64 a0) (0 : Int64) (200 : Int64) I J, rfl, ?_⟩
  refine ⟨fun h1 => ?_, fun h1 => ?_⟩
  · replace h1 : ¬ (F_X11_in (Int32.toInt64 a0) (0 : Int64) (200 : Int64) I J) = 0 := h1
    rw [kif_neg h1] at hG
    obtain ⟨hq, hG⟩ := kif_some hG
    refine ⟨_, _, ct_X11_copies (0) (1) I J hq, rfl, ?_⟩
    exact ((cl_X11_oil a0 kfu).1) _ _ _ _ _ q hG
  · replace h1 : (F_X11_in (Int32.toInt64 a0) (0 : Int64) (200 : Int64) I J) = 0 := h1
    rw [kif_pos h1] at hG
    obtain ⟨hq, hG⟩ := kif_some hG
    refine ⟨_, _, cs_X11_refused (-102 : Int32) I J hq, rfl, ?_⟩
    replace hG := Option.some.inj hG
    subst hG
    exact ⟨rfl, rfl⟩
noncomputable def G_X11_better (a0 : Int32) (a1 : Int32) : Nat → Nat → Int32 → Int32 → Int32 → Int32 → kI → kJ → Option (Int32 × kI × kJ)
  | 0, _, _, _, _, _, _, _ => none
  | n + 1, pc, v3, v4, v5, v6, I, J => (bif Nat.beq pc 71 then (kif (vp_in (13 : Int32) 2509) (kif ((I 41 0 ((13 : Int32)).toNatClampNeg) ≤ v6) (kif (vp_in ((85 : Int32) + a0) 2509) (some (v5, (kw I 41 0 (((85 : Int32) + a0)).toNatClampNeg v3), J)) none) (kif (vp_in ((85 : Int32) + a0) 2509) (kbd (E_X11_unlitOf a1 (kw I 41 0 (((85 : Int32) + a0)).toNatClampNeg v6) J) (fun q1 => (kif (v4 ≤ q1.1) ((G_X11_better a0 a1 n) 71 v3 v4 v5 (v6 + (1)) q1.2.1 q1.2.2) ((G_X11_better a0 a1 n) 71 v3 q1.1 v6 (v6 + (1)) q1.2.1 q1.2.2)))) none)) none) else none)
theorem G_X11_better_71 (a0 : Int32) (a1 : Int32) (n : Nat) (v3 : Int32) (v4 : Int32) (v5 : Int32) (v6 : Int32) (I : kI) (J : kJ) : G_X11_better a0 a1 (n + 1) 71 v3 v4 v5 v6 I J = (kif (vp_in (13 : Int32) 2509) (kif ((I 41 0 ((13 : Int32)).toNatClampNeg) ≤ v6) (kif (vp_in ((85 : Int32) + a0) 2509) (some (v5, (kw I 41 0 (((85 : Int32) + a0)).toNatClampNeg v3), J)) none) (kif (vp_in ((85 : Int32) + a0) 2509) (kbd (E_X11_unlitOf a1 (kw I 41 0 (((85 : Int32) + a0)).toNatClampNeg v6) J) (fun q1 => (kif (v4 ≤ q1.1) ((G_X11_better a0 a1 n) 71 v3 v4 v5 (v6 + (1)) q1.2.1 q1.2.2) ((G_X11_better a0 a1 n) 71 v3 q1.1 v6 (v6 + (1)) q1.2.1 q1.2.2)))) none)) none) := rfl
noncomputable def E_X11_better (a0 : Int32) (a1 : Int32) (I : kI) (J : kJ) : Option (Int32 × kI × kJ) := (kif ((F_X11_in (Int32.toInt64 a0) (0 : Int64) (23 : Int64) I J) = 0) (kif (pre_X11_refused (-102 : Int32) I J) (some ((F_X11_refused (-102 : Int32) I J).1, (F_X11_refused (-102 : Int32) I J).2.1, (F_X11_refused (-102 : Int32) I J).2.2)) none) (kif ((F_X11_in (Int32.toInt64 a1) (0 : Int64) (200 : Int64) I J) = 0) (kif (pre_X11_refused (-102 : Int32) I J) (some ((F_X11_refused (-102 : Int32) I J).1, (F_X11_refused (-102 : Int32) I J).2.1, (F_X11_refused (-102 : Int32) I J).2.2)) none) (kif (vp_in (13 : Int32) 2509) (kif ((I 41 0 ((13 : Int32)).toNatClampNeg) = 0) (kif (pre_X11_refused (-105 : Int32) I J) (some ((F_X11_refused (-105 : Int32) I J).1, (F_X11_refused (-105 : Int32) I J).2.1, (F_X11_refused (-105 : Int32) I J).2.2)) none) (kif (vp_in ((85 : Int32) + a0) 2509) (kbd (E_X11_unlitOf a1 I J) (fun q1 => ((G_X11_better a0 a1 kfu) 71 (I 41 0 (((85 : Int32) + a0)).toNatClampNeg) q1.1 (-1 : Int32) (0 : Int32) q1.2.1 q1.2.2))) none)) none)))
set_option maxRecDepth 100000 in
set_option maxHeartbeats 4000000 in
theorem cl_X11_better (a0 : Int32) (a1 : Int32) : ∀ n : Nat, (∀ (v3 : Int32) (v4 : Int32) (v5 : Int32) (v6 : Int32) (x7 : Option kx_V) (I : kI) (J : kJ) (q : Int32 × kI × kJ), G_X11_better a0 a1 n 71 v3 v4 v5 v6 I J = some q → kx_Run tb_X11_better (kx_NC, fun r' S'' => r' = some (kx_i q.1) ∧ S'' = (q.2.1, q.2.2, none)) 71 [some (kx_r 11 (0)), some (kx_i a0), some (kx_i a1), some (kx_i v3), some (kx_i v4), some (kx_i v5), some (kx_i v6), x7] [] (I, J, none)) := by
  intro n
  induction n with
  | zero => (intros; rename_i h; have h2 : (none : Option _) = some _ := h; cases h2)
  | succ n ih =>
    intro v3 v4 v5 v6 x7  I J q hG
    rw [G_X11_better_71] at hG
    refine kx_start [71] 78 ?_
    obtain ⟨hq, hG⟩ := kif_some hG
    refine ⟨hq, ?_⟩
    refine ⟨fun h1 => ?_, fun h1 => ?_⟩
    · replace h1 : (I 41 0 ((13 : Int32)).toNatClampNeg) ≤ v6 := h1
      rw [kif_pos h1] at hG
      obtain ⟨hq, hG⟩ := kif_some hG
      refine ⟨hq, ?_⟩
      replace hG := Option.some.inj hG
      subst hG
      exact ⟨rfl, rfl⟩
    · replace h1 : ¬ (I 41 0 ((13 : Int32)).toNatClampNeg) ≤ v6 := h1
      rw [kif_neg h1] at hG
      obtain ⟨hq, hG⟩ := kif_some hG
      refine ⟨hq, ?_⟩
      obtain ⟨q1, hq, hG⟩ := kbd_some hG
      refine ⟨_, _, cs_X11_unlitOf a1 (kw I 41 0 (((85 : Int32) + a0)).toNatClampNeg v6) J q1 hq, rfl, ?_⟩
      refine ⟨fun h2 => ?_, fun h2 => ?_⟩
      · replace h2 : v4 ≤ q1.1 := h2
        rw [kif_pos h2] at hG
        exact (ih) _ _ _ _ _ _ _ q hG
      · replace h2 : ¬ v4 ≤ q1.1 := h2
        rw [kif_neg h2] at hG
        exact (ih) _ _ _ _ _ _ _ q hG
set_option maxRecDepth 100000 in
set_option maxHeartbeats 4000000 in
theorem cs_X11_better (a0 : Int32) (a1 : Int32) (I : kI) (J : kJ) (q : Int32 × kI × kJ) (hG : E_X11_better a0 a1 I J = some q) : sp_X11_better [kx_r 11 0, kx_i a0, kx_i a1] (I, J, none) (some (kx_i q.1)) (q.2.1, q.2.2, none) := by
  unfold E_X11_better at hG
  refine kx_start [71] 78 ?_
  refine ⟨_, _, cs_X11_in (Int32.toInt64 a0) (0 : Int64) (23 : Int64) I J, rfl, ?_⟩
  refine ⟨fun h1 => ?_, fun h1 => ?_⟩
  · replace h1 : (F_X11_in (Int32.toInt64 a0) (0 : Int64) (23 : Int64) I J) = 0 := h1
    rw [kif_pos h1] at hG
    obtain ⟨hq, hG⟩ := kif_some hG
    refine ⟨_, _, cs_X11_refused (-102 : Int32) I J hq, rfl, ?_⟩
    replace hG := Option.some.inj hG
    subst hG
    exact ⟨rfl, rfl⟩
  · replace h1 : ¬ (F_X11_in (Int32.toInt64 a0) (0 : Int64) (23 : Int64) I J) = 0 := h1
    rw [kif_neg h1] at hG
    refine ⟨_, _, cs_X11_in (Int32.toInt64 a1) (0 : Int64) (200 : Int64) I J, rfl, ?_⟩
    refine ⟨fun h2 => ?_, fun h2 => ?_⟩
    · replace h2 : ¬ (F_X11_in (Int32.toInt64 a1) (0 : Int64) (200 : Int64) I J) = 0 := h2
      rw [kif_neg h2] at hG
      obtain ⟨hq, hG⟩ := kif_some hG
      refine ⟨hq, ?_⟩
      refine ⟨fun h3 => ?_, fun h3 => ?_⟩
      · replace h3 : ¬ (I 41 0 ((13 : Int32)).toNatClampNeg) = 0 := h3
        rw [kif_neg h3] at hG
        obtain ⟨hq, hG⟩ := kif_some hG
        refine ⟨hq, ?_⟩
        obtain ⟨q1, hq, hG⟩ := kbd_some hG
        refine ⟨_, _, cs_X11_unlitOf a1 I J q1 hq, rfl, ?_⟩
        exact ((cl_X11_better a0 a1 kfu)) _ _ _ _ _ _ _ q hG
      · replace h3 : (I 41 0 ((13 : Int32)).toNatClampNeg) = 0 := h3
        rw [kif_pos h3] at hG
        obtain ⟨hq, hG⟩ := kif_some hG
        refine ⟨_, _, cs_X11_refused (-105 : Int32) I J hq, rfl, ?_⟩
        replace hG := Option.some.inj hG
        subst hG
        exact ⟨rfl, rfl⟩
    · replace h2 : (F_X11_in (Int32.toInt64 a1) (0 : Int64) (200 : Int64) I J) = 0 := h2
      rw [kif_pos h2] at hG
      obtain ⟨hq, hG⟩ := kif_some hG
      refine ⟨_, _, cs_X11_refused (-102 : Int32) I J hq, rfl, ?_⟩
      replace hG := Option.some.inj hG
      subst hG
      exact ⟨rfl, rfl⟩
noncomputable def G_X11_keepsPlan (a0 : Int32) : Nat → Nat → Int32 → kI → kJ → Option (kI × kJ)
  | 0, _, _, _, _ => none
  | n + 1, pc, v2, I, J => (bif Nat.beq pc 2 then (kif ((24 : Int32) ≤ v2) (some (I, J)) (kif (a0 = 0) (kif (vp_in ((85 : Int32) + v2) 2509) (kif (vp_in v2 24) ((G_X11_keepsPlan a0 n) 2 (v2 + (1)) (kw I 48 0 (v2).toNatClampNeg (I 41 0 (((85 : Int32) + v2)).toNatClampNeg)) J) none) none) (kif (vp_in v2 24) (kif (vp_in ((85 : Int32) + v2) 2509) ((G_X11_keepsPlan a0 n) 2 (v2 + (1)) (kw I 41 0 (((85 : Int32) + v2)).toNatClampNeg (I 48 0 (v2).toNatClampNeg)) J) none) none))) else none)
theorem G_X11_keepsPlan_2 (a0 : Int32) (n : Nat) (v2 : Int32) (I : kI) (J : kJ) : G_X11_keepsPlan a0 (n + 1) 2 v2 I J = (kif ((24 : Int32) ≤ v2) (some (I, J)) (kif (a0 = 0) (kif (vp_in ((85 : Int32) + v2) 2509) (kif (vp_in v2 24) ((G_X11_keepsPlan a0 n) 2 (v2 + (1)) (kw I 48 0 (v2).toNatClampNeg (I 41 0 (((85 : Int32) + v2)).toNatClampNeg)) J) none) none) (kif (vp_in v2 24) (kif (vp_in ((85 : Int32) + v2) 2509) ((G_X11_keepsPlan a0 n) 2 (v2 + (1)) (kw I 41 0 (((85 : Int32) + v2)).toNatClampNeg (I 48 0 (v2).toNatClampNeg)) J) none) none))) := rfl
noncomputable def E_X11_keepsPlan (a0 : Int32) (I : kI) (J : kJ) : Option (kI × kJ) := ((G_X11_keepsPlan a0 kfu) 2 (0 : Int32) I J)
set_option maxRecDepth 100000 in
set_option maxHeartbeats 4000000 in
theorem cl_X11_keepsPlan (a0 : Int32) : ∀ n : Nat, (∀ (v2 : Int32) (I : kI) (J : kJ) (q : kI × kJ), G_X11_keepsPlan a0 n 2 v2 I J = some q → kx_Run tb_X11_keepsPlan (kx_NC, fun r' S'' => r' = none ∧ S'' = (q.1, q.2, none)) 2 [some (kx_r 11 (0)), some (kx_i a0), some (kx_i v2)] [] (I, J, none)) := by
  intro n
  induction n with
  | zero => (intros; rename_i h; have h2 : (none : Option _) = some _ := h; cases h2)
  | succ n ih =>
    intro v2  I J q hG
    rw [G_X11_keepsPlan_2] at hG
    refine kx_start [2] 34 ?_
    refine ⟨fun h1 => ?_, fun h1 => ?_⟩
    · replace h1 : (24 : Int32) ≤ v2 := h1
      rw [kif_pos h1] at hG
      replace hG := Option.some.inj hG
      subst hG
      exact ⟨rfl, rfl⟩
    · replace h1 : ¬ (24 : Int32) ≤ v2 := h1
      rw [kif_neg h1] at hG
      refine ⟨fun h2 => ?_, fun h2 => ?_⟩
      · replace h2 : a0 = 0 := h2
        rw [kif_pos h2] at hG
        obtain ⟨hq, hG⟩ := kif_some hG
        refine ⟨hq, ?_⟩
        obtain ⟨hq, hG⟩ := kif_some hG
        refine ⟨hq, ?_⟩
        exact (ih) _ _ _ q hG
      · replace h2 : ¬ a0 = 0 := h2
        rw [kif_neg h2] at hG
        obtain ⟨hq, hG⟩ := kif_some hG
        refine ⟨hq, ?_⟩
        obtain ⟨hq, hG⟩ := kif_some hG
        refine ⟨hq, ?_⟩
        exact (ih) _ _ _ q hG
set_option maxRecDepth 100000 in
set_option maxHeartbeats 4000000 in
theorem cs_X11_keepsPlan (a0 : Int32) (I : kI) (J : kJ) (q : kI × kJ) (hG : E_X11_keepsPlan a0 I J = some q) : sp_X11_keepsPlan [kx_r 11 0, kx_i a0] (I, J, none) (none) (q.1, q.2, none) := by
  unfold E_X11_keepsPlan at hG
  refine kx_start [2] 34 ?_
  exact ((cl_X11_keepsPlan a0 kfu)) _ _ _ q hG
noncomputable def E_X11_other (a0 : Int32) (a1 : Int32) (I : kI) (J : kJ) : Option (Int32 × kI × kJ) := (kif ((F_X11_in (Int32.toInt64 a1) (0 : Int64) (200 : Int64) I J) = 0) (kif (0 ≤ (-102 : Int32)) (kbd (E_X11_unlitOf a1 I J) (fun q1 => (kbd (E_X11_keepsPlan (0 : Int32) q1.2.1 q1.2.2) (fun q2 => (kbd (E_X11_takesPlan a0 q2.1 q2.2) (fun q3 => (kbd (E_X11_unlitOf a1 q3.1 q3.2) (fun q4 => (kbd (E_X11_keepsPlan (1 : Int32) q4.2.1 q4.2.2) (fun q5 => (some ((q4.1 - q1.1), q5.1, q5.2)))))))))))) (kif (pre_X11_refused (-102 : Int32) I J) (some ((F_X11_refused (-102 : Int32) I J).1, (F_X11_refused (-102 : Int32) I J).2.1, (F_X11_refused (-102 : Int32) I J).2.2)) none)) (kif (pre_X11_isShelf a0 I J) (kif ((F_X11_isShelf a0 I J) = 0) (kif (0 ≤ (-102 : Int32)) (kbd (E_X11_unlitOf a1 I J) (fun q6 => (kbd (E_X11_keepsPlan (0 : Int32) q6.2.1 q6.2.2) (fun q7 => (kbd (E_X11_takesPlan a0 q7.1 q7.2) (fun q8 => (kbd (E_X11_unlitOf a1 q8.1 q8.2) (fun q9 => (kbd (E_X11_keepsPlan (1 : Int32) q9.2.1 q9.2.2) (fun q10 => (some ((q9.1 - q6.1), q10.1, q10.2)))))))))))) (kif (pre_X11_refused (-102 : Int32) I J) (some ((F_X11_refused (-102 : Int32) I J).1, (F_X11_refused (-102 : Int32) I J).2.1, (F_X11_refused (-102 : Int32) I J).2.2)) none)) (kbd (E_X11_isPlan a0 I J) (fun q11 => (kif (0 ≤ q11) (kbd (E_X11_unlitOf a1 I J) (fun q12 => (kbd (E_X11_keepsPlan (0 : Int32) q12.2.1 q12.2.2) (fun q13 => (kbd (E_X11_takesPlan a0 q13.1 q13.2) (fun q14 => (kbd (E_X11_unlitOf a1 q14.1 q14.2) (fun q15 => (kbd (E_X11_keepsPlan (1 : Int32) q15.2.1 q15.2.2) (fun q16 => (some ((q15.1 - q12.1), q16.1, q16.2)))))))))))) (kif (pre_X11_refused q11 I J) (some ((F_X11_refused q11 I J).1, (F_X11_refused q11 I J).2.1, (F_X11_refused q11 I J).2.2)) none))))) none))
set_option maxRecDepth 100000 in
set_option maxHeartbeats 4000000 in
theorem cs_X11_other (a0 : Int32) (a1 : Int32) (I : kI) (J : kJ) (q : Int32 × kI × kJ) (hG : E_X11_other a0 a1 I J = some q) : sp_X11_other [kx_r 11 0, kx_i a0, kx_i a1] (I, J, none) (some (kx_i q.1)) (q.2.1, q.2.2, none) := by
  unfold E_X11_other at hG
  refine kx_start [] 45 ?_
  refine ⟨_, _, cs_X11_in (Int32.toInt64 a1) (0 : Int64) (200 : Int64) I J, rfl, ?_⟩
  refine ⟨fun h1 => ?_, fun h1 => ?_⟩
  · replace h1 : (F_X11_in (Int32.toInt64 a1) (0 : Int64) (200 : Int64) I J) = 0 := h1
    rw [kif_pos h1] at hG
    refine ⟨fun h2 => ?_, fun h2 => ?_⟩
    · replace h2 : 0 ≤ (-102 : Int32) := h2
      rw [kif_pos h2] at hG
      obtain ⟨q1, hq, hG⟩ := kbd_some hG
      refine ⟨_, _, cs_X11_unlitOf a1 I J q1 hq, rfl, ?_⟩
      obtain ⟨q2, hq, hG⟩ := kbd_some hG
      refine ⟨_, _, cs_X11_keepsPlan (0 : Int32) q1.2.1 q1.2.2 q2 hq, rfl, ?_⟩
      obtain ⟨q3, hq, hG⟩ := kbd_some hG
      refine ⟨_, _, cs_X11_takesPlan a0 q2.1 q2.2 q3 hq, rfl, ?_⟩
      obtain ⟨q4, hq, hG⟩ := kbd_some hG
      refine ⟨_, _, cs_X11_unlitOf a1 q3.1 q3.2 q4 hq, rfl, ?_⟩
      obtain ⟨q5, hq, hG⟩ := kbd_some hG
      refine ⟨_, _, cs_X11_keepsPlan (1 : Int32) q4.2.1 q4.2.2 q5 hq, rfl, ?_⟩
      replace hG := Option.some.inj hG
      subst hG
      exact ⟨rfl, rfl⟩
    · replace h2 : ¬ 0 ≤ (-102 : Int32) := h2
      rw [kif_neg h2] at hG
      obtain ⟨hq, hG⟩ := kif_some hG
      refine ⟨_, _, cs_X11_refused (-102 : Int32) I J hq, rfl, ?_⟩
      replace hG := Option.some.inj hG
      subst hG
      exact ⟨rfl, rfl⟩
  · replace h1 : ¬ (F_X11_in (Int32.toInt64 a1) (0 : Int64) (200 : Int64) I J) = 0 := h1
    rw [kif_neg h1] at hG
    obtain ⟨hq, hG⟩ := kif_some hG
    refine ⟨_, _, cs_X11_isShelf a0 I J hq, rfl, ?_⟩
    refine ⟨fun h3 => ?_, fun h3 => ?_⟩
    · replace h3 : (F_X11_isShelf a0 I J) = 0 := h3
      rw [kif_pos h3] at hG
      refine ⟨fun h4 => ?_, fun h4 => ?_⟩
      · replace h4 : 0 ≤ (-102 : Int32) := h4
        rw [kif_pos h4] at hG
        obtain ⟨q6, hq, hG⟩ := kbd_some hG
        refine ⟨_, _, cs_X11_unlitOf a1 I J q6 hq, rfl, ?_⟩
        obtain ⟨q7, hq, hG⟩ := kbd_some hG
        refine ⟨_, _, cs_X11_keepsPlan (0 : Int32) q6.2.1 q6.2.2 q7 hq, rfl, ?_⟩
        obtain ⟨q8, hq, hG⟩ := kbd_some hG
        refine ⟨_, _, cs_X11_takesPlan a0 q7.1 q7.2 q8 hq, rfl, ?_⟩
        obtain ⟨q9, hq, hG⟩ := kbd_some hG
        refine ⟨_, _, cs_X11_unlitOf a1 q8.1 q8.2 q9 hq, rfl, ?_⟩
        obtain ⟨q10, hq, hG⟩ := kbd_some hG
        refine ⟨_, _, cs_X11_keepsPlan (1 : Int32) q9.2.1 q9.2.2 q10 hq, rfl, ?_⟩
        replace hG := Option.some.inj hG
        subst hG
        exact ⟨rfl, rfl⟩
      · replace h4 : ¬ 0 ≤ (-102 : Int32) := h4
        rw [kif_neg h4] at hG
        obtain ⟨hq, hG⟩ := kif_some hG
        refine ⟨_, _, cs_X11_refused (-102 : Int32) I J hq, rfl, ?_⟩
        replace hG := Option.some.inj hG
        subst hG
        exact ⟨rfl, rfl⟩
    · replace h3 : ¬ (F_X11_isShelf a0 I J) = 0 := h3
      rw [kif_neg h3] at hG
      obtain ⟨q11, hq, hG⟩ := kbd_some hG
      refine ⟨_, _, cs_X11_isPlan a0 I J q11 hq, rfl, ?_⟩
      refine ⟨fun h5 => ?_, fun h5 => ?_⟩
      · replace h5 : 0 ≤ q11 := h5
        rw [kif_pos h5] at hG
        obtain ⟨q12, hq, hG⟩ := kbd_some hG
        refine ⟨_, _, cs_X11_unlitOf a1 I J q12 hq, rfl, ?_⟩
        obtain ⟨q13, hq, hG⟩ := kbd_some hG
        refine ⟨_, _, cs_X11_keepsPlan (0 : Int32) q12.2.1 q12.2.2 q13 hq, rfl, ?_⟩
        obtain ⟨q14, hq, hG⟩ := kbd_some hG
        refine ⟨_, _, cs_X11_takesPlan a0 q13.1 q13.2 q14 hq, rfl, ?_⟩
        obtain ⟨q15, hq, hG⟩ := kbd_some hG
        refine ⟨_, _, cs_X11_unlitOf a1 q14.1 q14.2 q15 hq, rfl, ?_⟩
        obtain ⟨q16, hq, hG⟩ := kbd_some hG
        refine ⟨_, _, cs_X11_keepsPlan (1 : Int32) q15.2.1 q15.2.2 q16 hq, rfl, ?_⟩
        replace hG := Option.some.inj hG
        subst hG
        exact ⟨rfl, rfl⟩
      · replace h5 : ¬ 0 ≤ q11 := h5
        rw [kif_neg h5] at hG
        obtain ⟨hq, hG⟩ := kif_some hG
        refine ⟨_, _, cs_X11_refused q11 I J hq, rfl, ?_⟩
        replace hG := Option.some.inj hG
        subst hG
        exact ⟨rfl, rfl⟩
noncomputable def G_X11_idle (a0 : Int32) : Nat → Nat → Int32 → Int32 → Int32 → Int32 → kI → kJ → Option (Int32 × kI × kJ)
  | 0, _, _, _, _, _, _, _ => none
  | n + 1, pc, v2, v3, v4, v5, I, J => (bif Nat.beq pc 30 then (kif (vp_in (13 : Int32) 2509) (kif ((I 41 0 ((13 : Int32)).toNatClampNeg) ≤ v4) (some (v3, I, J)) (kbd (E_X11_keepsPlan (0 : Int32) I J) (fun q1 => ((G_X11_idle a0 n) 50 v2 v3 v4 (0 : Int32) q1.1 q1.2)))) none) else (bif Nat.beq pc 50 then (kif ((24 : Int32) ≤ v5) (kbd (E_X11_unlitOf a0 I J) (fun q1 => (kif (v2 < q1.1) (kbd (E_X11_keepsPlan (1 : Int32) q1.2.1 q1.2.2) (fun q2 => ((G_X11_idle a0 n) 30 v2 (v3 ||| (0 : Int32)) (v4 + (1)) 0 q2.1 q2.2))) (kbd (E_X11_keepsPlan (1 : Int32) q1.2.1 q1.2.2) (fun q3 => ((G_X11_idle a0 n) 30 v2 (v3 ||| ((1 : Int32) <<< (v4 &&& 31))) (v4 + (1)) 0 q3.1 q3.2)))))) (kif (vp_in ((85 : Int32) + v5) 2509) (kif ((I 41 0 (((85 : Int32) + v5)).toNatClampNeg) = v4) (kif (vp_in ((85 : Int32) + v5) 2509) ((G_X11_idle a0 n) 50 v2 v3 v4 (v5 + (1)) (kw I 41 0 (((85 : Int32) + v5)).toNatClampNeg (-1 : Int32)) J) none) (kif (vp_in ((85 : Int32) + v5) 2509) (kif (vp_in ((85 : Int32) + v5) 2509) ((G_X11_idle a0 n) 50 v2 v3 v4 (v5 + (1)) (kw I 41 0 (((85 : Int32) + v5)).toNatClampNeg (I 41 0 (((85 : Int32) + v5)).toNatClampNeg)) J) none) none)) none)) else none))
theorem G_X11_idle_30 (a0 : Int32) (n : Nat) (v2 : Int32) (v3 : Int32) (v4 : Int32) (v5 : Int32) (I : kI) (J : kJ) : G_X11_idle a0 (n + 1) 30 v2 v3 v4 v5 I J = (kif (vp_in (13 : Int32) 2509) (kif ((I 41 0 ((13 : Int32)).toNatClampNeg) ≤ v4) (some (v3, I, J)) (kbd (E_X11_keepsPlan (0 : Int32) I J) (fun q1 => ((G_X11_idle a0 n) 50 v2 v3 v4 (0 : Int32) q1.1 q1.2)))) none) := rfl
theorem G_X11_idle_50 (a0 : Int32) (n : Nat) (v2 : Int32) (v3 : Int32) (v4 : Int32) (v5 : Int32) (I : kI) (J : kJ) : G_X11_idle a0 (n + 1) 50 v2 v3 v4 v5 I J = (kif ((24 : Int32) ≤ v5) (kbd (E_X11_unlitOf a0 I J) (fun q1 => (kif (v2 < q1.1) (kbd (E_X11_keepsPlan (1 : Int32) q1.2.1 q1.2.2) (fun q2 => ((G_X11_idle a0 n) 30 v2 (v3 ||| (0 : Int32)) (v4 + (1)) 0 q2.1 q2.2))) (kbd (E_X11_keepsPlan (1 : Int32) q1.2.1 q1.2.2) (fun q3 => ((G_X11_idle a0 n) 30 v2 (v3 ||| ((1 : Int32) <<< (v4 &&& 31))) (v4 + (1)) 0 q3.1 q3.2)))))) (kif (vp_in ((85 : Int32) + v5) 2509) (kif ((I 41 0 (((85 : Int32) + v5)).toNatClampNeg) = v4) (kif (vp_in ((85 : Int32) + v5) 2509) ((G_X11_idle a0 n) 50 v2 v3 v4 (v5 + (1)) (kw I 41 0 (((85 : Int32) + v5)).toNatClampNeg (-1 : Int32)) J) none) (kif (vp_in ((85 : Int32) + v5) 2509) (kif (vp_in ((85 : Int32) + v5) 2509) ((G_X11_idle a0 n) 50 v2 v3 v4 (v5 + (1)) (kw I 41 0 (((85 : Int32) + v5)).toNatClampNeg (I 41 0 (((85 : Int32) + v5)).toNatClampNeg)) J) none) none)) none)) := rfl
noncomputable def E_X11_idle (a0 : Int32) (I : kI) (J : kJ) : Option (Int32 × kI × kJ) := (kif ((F_X11_in (Int32.toInt64 a0) (0 : Int64) (200 : Int64) I J) = 0) (kif (pre_X11_refused (-102 : Int32) I J) (some ((F_X11_refused (-102 : Int32) I J).1, (F_X11_refused (-102 : Int32) I J).2.1, (F_X11_refused (-102 : Int32) I J).2.2)) none) (kbd (E_X11_unlitOf a0 I J) (fun q1 => ((G_X11_idle a0 kfu) 30 q1.1 (0 : Int32) (0 : Int32) 0 q1.2.1 q1.2.2))))
set_option maxRecDepth 100000 in
set_option maxHeartbeats 4000000 in
theorem cl_X11_idle (a0 : Int32) : ∀ n : Nat, (∀ (v2 : Int32) (v3 : Int32) (v4 : Int32) (v5 : Int32) (x5 : Option kx_V) (I : kI) (J : kJ) (q : Int32 × kI × kJ), G_X11_idle a0 n 30 v2 v3 v4 v5 I J = some q → kx_Run tb_X11_idle (kx_NC, fun r' S'' => r' = some (kx_i q.1) ∧ S'' = (q.2.1, q.2.2, none)) 30 [some (kx_r 11 (0)), some (kx_i a0), some (kx_i v2), some (kx_i v3), some (kx_i v4), x5] [] (I, J, none)) ∧ (∀ (v2 : Int32) (v3 : Int32) (v4 : Int32) (v5 : Int32) (I : kI) (J : kJ) (q : Int32 × kI × kJ), G_X11_idle a0 n 50 v2 v3 v4 v5 I J = some q → kx_Run tb_X11_idle (kx_NC, fun r' S'' => r' = some (kx_i q.1) ∧ S'' = (q.2.1, q.2.2, none)) 50 [some (kx_r 11 (0)), some (kx_i a0), some (kx_i v2), some (kx_i v3), some (kx_i v4), some (kx_i v5)] [] (I, J, none)) := by
  intro n
  induction n with
  | zero => refine ⟨?_, ?_⟩ <;> (intros; rename_i h; have h2 : (none : Option _) = some _ := h; cases h2)
  | succ n ih =>
    refine ⟨?_, ?_⟩
    · intro v2 v3 v4 v5 x5  I J q hG
      rw [G_X11_idle_30] at hG
      refine kx_start [30, 50] 79 ?_
      obtain ⟨hq, hG⟩ := kif_some hG
      refine ⟨hq, ?_⟩
      refine ⟨fun h1 => ?_, fun h1 => ?_⟩
      · replace h1 : (I 41 0 ((13 : Int32)).toNatClampNeg) ≤ v4 := h1
        rw [kif_pos h1] at hG
        replace hG := Option.some.inj hG
        subst hG
        exact ⟨rfl, rfl⟩
      · replace h1 : ¬ (I 41 0 ((13 : Int32)).toNatClampNeg) ≤ v4 := h1
        rw [kif_neg h1] at hG
        obtain ⟨q1, hq, hG⟩ := kbd_some hG
        refine ⟨_, _, cs_X11_keepsPlan (0 : Int32) I J q1 hq, rfl, ?_⟩
        exact (ih.2) _ _ _ _ _ _ q hG
    · intro v2 v3 v4 v5  I J q hG
      rw [G_X11_idle_50] at hG
      refine kx_start [30, 50] 79 ?_
      refine ⟨fun h2 => ?_, fun h2 => ?_⟩
      · replace h2 : (24 : Int32) ≤ v5 := h2
        rw [kif_pos h2] at hG
        obtain ⟨q1, hq, hG⟩ := kbd_some hG
        refine ⟨_, _, cs_X11_unlitOf a0 I J q1 hq, rfl, ?_⟩
        refine ⟨fun h3 => ?_, fun h3 => ?_⟩
        · replace h3 : v2 < q1.1 := h3
          rw [kif_pos h3] at hG
          obtain ⟨q2, hq, hG⟩ := kbd_some hG
          refine ⟨_, _, cs_X11_keepsPlan (1 : Int32) q1.2.1 q1.2.2 q2 hq, rfl, ?_⟩
          exact (ih.1) _ _ _ _ _ _ _ q hG
        · replace h3 : ¬ v2 < q1.1 := h3
          rw [kif_neg h3] at hG
          obtain ⟨q3, hq, hG⟩ := kbd_some hG
          refine ⟨_, _, cs_X11_keepsPlan (1 : Int32) q1.2.1 q1.2.2 q3 hq, rfl, ?_⟩
          exact (ih.1) _ _ _ _ _ _ _ q hG
      · replace h2 : ¬ (24 : Int32) ≤ v5 := h2
        rw [kif_neg h2] at hG
        obtain ⟨hq, hG⟩ := kif_some hG
        refine ⟨hq, ?_⟩
        refine ⟨fun h4 => ?_, fun h4 => ?_⟩
        · replace h4 : ¬ (I 41 0 (((85 : Int32) + v5)).toNatClampNeg) = v4 := h4
          rw [kif_neg h4] at hG
          obtain ⟨hq, hG⟩ := kif_some hG
          refine ⟨hq, ?_⟩
          obtain ⟨hq, hG⟩ := kif_some hG
          refine ⟨hq, ?_⟩
          exact (ih.2) _ _ _ _ _ _ q hG
        · replace h4 : (I 41 0 (((85 : Int32) + v5)).toNatClampNeg) = v4 := h4
          rw [kif_pos h4] at hG
          obtain ⟨hq, hG⟩ := kif_some hG
          refine ⟨hq, ?_⟩
          exact (ih.2) _ _ _ _ _ _ q hG
set_option maxRecDepth 100000 in
set_option maxHeartbeats 4000000 in
theorem cs_X11_idle (a0 : Int32) (I : kI) (J : kJ) (q : Int32 × kI × kJ) (hG : E_X11_idle a0 I J = some q) : sp_X11_idle [kx_r 11 0, kx_i a0] (I, J, none) (some (kx_i q.1)) (q.2.1, q.2.2, none) := by
  unfold E_X11_idle at hG
  refine kx_start [30, 50] 79 ?_
  refine ⟨_, _, cs_X11_in (Int32.toInt64 a0) (0 : Int64) (200 : Int64) I J, rfl, ?_⟩
  refine ⟨fun h1 => ?_, fun h1 => ?_⟩
  · replace h1 : ¬ (F_X11_in (Int32.toInt64 a0) (0 : Int64) (200 : Int64) I J) = 0 := h1
    rw [kif_neg h1] at hG
    obtain ⟨q1, hq, hG⟩ := kbd_some hG
    refine ⟨_, _, cs_X11_unlitOf a0 I J q1 hq, rfl, ?_⟩
    exact ((cl_X11_idle a0 kfu).1) _ _ _ _ _ _ _ q hG
  · replace h1 : (F_X11_in (Int32.toInt64 a0) (0 : Int64) (200 : Int64) I J) = 0 := h1
    rw [kif_pos h1] at hG
    obtain ⟨hq, hG⟩ := kif_some hG
    refine ⟨_, _, cs_X11_refused (-102 : Int32) I J hq, rfl, ?_⟩
    replace hG := Option.some.inj hG
    subst hG
    exact ⟨rfl, rfl⟩
noncomputable def G_X11_row (a0 : Int32) (a1 : Int32) (a2 : Int32) : Nat → Nat → Int32 → kI → kJ → Option (Int32 × kI × kJ)
  | 0, _, _, _, _ => none
  | n + 1, pc, v4, I, J => (bif Nat.beq pc 55 then (kif ((40 : Int32) ≤ v4) (some ((1 : Int32), I, J)) (kif (vp_in (((40 : Int32) * a0) + v4) 320) ((G_X11_row a0 a1 a2 n) 55 (v4 + (1)) I (kwL J 51 0 ((((40 : Int32) * a0) + v4)).toNatClampNeg (0 : Int64))) none)) else none)
theorem G_X11_row_55 (a0 : Int32) (a1 : Int32) (a2 : Int32) (n : Nat) (v4 : Int32) (I : kI) (J : kJ) : G_X11_row a0 a1 a2 (n + 1) 55 v4 I J = (kif ((40 : Int32) ≤ v4) (some ((1 : Int32), I, J)) (kif (vp_in (((40 : Int32) * a0) + v4) 320) ((G_X11_row a0 a1 a2 n) 55 (v4 + (1)) I (kwL J 51 0 ((((40 : Int32) * a0) + v4)).toNatClampNeg (0 : Int64))) none)) := rfl
noncomputable def E_X11_row (a0 : Int32) (a1 : Int32) (a2 : Int32) (I : kI) (J : kJ) : Option (Int32 × kI × kJ) := (kif (pre_X11_isShelf a0 I J) (kif ((F_X11_isShelf a0 I J) = 0) (kif (pre_X11_refused (-102 : Int32) I J) (some ((F_X11_refused (-102 : Int32) I J).1, (F_X11_refused (-102 : Int32) I J).2.1, (F_X11_refused (-102 : Int32) I J).2.2)) none) (kif ((F_X11_in (Int32.toInt64 a1) (0 : Int64) (4 : Int64) I J) = 0) (kif (pre_X11_refused (-102 : Int32) I J) (some ((F_X11_refused (-102 : Int32) I J).1, (F_X11_refused (-102 : Int32) I J).2.1, (F_X11_refused (-102 : Int32) I J).2.2)) none) (kif ((F_X11_in (Int32.toInt64 a2) (0 : Int64) (40 : Int64) I J) = 0) (kif (pre_X11_refused (-102 : Int32) I J) (some ((F_X11_refused (-102 : Int32) I J).1, (F_X11_refused (-102 : Int32) I J).2.1, (F_X11_refused (-102 : Int32) I J).2.2)) none) (kif (vp_in a0 8) (kif (vp_in a0 8) ((G_X11_row a0 a1 a2 kfu) 55 (0 : Int32) (kw (kw I 49 0 (a0).toNatClampNeg a1) 50 0 (a0).toNatClampNeg a2) J) none) none)))) none)
set_option maxRecDepth 100000 in
set_option maxHeartbeats 4000000 in
theorem cl_X11_row (a0 : Int32) (a1 : Int32) (a2 : Int32) : ∀ n : Nat, (∀ (v4 : Int32) (x2 x3 : Option kx_V) (I : kI) (J : kJ) (q : Int32 × kI × kJ), G_X11_row a0 a1 a2 n 55 v4 I J = some q → kx_Run tb_X11_row (kx_NC, fun r' S'' => r' = some (kx_i q.1) ∧ S'' = (q.2.1, q.2.2, none)) 55 [some (kx_r 11 (0)), some (kx_i a0), x2, x3, some (kx_i v4)] [] (I, J, none)) := by
  intro n
  induction n with
  | zero => (intros; rename_i h; have h2 : (none : Option _) = some _ := h; cases h2)
  | succ n ih =>
    intro v4 x2 x3  I J q hG
    rw [G_X11_row_55] at hG
    refine kx_start [55] 50 ?_
    refine ⟨fun h1 => ?_, fun h1 => ?_⟩
    · replace h1 : (40 : Int32) ≤ v4 := h1
      rw [kif_pos h1] at hG
      replace hG := Option.some.inj hG
      subst hG
      exact ⟨rfl, rfl⟩
    · replace h1 : ¬ (40 : Int32) ≤ v4 := h1
      rw [kif_neg h1] at hG
      obtain ⟨hq, hG⟩ := kif_some hG
      refine ⟨hq, ?_⟩
      exact (ih) _ _ _ _ _ q hG
set_option maxRecDepth 100000 in
set_option maxHeartbeats 4000000 in
theorem cs_X11_row (a0 : Int32) (a1 : Int32) (a2 : Int32) (I : kI) (J : kJ) (q : Int32 × kI × kJ) (hG : E_X11_row a0 a1 a2 I J = some q) : sp_X11_row [kx_r 11 0, kx_i a0, kx_i a1, kx_i a2] (I, J, none) (some (kx_i q.1)) (q.2.1, q.2.2, none) := by
  unfold E_X11_row at hG
  refine kx_start [55] 50 ?_
  obtain ⟨hq, hG⟩ := kif_some hG
  refine ⟨_, _, cs_X11_isShelf a0 I J hq, rfl, ?_⟩
  refine ⟨fun h1 => ?_, fun h1 => ?_⟩
  · replace h1 : (F_X11_isShelf a0 I J) = 0 := h1
    rw [kif_pos h1] at hG
    obtain ⟨hq, hG⟩ := kif_some hG
    refine ⟨_, _, cs_X11_refused (-102 : Int32) I J hq, rfl, ?_⟩
    replace hG := Option.some.inj hG
    subst hG
    exact ⟨rfl, rfl⟩
  · replace h1 : ¬ (F_X11_isShelf a0 I J) = 0 := h1
    rw [kif_neg h1] at hG
    refine ⟨_, _, cs_X11_in (Int32.toInt64 a1) (0 : Int64) (4 : Int64) I J, rfl, ?_⟩
    refine ⟨fun h2 => ?_, fun h2 => ?_⟩
    · replace h2 : (F_X11_in (Int32.toInt64 a1) (0 : Int64) (4 : Int64) I J) = 0 := h2
      rw [kif_pos h2] at hG
      obtain ⟨hq, hG⟩ := kif_some hG
      refine ⟨_, _, cs_X11_refused (-102 : Int32) I J hq, rfl, ?_⟩
      replace hG := Option.some.inj hG
      subst hG
      exact ⟨rfl, rfl⟩
    · replace h2 : ¬ (F_X11_in (Int32.toInt64 a1) (0 : Int64) (4 : Int64) I J) = 0 := h2
      rw [kif_neg h2] at hG
      refine ⟨_, _, cs_X11_in (Int32.toInt64 a2) (0 : Int64) (40 : Int64) I J, rfl, ?_⟩
      refine ⟨fun h3 => ?_, fun h3 => ?_⟩
      · replace h3 : ¬ (F_X11_in (Int32.toInt64 a2) (0 : Int64) (40 : Int64) I J) = 0 := h3
        rw [kif_neg h3] at hG
        obtain ⟨hq, hG⟩ := kif_some hG
        refine ⟨hq, ?_⟩
        obtain ⟨hq, hG⟩ := kif_some hG
        refine ⟨hq, ?_⟩
        exact ((cl_X11_row a0 a1 a2 kfu)) _ _ _ _ _ q hG
      · replace h3 : (F_X11_in (Int32.toInt64 a2) (0 : Int64) (40 : Int64) I J) = 0 := h3
        rw [kif_pos h3] at hG
        obtain ⟨hq, hG⟩ := kif_some hG
        refine ⟨_, _, cs_X11_refused (-102 : Int32) I J hq, rfl, ?_⟩
        replace hG := Option.some.inj hG
        subst hG
        exact ⟨rfl, rfl⟩
noncomputable def G_X11_copy (a0 : Int32) (a1 : Int32) (a2 : Int32) (a3 : Int32) (a4 : Int32) : Nat → Nat → Int32 → Int32 → kI → kJ → Option (Int32 × kI × kJ)
  | 0, _, _, _, _, _ => none
  | n + 1, pc, v6, s0, I, J => (bif Nat.beq pc 14 then (kif (pre_X11_refused (-102 : Int32) I J) (some ((F_X11_refused (-102 : Int32) I J).1, (F_X11_refused (-102 : Int32) I J).2.1, (F_X11_refused (-102 : Int32) I J).2.2)) none) else (bif Nat.beq pc 74 then (kif (pre_X11_refused (-103 : Int32) I J) (some ((F_X11_refused (-103 : Int32) I J).1, (F_X11_refused (-103 : Int32) I J).2.1, (F_X11_refused (-103 : Int32) I J).2.2)) none) else (bif Nat.beq pc 81 then (kif (vp_in a0 8) (kif ((I 49 0 (a0).toNatClampNeg) < 0) ((G_X11_copy a0 a1 a2 a3 a4 n) 99 0 0 I J) (kif (vp_in a1 8) (kif (0 ≤ (I 49 0 (a1).toNatClampNeg)) (kif (a2 < 0) ((G_X11_copy a0 a1 a2 a3 a4 n) 168 0 0 I J) (kif (a3 < 0) ((G_X11_copy a0 a1 a2 a3 a4 n) 168 0 0 I J) (kif (a4 < 0) ((G_X11_copy a0 a1 a2 a3 a4 n) 168 0 0 I J) (kif (vp_in a0 8) (kif ((I 50 0 (a0).toNatClampNeg) < a2) ((G_X11_copy a0 a1 a2 a3 a4 n) 168 0 0 I J) (kif (vp_in a1 8) (kif ((I 50 0 (a1).toNatClampNeg) < a3) ((G_X11_copy a0 a1 a2 a3 a4 n) 168 0 0 I J) (kif (vp_in a0 8) (kif (((I 50 0 (a0).toNatClampNeg) - a2) < a4) ((G_X11_copy a0 a1 a2 a3 a4 n) 168 0 0 I J) (kif (vp_in a1 8) (kif (a4 ≤ ((I 50 0 (a1).toNatClampNeg) - a3)) ((G_X11_copy a0 a1 a2 a3 a4 n) 178 (0 : Int32) 0 I J) ((G_X11_copy a0 a1 a2 a3 a4 n) 168 0 0 I J)) none)) none)) none)) none)))) ((G_X11_copy a0 a1 a2 a3 a4 n) 99 0 0 I J)) none)) none) else (bif Nat.beq pc 99 then (kif (pre_X11_refused (-104 : Int32) I J) (some ((F_X11_refused (-104 : Int32) I J).1, (F_X11_refused (-104 : Int32) I J).2.1, (F_X11_refused (-104 : Int32) I J).2.2)) none) else (bif Nat.beq pc 168 then (kif (pre_X11_refused (-102 : Int32) I J) (some ((F_X11_refused (-102 : Int32) I J).1, (F_X11_refused (-102 : Int32) I J).2.1, (F_X11_refused (-102 : Int32) I J).2.2)) none) else (bif Nat.beq pc 178 then (kif (a4 ≤ v6) (some (a4, I, J)) (kif (a3 ≤ a2) ((G_X11_copy a0 a1 a2 a3 a4 n) 203 v6 v6 I J) ((G_X11_copy a0 a1 a2 a3 a4 n) 203 v6 ((a4 - (1 : Int32)) - v6) I J))) else (bif Nat.beq pc 203 then (kif (vp_in ((((40 : Int32) * a0) + a2) + s0) 320) (kif (vp_in ((((40 : Int32) * a1) + a3) + s0) 320) ((G_X11_copy a0 a1 a2 a3 a4 n) 178 (v6 + (1)) 0 I (kwL J 51 0 (((((40 : Int32) * a1) + a3) + s0)).toNatClampNeg (J 51 0 (((((40 : Int32) * a0) + a2) + s0)).toNatClampNeg))) none) none) else none)))))))
theorem G_X11_copy_14 (a0 : Int32) (a1 : Int32) (a2 : Int32) (a3 : Int32) (a4 : Int32) (n : Nat) (v6 : Int32) (s0 : Int32) (I : kI) (J : kJ) : G_X11_copy a0 a1 a2 a3 a4 (n + 1) 14 v6 s0 I J = (kif (pre_X11_refused (-102 : Int32) I J) (some ((F_X11_refused (-102 : Int32) I J).1, (F_X11_refused (-102 : Int32) I J).2.1, (F_X11_refused (-102 : Int32) I J).2.2)) none) := rfl
theorem G_X11_copy_74 (a0 : Int32) (a1 : Int32) (a2 : Int32) (a3 : Int32) (a4 : Int32) (n : Nat) (v6 : Int32) (s0 : Int32) (I : kI) (J : kJ) : G_X11_copy a0 a1 a2 a3 a4 (n + 1) 74 v6 s0 I J = (kif (pre_X11_refused (-103 : Int32) I J) (some ((F_X11_refused (-103 : Int32) I J).1, (F_X11_refused (-103 : Int32) I J).2.1, (F_X11_refused (-103 : Int32) I J).2.2)) none) := rfl
theorem G_X11_copy_81 (a0 : Int32) (a1 : Int32) (a2 : Int32) (a3 : Int32) (a4 : Int32) (n : Nat) (v6 : Int32) (s0 : Int32) (I : kI) (J : kJ) : G_X11_copy a0 a1 a2 a3 a4 (n + 1) 81 v6 s0 I J = (kif (vp_in a0 8) (kif ((I 49 0 (a0).toNatClampNeg) < 0) ((G_X11_copy a0 a1 a2 a3 a4 n) 99 0 0 I J) (kif (vp_in a1 8) (kif (0 ≤ (I 49 0 (a1).toNatClampNeg)) (kif (a2 < 0) ((G_X11_copy a0 a1 a2 a3 a4 n) 168 0 0 I J) (kif (a3 < 0) ((G_X11_copy a0 a1 a2 a3 a4 n) 168 0 0 I J) (kif (a4 < 0) ((G_X11_copy a0 a1 a2 a3 a4 n) 168 0 0 I J) (kif (vp_in a0 8) (kif ((I 50 0 (a0).toNatClampNeg) < a2) ((G_X11_copy a0 a1 a2 a3 a4 n) 168 0 0 I J) (kif (vp_in a1 8) (kif ((I 50 0 (a1).toNatClampNeg) < a3) ((G_X11_copy a0 a1 a2 a3 a4 n) 168 0 0 I J) (kif (vp_in a0 8) (kif (((I 50 0 (a0).toNatClampNeg) - a2) < a4) ((G_X11_copy a0 a1 a2 a3 a4 n) 168 0 0 I J) (kif (vp_in a1 8) (kif (a4 ≤ ((I 50 0 (a1).toNatClampNeg) - a3)) ((G_X11_copy a0 a1 a2 a3 a4 n) 178 (0 : Int32) 0 I J) ((G_X11_copy a0 a1 a2 a3 a4 n) 168 0 0 I J)) none)) none)) none)) none)))) ((G_X11_copy a0 a1 a2 a3 a4 n) 99 0 0 I J)) none)) none) := rfl
theorem G_X11_copy_99 (a0 : Int32) (a1 : Int32) (a2 : Int32) (a3 : Int32) (a4 : Int32) (n : Nat) (v6 : Int32) (s0 : Int32) (I : kI) (J : kJ) : G_X11_copy a0 a1 a2 a3 a4 (n + 1) 99 v6 s0 I J = (kif (pre_X11_refused (-104 : Int32) I J) (some ((F_X11_refused (-104 : Int32) I J).1, (F_X11_refused (-104 : Int32) I J).2.1, (F_X11_refused (-104 : Int32) I J).2.2)) none) := rfl
theorem G_X11_copy_168 (a0 : Int32) (a1 : Int32) (a2 : Int32) (a3 : Int32) (a4 : Int32) (n : Nat) (v6 : Int32) (s0 : Int32) (I : kI) (J : kJ) : G_X11_copy a0 a1 a2 a3 a4 (n + 1) 168 v6 s0 I J = (kif (pre_X11_refused (-102 : Int32) I J) (some ((F_X11_refused (-102 : Int32) I J).1, (F_X11_refused (-102 : Int32) I J).2.1, (F_X11_refused (-102 : Int32) I J).2.2)) none) := rfl
theorem G_X11_copy_178 (a0 : Int32) (a1 : Int32) (a2 : Int32) (a3 : Int32) (a4 : Int32) (n : Nat) (v6 : Int32) (s0 : Int32) (I : kI) (J : kJ) : G_X11_copy a0 a1 a2 a3 a4 (n + 1) 178 v6 s0 I J = (kif (a4 ≤ v6) (some (a4, I, J)) (kif (a3 ≤ a2) ((G_X11_copy a0 a1 a2 a3 a4 n) 203 v6 v6 I J) ((G_X11_copy a0 a1 a2 a3 a4 n) 203 v6 ((a4 - (1 : Int32)) - v6) I J))) := rfl
theorem G_X11_copy_203 (a0 : Int32) (a1 : Int32) (a2 : Int32) (a3 : Int32) (a4 : Int32) (n : Nat) (v6 : Int32) (s0 : Int32) (I : kI) (J : kJ) : G_X11_copy a0 a1 a2 a3 a4 (n + 1) 203 v6 s0 I J = (kif (vp_in ((((40 : Int32) * a0) + a2) + s0) 320) (kif (vp_in ((((40 : Int32) * a1) + a3) + s0) 320) ((G_X11_copy a0 a1 a2 a3 a4 n) 178 (v6 + (1)) 0 I (kwL J 51 0 (((((40 : Int32) * a1) + a3) + s0)).toNatClampNeg (J 51 0 (((((40 : Int32) * a0) + a2) + s0)).toNatClampNeg))) none) none) := rfl
noncomputable def E_X11_copy (a0 : Int32) (a1 : Int32) (a2 : Int32) (a3 : Int32) (a4 : Int32) (I : kI) (J : kJ) : Option (Int32 × kI × kJ) := (kif (pre_X11_isShelf a0 I J) (kif ((F_X11_isShelf a0 I J) = 0) ((G_X11_copy a0 a1 a2 a3 a4 kfu) 14 0 0 I J) (kif (pre_X11_isShelf a1 I J) (kif ((F_X11_isShelf a1 I J) = 0) ((G_X11_copy a0 a1 a2 a3 a4 kfu) 14 0 0 I J) (kif (vp_in a0 8) (kif ((4 : Int32) < (I 49 0 (a0).toNatClampNeg)) ((G_X11_copy a0 a1 a2 a3 a4 kfu) 74 0 0 I J) (kif (vp_in a1 8) (kif ((4 : Int32) < (I 49 0 (a1).toNatClampNeg)) ((G_X11_copy a0 a1 a2 a3 a4 kfu) 74 0 0 I J) (kif (vp_in a0 8) (kif ((I 49 0 (a0).toNatClampNeg) < 0) ((G_X11_copy a0 a1 a2 a3 a4 kfu) 81 0 0 I J) (kif (vp_in a1 8) (kif ((I 49 0 (a1).toNatClampNeg) < 0) ((G_X11_copy a0 a1 a2 a3 a4 kfu) 81 0 0 I J) (kif (vp_in a0 8) (kif (vp_in a1 8) (kif ((I 49 0 (a0).toNatClampNeg) = (I 49 0 (a1).toNatClampNeg)) ((G_X11_copy a0 a1 a2 a3 a4 kfu) 81 0 0 I J) ((G_X11_copy a0 a1 a2 a3 a4 kfu) 74 0 0 I J)) none) none)) none)) none)) none)) none)) none)) none)
set_option maxRecDepth 100000 in
set_option maxHeartbeats 4000000 in
theorem cl_X11_copy (a0 : Int32) (a1 : Int32) (a2 : Int32) (a3 : Int32) (a4 : Int32) : ∀ n : Nat, (∀ (v6 : Int32) (s0 : Int32) (x1 x2 x3 x4 x5 x6 x7 : Option kx_V) (I : kI) (J : kJ) (q : Int32 × kI × kJ), G_X11_copy a0 a1 a2 a3 a4 n 14 v6 s0 I J = some q → kx_Run tb_X11_copy (kx_NC, fun r' S'' => r' = some (kx_i q.1) ∧ S'' = (q.2.1, q.2.2, none)) 14 [some (kx_r 11 (0)), x1, x2, x3, x4, x5, x6, x7] [] (I, J, none)) ∧ (∀ (v6 : Int32) (s0 : Int32) (x1 x2 x3 x4 x5 x6 x7 : Option kx_V) (I : kI) (J : kJ) (q : Int32 × kI × kJ), G_X11_copy a0 a1 a2 a3 a4 n 74 v6 s0 I J = some q → kx_Run tb_X11_copy (kx_NC, fun r' S'' => r' = some (kx_i q.1) ∧ S'' = (q.2.1, q.2.2, none)) 74 [some (kx_r 11 (0)), x1, x2, x3, x4, x5, x6, x7] [] (I, J, none)) ∧ (∀ (v6 : Int32) (s0 : Int32) (x6 x7 : Option kx_V) (I : kI) (J : kJ) (q : Int32 × kI × kJ), G_X11_copy a0 a1 a2 a3 a4 n 81 v6 s0 I J = some q → kx_Run tb_X11_copy (kx_NC, fun r' S'' => r' = some (kx_i q.1) ∧ S'' = (q.2.1, q.2.2, none)) 81 [some (kx_r 11 (0)), some (kx_i a0), some (kx_i a1), some (kx_i a2), some (kx_i a3), some (kx_i a4), x6, x7] [] (I, J, none)) ∧ (∀ (v6 : Int32) (s0 : Int32) (x1 x2 x3 x4 x5 x6 x7 : Option kx_V) (I : kI) (J : kJ) (q : Int32 × kI × kJ), G_X11_copy a0 a1 a2 a3 a4 n 99 v6 s0 I J = some q → kx_Run tb_X11_copy (kx_NC, fun r' S'' => r' = some (kx_i q.1) ∧ S'' = (q.2.1, q.2.2, none)) 99 [some (kx_r 11 (0)), x1, x2, x3, x4, x5, x6, x7] [] (I, J, none)) ∧ (∀ (v6 : Int32) (s0 : Int32) (x1 x2 x3 x4 x5 x6 x7 : Option kx_V) (I : kI) (J : kJ) (q : Int32 × kI × kJ), G_X11_copy a0 a1 a2 a3 a4 n 168 v6 s0 I J = some q → kx_Run tb_X11_copy (kx_NC, fun r' S'' => r' = some (kx_i q.1) ∧ S'' = (q.2.1, q.2.2, none)) 168 [some (kx_r 11 (0)), x1, x2, x3, x4, x5, x6, x7] [] (I, J, none)) ∧ (∀ (v6 : Int32) (s0 : Int32) (x7 : Option kx_V) (I : kI) (J : kJ) (q : Int32 × kI × kJ), G_X11_copy a0 a1 a2 a3 a4 n 178 v6 s0 I J = some q → kx_Run tb_X11_copy (kx_NC, fun r' S'' => r' = some (kx_i q.1) ∧ S'' = (q.2.1, q.2.2, none)) 178 [some (kx_r 11 (0)), some (kx_i a0), some (kx_i a1), some (kx_i a2), some (kx_i a3), some (kx_i a4), some (kx_i v6), x7] [] (I, J, none)) ∧ (∀ (v6 : Int32) (s0 : Int32) (x7 : Option kx_V) (I : kI) (J : kJ) (q : Int32 × kI × kJ), G_X11_copy a0 a1 a2 a3 a4 n 203 v6 s0 I J = some q → kx_Run tb_X11_copy (kx_NC, fun r' S'' => r' = some (kx_i q.1) ∧ S'' = (q.2.1, q.2.2, none)) 203 [some (kx_r 11 (0)), some (kx_i a0), some (kx_i a1), some (kx_i a2), some (kx_i a3), some (kx_i a4), some (kx_i v6), x7] [kx_i s0] (I, J, none)) := by
  intro n
  induction n with
  | zero => refine ⟨?_, ?_, ?_, ?_, ?_, ?_, ?_⟩ <;> (intros; rename_i h; have h2 : (none : Option _) = some _ := h; cases h2)
  | succ n ih =>
    refine ⟨?_, ?_, ?_, ?_, ?_, ?_, ?_⟩
    · intro v6 s0 x1 x2 x3 x4 x5 x6 x7  I J q hG
      rw [G_X11_copy_14] at hG
      refine kx_start [14, 74, 81, 99, 168, 178, 203] 140 ?_
      obtain ⟨hq, hG⟩ := kif_some hG
      refine ⟨_, _, cs_X11_refused (-102 : Int32) I J hq, rfl, ?_⟩
      replace hG := Option.some.inj hG
      subst hG
      exact ⟨rfl, rfl⟩
    · intro v6 s0 x1 x2 x3 x4 x5 x6 x7  I J q hG
      rw [G_X11_copy_74] at hG
      refine kx_start [14, 74, 81, 99, 168, 178, 203] 140 ?_
      obtain ⟨hq, hG⟩ := kif_some hG
      refine ⟨_, _, cs_X11_refused (-103 : Int32) I J hq, rfl, ?_⟩
      replace hG := Option.some.inj hG
      subst hG
      exact ⟨rfl, rfl⟩
    · intro v6 s0 x6 x7  I J q hG
      rw [G_X11_copy_81] at hG
      refine kx_start [14, 74, 81, 99, 168, 178, 203] 140 ?_
      obtain ⟨hq, hG⟩ := kif_some hG
      refine ⟨hq, ?_⟩
      refine ⟨fun h1 => ?_, fun h1 => ?_⟩
      · replace h1 : (I 49 0 (a0).toNatClampNeg) < 0 := h1
        rw [kif_pos h1] at hG
        exact (ih.2.2.2.1) _ _ _ _ _ _ _ _ _ _ _ q hG
      · replace h1 : ¬ (I 49 0 (a0).toNatClampNeg) < 0 := h1
        rw [kif_neg h1] at hG
        obtain ⟨hq, hG⟩ := kif_some hG
        refine ⟨hq, ?_⟩
        refine ⟨fun h2 => ?_, fun h2 => ?_⟩
        · replace h2 : 0 ≤ (I 49 0 (a1).toNatClampNeg) := h2
          rw [kif_pos h2] at hG
          refine ⟨fun h3 => ?_, fun h3 => ?_⟩
          · replace h3 : a2 < 0 := h3
            rw [kif_pos h3] at hG
            exact (ih.2.2.2.2.1) _ _ _ _ _ _ _ _ _ _ _ q hG
          · replace h3 : ¬ a2 < 0 := h3
            rw [kif_neg h3] at hG
            refine ⟨fun h4 => ?_, fun h4 => ?_⟩
            · replace h4 : a3 < 0 := h4
              rw [kif_pos h4] at hG
              exact (ih.2.2.2.2.1) _ _ _ _ _ _ _ _ _ _ _ q hG
            · replace h4 : ¬ a3 < 0 := h4
              rw [kif_neg h4] at hG
              refine ⟨fun h5 => ?_, fun h5 => ?_⟩
              · replace h5 : a4 < 0 := h5
                rw [kif_pos h5] at hG
                exact (ih.2.2.2.2.1) _ _ _ _ _ _ _ _ _ _ _ q hG
              · replace h5 : ¬ a4 < 0 := h5
                rw [kif_neg h5] at hG
                obtain ⟨hq, hG⟩ := kif_some hG
                refine ⟨hq, ?_⟩
                refine ⟨fun h6 => ?_, fun h6 => ?_⟩
                · replace h6 : (I 50 0 (a0).toNatClampNeg) < a2 := h6
                  rw [kif_pos h6] at hG
                  exact (ih.2.2.2.2.1) _ _ _ _ _ _ _ _ _ _ _ q hG
                · replace h6 : ¬ (I 50 0 (a0).toNatClampNeg) < a2 := h6
                  rw [kif_neg h6] at hG
                  obtain ⟨hq, hG⟩ := kif_some hG
                  refine ⟨hq, ?_⟩
                  refine ⟨fun h7 => ?_, fun h7 => ?_⟩
                  · replace h7 : (I 50 0 (a1).toNatClampNeg) < a3 := h7
                    rw [kif_pos h7] at hG
                    exact (ih.2.2.2.2.1) _ _ _ _ _ _ _ _ _ _ _ q hG
                  · replace h7 : ¬ (I 50 0 (a1).toNatClampNeg) < a3 := h7
                    rw [kif_neg h7] at hG
                    obtain ⟨hq, hG⟩ := kif_some hG
                    refine ⟨hq, ?_⟩
                    refine ⟨fun h8 => ?_, fun h8 => ?_⟩
                    · replace h8 : ((I 50 0 (a0).toNatClampNeg) - a2) < a4 := h8
                      rw [kif_pos h8] at hG
                      exact (ih.2.2.2.2.1) _ _ _ _ _ _ _ _ _ _ _ q hG
                    · replace h8 : ¬ ((I 50 0 (a0).toNatClampNeg) - a2) < a4 := h8
                      rw [kif_neg h8] at hG
                      obtain ⟨hq, hG⟩ := kif_some hG
                      refine ⟨hq, ?_⟩
                      refine ⟨fun h9 => ?_, fun h9 => ?_⟩
                      · replace h9 : a4 ≤ ((I 50 0 (a1).toNatClampNeg) - a3) := h9
                        rw [kif_pos h9] at hG
                        exact (ih.2.2.2.2.2.1) _ _ _ _ _ q hG
                      · replace h9 : ¬ a4 ≤ ((I 50 0 (a1).toNatClampNeg) - a3) := h9
                        rw [kif_neg h9] at hG
                        exact (ih.2.2.2.2.1) _ _ _ _ _ _ _ _ _ _ _ q hG
        · replace h2 : ¬ 0 ≤ (I 49 0 (a1).toNatClampNeg) := h2
          rw [kif_neg h2] at hG
          exact (ih.2.2.2.1) _ _ _ _ _ _ _ _ _ _ _ q hG
    · intro v6 s0 x1 x2 x3 x4 x5 x6 x7  I J q hG
      rw [G_X11_copy_99] at hG
      refine kx_start [14, 74, 81, 99, 168, 178, 203] 140 ?_
      obtain ⟨hq, hG⟩ := kif_some hG
      refine ⟨_, _, cs_X11_refused (-104 : Int32) I J hq, rfl, ?_⟩
      replace hG := Option.some.inj hG
      subst hG
      exact ⟨rfl, rfl⟩
    · intro v6 s0 x1 x2 x3 x4 x5 x6 x7  I J q hG
      rw [G_X11_copy_168] at hG
      refine kx_start [14, 74, 81, 99, 168, 178, 203] 140 ?_
      obtain ⟨hq, hG⟩ := kif_some hG
      refine ⟨_, _, cs_X11_refused (-102 : Int32) I J hq, rfl, ?_⟩
      replace hG := Option.some.inj hG
      subst hG
      exact ⟨rfl, rfl⟩
    · intro v6 s0 x7  I J q hG
      rw [G_X11_copy_178] at hG
      refine kx_start [14, 74, 81, 99, 168, 178, 203] 140 ?_
      refine ⟨fun h10 => ?_, fun h10 => ?_⟩
      · replace h10 : a4 ≤ v6 := h10
        rw [kif_pos h10] at hG
        replace hG := Option.some.inj hG
        subst hG
        exact ⟨rfl, rfl⟩
      · replace h10 : ¬ a4 ≤ v6 := h10
        rw [kif_neg h10] at hG
        refine ⟨fun h11 => ?_, fun h11 => ?_⟩
        · replace h11 : a3 ≤ a2 := h11
          rw [kif_pos h11] at hG
          exact (ih.2.2.2.2.2.2) _ _ _ _ _ q hG
        · replace h11 : ¬ a3 ≤ a2 := h11
          rw [kif_neg h11] at hG
          exact (ih.2.2.2.2.2.2) _ _ _ _ _ q hG
    · intro v6 s0 x7  I J q hG
      rw [G_X11_copy_203] at hG
      refine kx_start [14, 74, 81, 99, 168, 178, 203] 140 ?_
      obtain ⟨hq, hG⟩ := kif_some hG
      refine ⟨hq, ?_⟩
      obtain ⟨hq, hG⟩ := kif_some hG
      refine ⟨hq, ?_⟩
      exact (ih.2.2.2.2.2.1) _ _ _ _ _ q hG
set_option maxRecDepth 100000 in
set_option maxHeartbeats 4000000 in
theorem cs_X11_copy (a0 : Int32) (a1 : Int32) (a2 : Int32) (a3 : Int32) (a4 : Int32) (I : kI) (J : kJ) (q : Int32 × kI × kJ) (hG : E_X11_copy a0 a1 a2 a3 a4 I J = some q) : sp_X11_copy [kx_r 11 0, kx_i a0, kx_i a1, kx_i a2, kx_i a3, kx_i a4] (I, J, none) (some (kx_i q.1)) (q.2.1, q.2.2, none) := by
  unfold E_X11_copy at hG
  refine kx_start [14, 74, 81, 99, 168, 178, 203] 140 ?_
  obtain ⟨hq, hG⟩ := kif_some hG
  refine ⟨_, _, cs_X11_isShelf a0 I J hq, rfl, ?_⟩
  refine ⟨fun h1 => ?_, fun h1 => ?_⟩
  · replace h1 : (F_X11_isShelf a0 I J) = 0 := h1
    rw [kif_pos h1] at hG
    exact ((cl_X11_copy a0 a1 a2 a3 a4 kfu).1) _ _ _ _ _ _ _ _ _ _ _ q hG
  · replace h1 : ¬ (F_X11_isShelf a0 I J) = 0 := h1
    rw [kif_neg h1] at hG
    obtain ⟨hq, hG⟩ := kif_some hG
    refine ⟨_, _, cs_X11_isShelf a1 I J hq, rfl, ?_⟩
    refine ⟨fun h2 => ?_, fun h2 => ?_⟩
    · replace h2 : ¬ (F_X11_isShelf a1 I J) = 0 := h2
      rw [kif_neg h2] at hG
      obtain ⟨hq, hG⟩ := kif_some hG
      refine ⟨hq, ?_⟩
      refine ⟨fun h3 => ?_, fun h3 => ?_⟩
      · replace h3 : (4 : Int32) < (I 49 0 (a0).toNatClampNeg) := h3
        rw [kif_pos h3] at hG
        exact ((cl_X11_copy a0 a1 a2 a3 a4 kfu).2.1) _ _ _ _ _ _ _ _ _ _ _ q hG
      · replace h3 : ¬ (4 : Int32) < (I 49 0 (a0).toNatClampNeg) := h3
        rw [kif_neg h3] at hG
        obtain ⟨hq, hG⟩ := kif_some hG
        refine ⟨hq, ?_⟩
        refine ⟨fun h4 => ?_, fun h4 => ?_⟩
        · replace h4 : (4 : Int32) < (I 49 0 (a1).toNatClampNeg) := h4
          rw [kif_pos h4] at hG
          exact ((cl_X11_copy a0 a1 a2 a3 a4 kfu).2.1) _ _ _ _ _ _ _ _ _ _ _ q hG
        · replace h4 : ¬ (4 : Int32) < (I 49 0 (a1).toNatClampNeg) := h4
          rw [kif_neg h4] at hG
          obtain ⟨hq, hG⟩ := kif_some hG
          refine ⟨hq, ?_⟩
          refine ⟨fun h5 => ?_, fun h5 => ?_⟩
          · replace h5 : (I 49 0 (a0).toNatClampNeg) < 0 := h5
            rw [kif_pos h5] at hG
            exact ((cl_X11_copy a0 a1 a2 a3 a4 kfu).2.2.1) _ _ _ _ _ _ q hG
          · replace h5 : ¬ (I 49 0 (a0).toNatClampNeg) < 0 := h5
            rw [kif_neg h5] at hG
            obtain ⟨hq, hG⟩ := kif_some hG
            refine ⟨hq, ?_⟩
            refine ⟨fun h6 => ?_, fun h6 => ?_⟩
            · replace h6 : (I 49 0 (a1).toNatClampNeg) < 0 := h6
              rw [kif_pos h6] at hG
              exact ((cl_X11_copy a0 a1 a2 a3 a4 kfu).2.2.1) _ _ _ _ _ _ q hG
            · replace h6 : ¬ (I 49 0 (a1).toNatClampNeg) < 0 := h6
              rw [kif_neg h6] at hG
              obtain ⟨hq, hG⟩ := kif_some hG
              refine ⟨hq, ?_⟩
              obtain ⟨hq, hG⟩ := kif_some hG
              refine ⟨hq, ?_⟩
              refine ⟨fun h7 => ?_, fun h7 => ?_⟩
              · replace h7 : (I 49 0 (a0).toNatClampNeg) = (I 49 0 (a1).toNatClampNeg) := h7
                rw [kif_pos h7] at hG
                exact ((cl_X11_copy a0 a1 a2 a3 a4 kfu).2.2.1) _ _ _ _ _ _ q hG
              · replace h7 : ¬ (I 49 0 (a0).toNatClampNeg) = (I 49 0 (a1).toNatClampNeg) := h7
                rw [kif_neg h7] at hG
                exact ((cl_X11_copy a0 a1 a2 a3 a4 kfu).2.1) _ _ _ _ _ _ _ _ _ _ _ q hG
    · replace h2 : (F_X11_isShelf a1 I J) = 0 := h2
      rw [kif_pos h2] at hG
      exact ((cl_X11_copy a0 a1 a2 a3 a4 kfu).1) _ _ _ _ _ _ _ _ _ _ _ q hG
noncomputable def E_X11_says (a0 : Int32) (a1 : Int32) (I : kI) (J : kJ) : Option (Int32 × kI × kJ) := (kif (pre_X11_isShelf a0 I J) (kif ((F_X11_isShelf a0 I J) = 0) (kif (pre_X11_refused (-102 : Int32) I J) (some ((F_X11_refused (-102 : Int32) I J).1, (F_X11_refused (-102 : Int32) I J).2.1, (F_X11_refused (-102 : Int32) I J).2.2)) none) (kif ((F_X11_in (Int32.toInt64 a1) (0 : Int64) (7 : Int64) I J) = 0) (kif (pre_X11_refused (-102 : Int32) I J) (some ((F_X11_refused (-102 : Int32) I J).1, (F_X11_refused (-102 : Int32) I J).2.1, (F_X11_refused (-102 : Int32) I J).2.2)) none) (kif (vp_in a0 8) (kif ((F_X11_in (Int32.toInt64 (I 49 0 (a0).toNatClampNeg)) (0 : Int64) (4 : Int64) I J) = 0) (kif (vp_in a0 8) (kif (0 ≤ (I 49 0 (a0).toNatClampNeg)) (kif (vp_in a0 8) (kif (pre_X11_ofShip ((I 49 0 (a0).toNatClampNeg) - (10 : Int32)) (0 : Int32) I J) (kif ((F_X11_isUnder (F_X11_ofShip ((I 49 0 (a0).toNatClampNeg) - (10 : Int32)) (0 : Int32) I J) a1 I J) = 0) (kif (pre_X11_refused (-103 : Int32) I J) (some ((F_X11_refused (-103 : Int32) I J).1, (F_X11_refused (-103 : Int32) I J).2.1, (F_X11_refused (-103 : Int32) I J).2.2)) none) (kif (a1 = (0)) (kif (pre_X11_ofShip ((I 49 0 (a0).toNatClampNeg) - (10 : Int32)) (1 : Int32) I J) (some ((F_X11_ofShip ((I 49 0 (a0).toNatClampNeg) - (10 : Int32)) (1 : Int32) I J), I, J)) none) (kif (a1 = (1)) (kbd (E_X11_lacks (F_X11_ofShip ((I 49 0 (a0).toNatClampNeg) - (10 : Int32)) (0 : Int32) I J) (0 : Int32) (0 : Int32) (0 : Int32) (2 : Int32) I J) (fun q1 => (some (q1, I, J)))) (kif (a1 = (2)) (kbd (E_X11_lacks (F_X11_ofShip ((I 49 0 (a0).toNatClampNeg) - (10 : Int32)) (0 : Int32) I J) (1 : Int32) (0 : Int32) (0 : Int32) (1 : Int32) I J) (fun q2 => (some (q2, I, J)))) (kif (a1 = (3)) (kif (pre_X11_ofShip ((I 49 0 (a0).toNatClampNeg) - (10 : Int32)) (2 : Int32) I J) (some ((F_X11_ofShip ((I 49 0 (a0).toNatClampNeg) - (10 : Int32)) (2 : Int32) I J), I, J)) none) (kif (a1 = (4)) (kif (pre_X11_ofShip ((I 49 0 (a0).toNatClampNeg) - (10 : Int32)) (2 : Int32) I J) (some ((F_X11_ofShip ((I 49 0 (a0).toNatClampNeg) - (10 : Int32)) (2 : Int32) I J), I, J)) none) (kif (a1 = (5)) (kif (pre_X11_ofShip ((I 49 0 (a0).toNatClampNeg) - (10 : Int32)) (2 : Int32) I J) (some ((F_X11_ofShip ((I 49 0 (a0).toNatClampNeg) - (10 : Int32)) (2 : Int32) I J), I, J)) none) (kif (a1 = (6)) (kif (pre_X11_ofShip ((I 49 0 (a0).toNatClampNeg) - (10 : Int32)) (3 : Int32) I J) (some ((F_X11_ofShip ((I 49 0 (a0).toNatClampNeg) - (10 : Int32)) (3 : Int32) I J), I, J)) none) (kif (a1 = (7)) (kif (pre_X11_ofShip ((I 49 0 (a0).toNatClampNeg) - (10 : Int32)) (2 : Int32) I J) (kif ((F_X11_ofShip ((I 49 0 (a0).toNatClampNeg) - (10 : Int32)) (2 : Int32) I J) = (2 : Int32)) (some ((1 : Int32), I, J)) (some ((0 : Int32), I, J))) none) (kif (pre_X11_ofShip ((I 49 0 (a0).toNatClampNeg) - (10 : Int32)) (2 : Int32) I J) (some ((F_X11_ofShip ((I 49 0 (a0).toNatClampNeg) - (10 : Int32)) (2 : Int32) I J), I, J)) none)))))))))) none) none) (kif (pre_X11_refused (-104 : Int32) I J) (some ((F_X11_refused (-104 : Int32) I J).1, (F_X11_refused (-104 : Int32) I J).2.1, (F_X11_refused (-104 : Int32) I J).2.2)) none)) none) (kif (pre_X11_refused (-103 : Int32) I J) (some ((F_X11_refused (-103 : Int32) I J).1, (F_X11_refused (-103 : Int32) I J).2.1, (F_X11_refused (-103 : Int32) I J).2.2)) none)) none))) none)
set_option maxRecDepth 100000 in
set_option maxHeartbeats 4000000 in
theorem cs_X11_says (a0 : Int32) (a1 : Int32) (I : kI) (J : kJ) (q : Int32 × kI × kJ) (hG : E_X11_says a0 a1 I J = some q) : sp_X11_says [kx_r 11 0, kx_i a0, kx_i a1] (I, J, none) (some (kx_i q.1)) (q.2.1, q.2.2, none) := by
  unfold E_X11_says at hG
  refine kx_start [] 99 ?_
  obtain ⟨hq, hG⟩ := kif_some hG
  refine ⟨_, _, cs_X11_isShelf a0 I J hq, rfl, ?_⟩
  refine ⟨fun h1 => ?_, fun h1 => ?_⟩
  · replace h1 : (F_X11_isShelf a0 I J) = 0 := h1
    rw [kif_pos h1] at hG
    obtain ⟨hq, hG⟩ := kif_some hG
    refine ⟨_, _, cs_X11_refused (-102 : Int32) I J hq, rfl, ?_⟩
    replace hG := Option.some.inj hG
    subst hG
    exact ⟨rfl, rfl⟩
  · replace h1 : ¬ (F_X11_isShelf a0 I J) = 0 := h1
    rw [kif_neg h1] at hG
    refine ⟨_, _, cs_X11_in (Int32.toInt64 a1) (0 : Int64) (7 : Int64) I J, rfl, ?_⟩
    refine ⟨fun h2 => ?_, fun h2 => ?_⟩
    · replace h2 : ¬ (F_X11_in (Int32.toInt64 a1) (0 : Int64) (7 : Int64) I J) = 0 := h2
      rw [kif_neg h2] at hG
      obtain ⟨hq, hG⟩ := kif_some hG
      refine ⟨hq, ?_⟩
      refine ⟨_, _, cs_X11_in (Int32.toInt64 (I 49 0 (a0).toNatClampNeg)) (0 : Int64) (4 : Int64) I J, rfl, ?_⟩
      refine ⟨fun h3 => ?_, fun h3 => ?_⟩
      · replace h3 : (F_X11_in (Int32.toInt64 (I 49 0 (a0).toNatClampNeg)) (0 : Int64) (4 : Int64) I J) = 0 := h3
        rw [kif_pos h3] at hG
        obtain ⟨hq, hG⟩ := kif_some hG
        refine ⟨hq, ?_⟩
        refine ⟨fun h4 => ?_, fun h4 => ?_⟩
        · replace h4 : 0 ≤ (I 49 0 (a0).toNatClampNeg) := h4
          rw [kif_pos h4] at hG
          obtain ⟨hq, hG⟩ := kif_some hG
          refine ⟨hq, ?_⟩
          obtain ⟨hq, hG⟩ := kif_some hG
          refine ⟨_, _, cs_X11_ofShip ((I 49 0 (a0).toNatClampNeg) - (10 : Int32)) (0 : Int32) I J hq, rfl, ?_⟩
          refine ⟨_, _, cs_X11_isUnder (F_X11_ofShip ((I 49 0 (a0).toNatClampNeg) - (10 : Int32)) (0 : Int32) I J) a1 I J, rfl, ?_⟩
          refine ⟨fun h5 => ?_, fun h5 => ?_⟩
          · replace h5 : ¬ (F_X11_isUnder (F_X11_ofShip ((I 49 0 (a0).toNatClampNeg) - (10 : Int32)) (0 : Int32) I J) a1 I J) = 0 := h5
            rw [kif_neg h5] at hG
            refine ⟨fun h6 => ?_, fun h6 => ?_⟩
            · replace h6 : a1 = (0) := h6
              rw [kif_pos h6] at hG
              obtain ⟨hq, hG⟩ := kif_some hG
              refine ⟨_, _, cs_X11_ofShip ((I 49 0 (a0).toNatClampNeg) - (10 : Int32)) (1 : Int32) I J hq, rfl, ?_⟩
              replace hG := Option.some.inj hG
              subst hG
              exact ⟨rfl, rfl⟩
            · replace h6 : ¬ a1 = (0) := h6
              rw [kif_neg h6] at hG
              refine ⟨fun h7 => ?_, fun h7 => ?_⟩
              · replace h7 : a1 = (1) := h7
                rw [kif_pos h7] at hG
                obtain ⟨q1, hq, hG⟩ := kbd_some hG
                refine ⟨_, _, cs_X11_lacks (F_X11_ofShip ((I 49 0 (a0).toNatClampNeg) - (10 : Int32)) (0 : Int32) I J) (0 : Int32) (0 : Int32) (0 : Int32) (2 : Int32) I J q1 hq, rfl, ?_⟩
                replace hG := Option.some.inj hG
                subst hG
                exact ⟨rfl, rfl⟩
              · replace h7 : ¬ a1 = (1) := h7
                rw [kif_neg h7] at hG
                refine ⟨fun h8 => ?_, fun h8 => ?_⟩
                · replace h8 : a1 = (2) := h8
                  rw [kif_pos h8] at hG
                  obtain ⟨q2, hq, hG⟩ := kbd_some hG
                  refine ⟨_, _, cs_X11_lacks (F_X11_ofShip ((I 49 0 (a0).toNatClampNeg) - (10 : Int32)) (0 : Int32) I J) (1 : Int32) (0 : Int32) (0 : Int32) (1 : Int32) I J q2 hq, rfl, ?_⟩
                  replace hG := Option.some.inj hG
                  subst hG
                  exact ⟨rfl, rfl⟩
                · replace h8 : ¬ a1 = (2) := h8
                  rw [kif_neg h8] at hG
                  refine ⟨fun h9 => ?_, fun h9 => ?_⟩
                  · replace h9 : a1 = (3) := h9
                    rw [kif_pos h9] at hG
                    obtain ⟨hq, hG⟩ := kif_some hG
                    refine ⟨_, _, cs_X11_ofShip ((I 49 0 (a0).toNatClampNeg) - (10 : Int32)) (2 : Int32) I J hq, rfl, ?_⟩
                    replace hG := Option.some.inj hG
                    subst hG
                    exact ⟨rfl, rfl⟩
                  · replace h9 : ¬ a1 = (3) := h9
                    rw [kif_neg h9] at hG
                    refine ⟨fun h10 => ?_, fun h10 => ?_⟩
                    · replace h10 : a1 = (4) := h10
                      rw [kif_pos h10] at hG
                      obtain ⟨hq, hG⟩ := kif_some hG
                      refine ⟨_, _, cs_X11_ofShip ((I 49 0 (a0).toNatClampNeg) - (10 : Int32)) (2 : Int32) I J hq, rfl, ?_⟩
                      replace hG := Option.some.inj hG
                      subst hG
                      exact ⟨rfl, rfl⟩
                    · replace h10 : ¬ a1 = (4) := h10
                      rw [kif_neg h10] at hG
                      refine ⟨fun h11 => ?_, fun h11 => ?_⟩
                      · replace h11 : a1 = (5) := h11
                        rw [kif_pos h11] at hG
                        obtain ⟨hq, hG⟩ := kif_some hG
                        refine ⟨_, _, cs_X11_ofShip ((I 49 0 (a0).toNatClampNeg) - (10 : Int32)) (2 : Int32) I J hq, rfl, ?_⟩
                        replace hG := Option.some.inj hG
                        subst hG
                        exact ⟨rfl, rfl⟩
                      · replace h11 : ¬ a1 = (5) := h11
                        rw [kif_neg h11] at hG
                        refine ⟨fun h12 => ?_, fun h12 => ?_⟩
                        · replace h12 : a1 = (6) := h12
                          rw [kif_pos h12] at hG
                          obtain ⟨hq, hG⟩ := kif_some hG
                          refine ⟨_, _, cs_X11_ofShip ((I 49 0 (a0).toNatClampNeg) - (10 : Int32)) (3 : Int32) I J hq, rfl, ?_⟩
                          replace hG := Option.some.inj hG
                          subst hG
                          exact ⟨rfl, rfl⟩
                        · replace h12 : ¬ a1 = (6) := h12
                          rw [kif_neg h12] at hG
                          refine ⟨fun h13 => ?_, fun h13 => ?_⟩
                          · replace h13 : a1 = (7) := h13
                            rw [kif_pos h13] at hG
                            obtain ⟨hq, hG⟩ := kif_some hG
                            refine ⟨_, _, cs_X11_ofShip ((I 49 0 (a0).toNatClampNeg) - (10 : Int32)) (2 : Int32) I J hq, rfl, ?_⟩
                            refine ⟨fun h14 => ?_, fun h14 => ?_⟩
                            · replace h14 : ¬ (F_X11_ofShip ((I 49 0 (a0).toNatClampNeg) - (10 : Int32)) (2 : Int32) I J) = (2 : Int32) := h14
                              rw [kif_neg h14] at hG
                              replace hG := Option.some.inj hG
                              subst hG
                              exact ⟨rfl, rfl⟩
                            · replace h14 : (F_X11_ofShip ((I 49 0 (a0).toNatClampNeg) - (10 : Int32)) (2 : Int32) I J) = (2 : Int32) := h14
                              rw [kif_pos h14] at hG
                              replace hG := Option.some.inj hG
                              subst hG
                              exact ⟨rfl, rfl⟩
                          · replace h13 : ¬ a1 = (7) := h13
                            rw [kif_neg h13] at hG
                            obtain ⟨hq, hG⟩ := kif_some hG
                            refine ⟨_, _, cs_X11_ofShip ((I 49 0 (a0).toNatClampNeg) - (10 : Int32)) (2 : Int32) I J hq, rfl, ?_⟩
                            replace hG := Option.some.inj hG
                            subst hG
                            exact ⟨rfl, rfl⟩
          · replace h5 : (F_X11_isUnder (F_X11_ofShip ((I 49 0 (a0).toNatClampNeg) - (10 : Int32)) (0 : Int32) I J) a1 I J) = 0 := h5
            rw [kif_pos h5] at hG
            obtain ⟨hq, hG⟩ := kif_some hG
            refine ⟨_, _, cs_X11_refused (-103 : Int32) I J hq, rfl, ?_⟩
            replace hG := Option.some.inj hG
            subst hG
            exact ⟨rfl, rfl⟩
        · replace h4 : ¬ 0 ≤ (I 49 0 (a0).toNatClampNeg) := h4
          rw [kif_neg h4] at hG
          obtain ⟨hq, hG⟩ := kif_some hG
          refine ⟨_, _, cs_X11_refused (-104 : Int32) I J hq, rfl, ?_⟩
          replace hG := Option.some.inj hG
          subst hG
          exact ⟨rfl, rfl⟩
      · replace h3 : ¬ (F_X11_in (Int32.toInt64 (I 49 0 (a0).toNatClampNeg)) (0 : Int64) (4 : Int64) I J) = 0 := h3
        rw [kif_neg h3] at hG
        obtain ⟨hq, hG⟩ := kif_some hG
        refine ⟨_, _, cs_X11_refused (-103 : Int32) I J hq, rfl, ?_⟩
        replace hG := Option.some.inj hG
        subst hG
        exact ⟨rfl, rfl⟩
    · replace h2 : (F_X11_in (Int32.toInt64 a1) (0 : Int64) (7 : Int64) I J) = 0 := h2
      rw [kif_pos h2] at hG
      obtain ⟨hq, hG⟩ := kif_some hG
      refine ⟨_, _, cs_X11_refused (-102 : Int32) I J hq, rfl, ?_⟩
      replace hG := Option.some.inj hG
      subst hG
      exact ⟨rfl, rfl⟩

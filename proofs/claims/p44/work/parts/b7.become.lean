/-! a world becomes another -/
theorem X5_become (o o0 : Nat) (ho : ¬ o0 = o) (I : kI) (J : kJ) (t o2 j : Nat) : (F_X5_become o o0 I J).1 t o2 j = if o2 = o ∧ (((t = 35 ∨ t = 36) ∧ j < 20) ∨ (t = 5 ∧ (j = 2 ∨ j = 3))) then I t o0 j else I t o2 j := by
  have l0 : ((0 : Int32)).toNatClampNeg = 0 := rfl
  have l20 : ((20 : Int32)).toNatClampNeg = 20 := rfl
  unfold F_X5_become
  simp only [kw_app, kcI_app, l0, l20, Nat.zero_add, Nat.sub_zero]
  by_cases q : o2 = o
  · subst q
    by_cases t5 : t = 5
    · subst t5
      by_cases j2 : j = 2
      · subst j2; simp [ho]
      · by_cases j3 : j = 3
        · subst j3; simp [ho]
        · simp [j2, j3]
    · by_cases t35 : t = 35
      · subst t35; simp [ho]
      · by_cases t36 : t = 36
        · subst t36; simp [ho]
        · simp [t5, t35, t36]
  · simp [q]
theorem X1_become (o o0 : Nat) (ho : ¬ o0 = o) (I : kI) (J : kJ) (t o2 j : Nat) : (F_X1_become o o0 I J).1 t o2 j = if o2 = o ∧ (((20 ≤ t ∧ t < 25) ∧ j < 6) ∨ (t = 1 ∧ j = 5)) then I t o0 j else I t o2 j := by
  have l0 : ((0 : Int32)).toNatClampNeg = 0 := rfl
  have l6 : ((6 : Int32)).toNatClampNeg = 6 := rfl
  unfold F_X1_become
  simp only [kw_app, kcI_app, l0, l6, Nat.zero_add, Nat.sub_zero]
  by_cases q : o2 = o
  · subst q
    by_cases t5 : t = 1
    · subst t5
      by_cases j2 : j = 5
      · subst j2; simp [ho]
      · simp [j2]
    · by_cases a0 : t = 20
      · subst a0; simp [ho]
      · by_cases a1 : t = 21
        · subst a1; simp [ho]
        · by_cases a2 : t = 22
          · subst a2; simp [ho]
          · by_cases a3 : t = 23
            · subst a3; simp [ho]
            · by_cases a4 : t = 24
              · subst a4; simp [ho]
              · have n : ¬ (20 ≤ t ∧ t < 25) := by omega
                simp [t5, a0, a1, a2, a3, a4, n]
  · simp [q]
theorem X0_become (o o0 : Nat) (ho : ¬ o0 = o) (I : kI) (J : kJ) (t o2 j : Nat) : (F_X0_become o o0 I J).1 t o2 j = if o2 = o ∧ t = 0 ∧ j < 5 then I t o0 j else I t o2 j := by
  unfold F_X0_become
  simp only [kw_app]
  by_cases q : o2 = o
  · subst q
    by_cases t0 : t = 0
    · subst t0
      by_cases j5 : j < 5
      · have c : j = 0 ∨ j = 1 ∨ j = 2 ∨ j = 3 ∨ j = 4 := by omega
        rcases c with rfl | rfl | rfl | rfl | rfl <;> simp [ho]
      · have n0 : ¬ j = 0 := by omega
        have n1 : ¬ j = 1 := by omega
        have n2 : ¬ j = 2 := by omega
        have n3 : ¬ j = 3 := by omega
        have n4 : ¬ j = 4 := by omega
        simp [n0, n1, n2, n3, n4, j5]
    · simp [t0]
  · simp [q]
theorem X2_become (o o0 : Nat) (ho : ¬ o0 = o) (I : kI) (J : kJ) (t o2 j : Nat) : (F_X2_become o o0 I J).1 t o2 j = if o2 = o ∧ (((25 ≤ t ∧ t < 30) ∧ j < 200) ∨ (t = 2 ∧ j = 5)) then I t o0 j else I t o2 j := by
  have l0 : ((0 : Int32)).toNatClampNeg = 0 := rfl
  have l6 : ((200 : Int32)).toNatClampNeg = 200 := rfl
  unfold F_X2_become
  simp only [kw_app, kcI_app, l0, l6, Nat.zero_add, Nat.sub_zero]
  by_cases q : o2 = o
  · subst q
    by_cases t5 : t = 2
    · subst t5
      by_cases j2 : j = 5
      · subst j2; simp [ho]
      · simp [j2]
    · by_cases a0 : t = 25
      · subst a0; simp [ho]
      · by_cases a1 : t = 26
        · subst a1; simp [ho]
        · by_cases a2 : t = 27
          · subst a2; simp [ho]
          · by_cases a3 : t = 28
            · subst a3; simp [ho]
            · by_cases a4 : t = 29
              · subst a4; simp [ho]
              · have n : ¬ (25 ≤ t ∧ t < 30) := by omega
                simp [t5, a0, a1, a2, a3, a4, n]
  · simp [q]
theorem X3_become (o o0 : Nat) (ho : ¬ o0 = o) (I : kI) (J : kJ) (t o2 j : Nat) : (F_X3_become o o0 I J).1 t o2 j = if o2 = o ∧ (((30 ≤ t ∧ t < 34) ∧ j < 400) ∨ (t = 3 ∧ j = 4)) then I t o0 j else I t o2 j := by
  have l0 : ((0 : Int32)).toNatClampNeg = 0 := rfl
  have l6 : ((400 : Int32)).toNatClampNeg = 400 := rfl
  unfold F_X3_become
  simp only [kw_app, kcI_app, l0, l6, Nat.zero_add, Nat.sub_zero]
  by_cases q : o2 = o
  · subst q
    by_cases t5 : t = 3
    · subst t5
      by_cases j2 : j = 4
      · subst j2; simp [ho]
      · simp [j2]
    · by_cases a0 : t = 30
      · subst a0; simp [ho]
      · by_cases a1 : t = 31
        · subst a1; simp [ho]
        · by_cases a2 : t = 32
          · subst a2; simp [ho]
          · by_cases a3 : t = 33
            · subst a3; simp [ho]
            · have n : ¬ (30 ≤ t ∧ t < 34) := by omega
              simp [t5, a0, a1, a2, a3, n]
  · simp [q]
/-- the cells of a station that count -/
def bS (t j : Nat) : Prop := (t = 0 ∧ j < 5) ∨ (t = 1 ∧ j = 5) ∨ (t = 5 ∧ (j = 2 ∨ j = 3)) ∨ (t = 6 ∧ 4 ≤ j ∧ j < 12) ∨ ((20 ≤ t ∧ t < 25) ∧ j < 6) ∨ ((t = 35 ∨ t = 36) ∧ j < 20) ∨ (t = 37 ∧ j < 24)
def bW (t j : Nat) : Prop := (t = 2 ∧ j = 5) ∨ (t = 3 ∧ j = 4) ∨ (t = 9 ∧ 3 ≤ j ∧ j < 6) ∨ ((25 ≤ t ∧ t < 30) ∧ j < 200) ∨ ((30 ≤ t ∧ t < 34) ∧ j < 400)
theorem E_become6 (o o0 : Nat) (ho : ¬ o0 = o) (I : kI) (J : kJ) (h10 : I 6 o0 10 = 0 ∨ I 6 o0 10 = 1) : ∃ I', E_X6_become o o0 I J = some (I', J) ∧ (∀ t o2 j, ¬ (o2 = o ∧ bS t j) → I' t o2 j = I t o2 j) ∧ (∀ t j, bS t j → I' t o j = I t o0 j) := by
  have l0 : ((0 : Int32)).toNatClampNeg = 0 := rfl
  have l24 : ((24 : Int32)).toNatClampNeg = 24 := rfl
  have g0 : ¬ (0 : Int32) < 0 := by decide
  have p20 : ¬ (20 : Int32) < 0 := by decide
  have p6 : ¬ (6 : Int32) < 0 := by decide
  have p24 : ¬ (24 : Int32) < 0 := by decide
  have c20 : (¬ (0 : Int32) < 0 ∧ ¬ (0 : Int32) < 0 ∧ ¬ (20 : Int32) < 0 ∧ ((0 : Int32)).toNatClampNeg + ((20 : Int32)).toNatClampNeg ≤ 20 ∧ ((0 : Int32)).toNatClampNeg + ((20 : Int32)).toNatClampNeg ≤ 20) := ⟨g0, g0, p20, Nat.le_refl 20, Nat.le_refl 20⟩
  have c6 : (¬ (0 : Int32) < 0 ∧ ¬ (0 : Int32) < 0 ∧ ¬ (6 : Int32) < 0 ∧ ((0 : Int32)).toNatClampNeg + ((6 : Int32)).toNatClampNeg ≤ 6 ∧ ((0 : Int32)).toNatClampNeg + ((6 : Int32)).toNatClampNeg ≤ 6) := ⟨g0, g0, p6, Nat.le_refl 6, Nat.le_refl 6⟩
  have c24 : (¬ (0 : Int32) < 0 ∧ ¬ (0 : Int32) < 0 ∧ ¬ (24 : Int32) < 0 ∧ ((0 : Int32)).toNatClampNeg + ((24 : Int32)).toNatClampNeg ≤ 24 ∧ ((0 : Int32)).toNatClampNeg + ((24 : Int32)).toNatClampNeg ≤ 24) := ⟨g0, g0, p24, Nat.le_refl 24, Nat.le_refl 24⟩
  obtain ⟨m, hm⟩ : ∃ m, kfu = m + 2 := ⟨kfu - 2, by unfold kfu; omega⟩
  have a5 := X5_become o o0 ho I J
  have b5 : (F_X5_become o o0 I J).2 = J := rfl
  unfold E_X6_become
  rw [kif_pos (show pre_X5_become o o0 I J from ⟨c20, c20, trivial⟩), b5]
  generalize (F_X5_become o o0 I J).1 = I1 at *
  have a1 := X1_become o o0 ho I1 J
  have b1 : (F_X1_become o o0 I1 J).2 = J := rfl
  rw [kif_pos (show pre_X1_become o o0 I1 J from ⟨c6, c6, c6, c6, c6, trivial⟩), b1]
  generalize (F_X1_become o o0 I1 J).1 = I2 at *
  have a0 := X0_become o o0 ho I2 J
  have b0 : (F_X0_become o o0 I2 J).2 = J := rfl
  rw [kif_pos c24, b0, hm, l0, l24]
  generalize (F_X0_become o o0 I2 J).1 = I3 at *
  obtain ⟨I4, hI4⟩ : ∃ K, K = kcI I3 37 o0 37 o 0 0 24 := ⟨_, rfl⟩
  rw [← hI4]
  have a4 : ∀ t o2 j, I4 t o2 j = if t = 37 ∧ o2 = o ∧ j < 24 then I3 t o0 j else I3 t o2 j := fun t o2 j => by
    rw [hI4, kcI_app]
    by_cases q : t = 37 ∧ o2 = o ∧ j < 24
    · rw [if_pos ⟨q.1, q.2.1, by omega, by omega⟩, if_pos q, q.1]
      congr 1
      omega
    · rw [if_neg (fun z => q ⟨z.1, z.2.1, by omega⟩), if_neg q]
  rw [G_X6_become_56, G_X6_become_96]
  simp only [kw_app, ho, false_and, and_false, if_false]
  have q10 : I4 6 o0 10 = I 6 o0 10 := by
    rw [a4, if_neg (by omega), a0, if_neg (by omega), a1, if_neg (by omega), a5, if_neg (by omega)]
  rw [q10, kif_pos h10]
  have i6 : ∀ o2 j, I4 6 o2 j = I 6 o2 j := fun o2 j => by
    rw [a4, if_neg (by omega), a0, if_neg (by omega), a1, if_neg (by omega), a5, if_neg (by omega)]
  refine ⟨_, rfl, fun t o2 j hq => ?_, fun t j hb => ?_⟩
  · have k4 : I4 t o2 j = I t o2 j := by
      unfold bS at hq
      rw [a4, if_neg (by omega), a0, if_neg (by omega), a1, if_neg (by omega), a5, if_neg (by omega)]
    have n6 : ¬ (t = 6 ∧ o2 = o ∧ 4 ≤ j ∧ j < 12) := fun z => hq ⟨z.2.1, by unfold bS; omega⟩
    rw [kw_at _ _ (by omega), kw_at _ _ (by omega), kw_at _ _ (by omega), kw_at _ _ (by omega), kw_at _ _ (by omega), kw_at _ _ (by omega), kw_at _ _ (by omega), kw_at _ _ (by omega), k4]
  · by_cases t6 : t = 6
    · subst t6
      have c : j = 4 ∨ j = 5 ∨ j = 6 ∨ j = 7 ∨ j = 8 ∨ j = 9 ∨ j = 10 ∨ j = 11 := by unfold bS at hb; omega
      rcases c with rfl | rfl | rfl | rfl | rfl | rfl | rfl | rfl <;> simp [kw_app, i6]
    · rw [kw_at _ _ (by omega), kw_at _ _ (by omega), kw_at _ _ (by omega), kw_at _ _ (by omega), kw_at _ _ (by omega), kw_at _ _ (by omega), kw_at _ _ (by omega), kw_at _ _ (by omega), a4]
      unfold bS at hb
      by_cases t37 : t = 37
      · rw [if_pos ⟨t37, rfl, by omega⟩, a0, if_neg (by omega), a1, if_neg (by omega), a5, if_neg (by omega)]
      · rw [if_neg (fun z => t37 z.1), a0]
        by_cases t0 : t = 0
        · rw [if_pos ⟨rfl, t0, by omega⟩, a1, if_neg (by omega), a5, if_neg (by omega)]
        · rw [if_neg (fun z => t0 z.2.1), a1]
          by_cases t1 : (20 ≤ t ∧ t < 25) ∨ t = 1
          · rw [if_pos ⟨rfl, by omega⟩, a5, if_neg (by omega)]
          · rw [if_neg (by omega), a5, if_pos ⟨rfl, by omega⟩]
theorem E_become9 (o o0 : Nat) (ho : ¬ o0 = o) (I : kI) (J : kJ) (h10 : I 6 o0 10 = 0 ∨ I 6 o0 10 = 1) : ∃ I', E_X9_become o o0 I J = some (I', J) ∧ (∀ t o2 j, ¬ (o2 = o ∧ (bS t j ∨ bW t j)) → I' t o2 j = I t o2 j) ∧ (∀ t j, bS t j ∨ bW t j → I' t o j = I t o0 j) := by
  have g0 : ¬ (0 : Int32) < 0 := by decide
  have p20 : ¬ (200 : Int32) < 0 := by decide
  have p40 : ¬ (400 : Int32) < 0 := by decide
  have c2 : (¬ (0 : Int32) < 0 ∧ ¬ (0 : Int32) < 0 ∧ ¬ (200 : Int32) < 0 ∧ ((0 : Int32)).toNatClampNeg + ((200 : Int32)).toNatClampNeg ≤ 200 ∧ ((0 : Int32)).toNatClampNeg + ((200 : Int32)).toNatClampNeg ≤ 200) := ⟨g0, g0, p20, Nat.le_refl 200, Nat.le_refl 200⟩
  have c4 : (¬ (0 : Int32) < 0 ∧ ¬ (0 : Int32) < 0 ∧ ¬ (400 : Int32) < 0 ∧ ((0 : Int32)).toNatClampNeg + ((400 : Int32)).toNatClampNeg ≤ 400 ∧ ((0 : Int32)).toNatClampNeg + ((400 : Int32)).toNatClampNeg ≤ 400) := ⟨g0, g0, p40, Nat.le_refl 400, Nat.le_refl 400⟩
  obtain ⟨m, hm⟩ : ∃ m, kfu = m + 1 := ⟨kfu - 1, by unfold kfu; omega⟩
  obtain ⟨I1, e1, f1, s1⟩ := E_become6 o o0 ho I J h10
  have a2 := X2_become o o0 ho I1 J
  have b2 : (F_X2_become o o0 I1 J).2 = J := rfl
  unfold E_X9_become
  rw [kbd_eq e1]
  dsimp only
  rw [kif_pos (show pre_X2_become o o0 I1 J from ⟨c2, c2, c2, c2, c2, trivial⟩), b2]
  generalize (F_X2_become o o0 I1 J).1 = I2 at *
  have a3 := X3_become o o0 ho I2 J
  have b3 : (F_X3_become o o0 I2 J).2 = J := rfl
  rw [kif_pos (show pre_X3_become o o0 I2 J from ⟨c4, c4, c4, c4, trivial⟩), b3, hm, G_X9_become_49]
  generalize (F_X3_become o o0 I2 J).1 = I3 at *
  simp only [kw_app, ho, false_and, and_false, if_false]
  have i9 : ∀ o2 j, I3 9 o2 j = I 9 o2 j := fun o2 j => by
    rw [a3, if_neg (by omega), a2, if_neg (by omega), f1 _ _ _ (by unfold bS; omega)]
  refine ⟨_, rfl, fun t o2 j hq => ?_, fun t j hb => ?_⟩
  · have n9 : ¬ (t = 9 ∧ o2 = o ∧ 3 ≤ j ∧ j < 6) := fun z => hq ⟨z.2.1, Or.inr (by unfold bW; omega)⟩
    have nb : ¬ (o2 = o ∧ bS t j) := fun z => hq ⟨z.1, Or.inl z.2⟩
    have nw : ¬ (o2 = o ∧ bW t j) := fun z => hq ⟨z.1, Or.inr z.2⟩
    unfold bW at nw
    rw [kw_at _ _ (by omega), kw_at _ _ (by omega), kw_at _ _ (by omega), a3, if_neg (by omega), a2, if_neg (by omega), f1 _ _ _ nb]
  · by_cases t9 : t = 9
    · subst t9
      have c : j = 3 ∨ j = 4 ∨ j = 5 := by unfold bS bW at hb; omega
      rcases c with rfl | rfl | rfl <;> simp [kw_app, i9]
    · rw [kw_at _ _ (by omega), kw_at _ _ (by omega), kw_at _ _ (by omega), a3]
      rcases hb with hb | hb
      · have hb' := hb
        unfold bS at hb'
        rw [if_neg (by omega), a2, if_neg (by omega), s1 _ _ hb]
      · unfold bW at hb
        by_cases t3 : (30 ≤ t ∧ t < 34) ∨ t = 3
        · rw [if_pos ⟨rfl, by omega⟩, a2, if_neg (by omega), f1 _ _ _ (by unfold bS; omega)]
        · rw [if_neg (by omega), a2, if_pos ⟨rfl, by omega⟩, f1 _ _ _ (by unfold bS; omega)]
theorem CS_become {I I' : kI} {o o0 : Nat} {g : Nat → Int32} {N : Nat} (hg : WG g N) (h : CS I o0 g) (hb : ∀ t j, bS t j → I' t o j = I t o0 j) : CS I' o g := by
  have h12 := hg.2.1.2
  have h13 := hg.2.2.1.2
  unfold bS at hb
  obtain ⟨s1, s2, s3, s4, s5, s6, s7, s8, s9⟩ := h
  refine ⟨fun j hj => by rw [hb _ _ (by omega)]; exact s1 j hj, fun j hj => by rw [hb _ _ (by omega)]; exact s2 j hj, by rw [hb _ _ (by omega)]; exact s3, by rw [hb _ _ (by omega)]; exact s4, by rw [hb _ _ (by omega)]; exact s5, fun r hr => ?_, by rw [hb _ _ (by omega)]; exact s7, fun i hi => ?_, fun i hi => by rw [hb _ _ (by omega)]; exact s9 i hi⟩
  · rw [hb _ _ (by omega), hb _ _ (by omega)]; exact s6 r hr
  · rw [hb _ _ (by omega), hb _ _ (by omega), hb _ _ (by omega), hb _ _ (by omega), hb _ _ (by omega)]; exact s8 i hi
theorem CW_become {I I' : kI} {o o0 : Nat} {g : Nat → Int32} {N : Nat} (hg : WG g N) (h : CW I o0 g) (hb : ∀ t j, bS t j ∨ bW t j → I' t o j = I t o0 j) : CW I' o g := by
  have h14 := hg.2.2.2.1.2
  have h15 := hg.2.2.2.2.2.2.2.2.2.1.2
  obtain ⟨hS, ⟨p, hF, hfm⟩, hL, u1, u2, u3⟩ := h
  have hw : ∀ t j, bW t j → I' t o j = I t o0 j := fun t j q => hb t j (Or.inr q)
  unfold bW at hw
  refine ⟨CS_become hg hS (fun t j q => hb t j (Or.inl q)), ⟨p, ?_, fun s hs => ?_⟩, ⟨by rw [hw _ _ (by omega)]; exact hL.1, fun e he => ?_⟩, by rw [hw _ _ (by omega)]; exact u1, by rw [hw _ _ (by omega)]; exact u2, by rw [hw _ _ (by omega)]; exact u3⟩
  · obtain ⟨f1, f2, f3, f4, f5, f6⟩ := hF
    refine ⟨f1, by rw [hw _ _ (by omega)]; exact f2, fun s hs => ?_, fun a ha => ?_, f5, f6⟩
    · rw [hw _ _ (by omega), hw _ _ (by omega)]; exact f3 s hs
    · rw [hw _ _ (by omega)]; exact f4 a ha
  · rw [hw _ _ (by omega), hw _ _ (by omega)]; exact hfm s hs
  · rw [hw _ _ (by omega), hw _ _ (by omega), hw _ _ (by omega), hw _ _ (by omega)]; exact hL.2 e he

/-! an hour of the class's station -/
theorem e10 : ((1 : Int32) = 0) = False := eq_false (by decide)
theorem e01 : ((0 : Int32) = 1) = False := eq_false (by decide)
def tlL (I : kI) (o : Nat) : Int32 := if ¬ I 6 o 13 = 0 ∧ (¬ I 6 o 15 = 0 ∨ (¬ I 6 o 10 = 0 ∧ I 6 o 11 = 0)) ∧ ¬ I 6 o 8 < I 6 o 7 then 1 else 0
def tlU (I : kI) (o : Nat) : Int32 := if ¬ tlL I o = 0 ∧ I 6 o 15 = 0 then 1 else 0
def tlO (I : kI) (o : Nat) : Int32 := if tlL I o = 0 then I 6 o 8 else I 6 o 8 - I 6 o 7
def tlX (I : kI) (o : Nat) : kI := kx_uA I 6 o (fun j => if j = 10 then tlL I o else if j = 11 then tlU I o else if j = 8 then tlO I o else I 6 o j)
theorem tlX_app (I : kI) (o t2 o2 j : Nat) : tlX I o t2 o2 j = if t2 = 6 ∧ o2 = o ∧ j = 10 then tlL I o else if t2 = 6 ∧ o2 = o ∧ j = 11 then tlU I o else if t2 = 6 ∧ o2 = o ∧ j = 8 then tlO I o else I t2 o2 j := by
  unfold tlX
  rw [kx_uA_app]
  grind
theorem E_tendLamp (o : Nat) (I : kI) (J : kJ) : E_X6_tendLamp o I J = some (tlX I o, J) := by
  obtain ⟨m, hm⟩ : ∃ m, kfu = m + 12 := ⟨kfu - 12, by unfold kfu; omega⟩
  unfold E_X6_tendLamp
  rw [hm]
  have e : ∀ K : kI, (∀ t2 o2 j, K t2 o2 j = tlX I o t2 o2 j) → some (K, J) = some (tlX I o, J) := fun K hK => by rw [kI_ext hK]
  by_cases h15 : I 6 o 15 = 0 <;> by_cases h10 : I 6 o 10 = 0 <;> by_cases h11 : I 6 o 11 = 0 <;> by_cases h13 : I 6 o 13 = 0 <;> by_cases h8 : I 6 o 8 < I 6 o 7 <;>
    simp only [G_X6_tendLamp_21, G_X6_tendLamp_25, G_X6_tendLamp_26, G_X6_tendLamp_54, G_X6_tendLamp_55, G_X6_tendLamp_77, G_X6_tendLamp_78, G_X6_tendLamp_101, kif_eq, kw_app, h15, h10, h11, h13, h8, if_true, if_false, and_true, true_and, Nat.reduceEqDiff, false_and, and_false, or_true, true_or, e10, e01, or_false, false_or, not_true_eq_false, not_false_eq_true] <;>
    refine e _ (fun t2 o2 j => ?_) <;>
    simp only [tlX_app, tlL, tlU, tlO, kw_app, h15, h10, h11, h13, h8] <;>
    grind

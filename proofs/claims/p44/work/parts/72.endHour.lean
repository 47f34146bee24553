/-! the hour's last part, of the class's station -/
def mn9 (x : Int32) : Int32 := if x < 9999 then x else 9999
def mbX (I : kI) (o c : Nat) : kI := fun t2 o2 j => if t2 = 6 ∧ o2 = o ∧ j = 8 then mn9 (I 6 o 8 + I 0 o 2) else if t2 = 6 ∧ o2 = o ∧ j = 9 then mn9 (I 6 o 9 + I 0 o 3) else if t2 = 22 ∧ o2 = o ∧ j < c then 0 else if t2 = 0 ∧ o2 = o ∧ j = 0 then I 6 o 4 + I 0 o 1 else if t2 = 0 ∧ o2 = o ∧ j = 4 then I 0 o 4 + 1 else I t2 o2 j
theorem mbX_app (I : kI) (o c t2 o2 j : Nat) : mbX I o c t2 o2 j = if t2 = 6 ∧ o2 = o ∧ j = 8 then mn9 (I 6 o 8 + I 0 o 2) else if t2 = 6 ∧ o2 = o ∧ j = 9 then mn9 (I 6 o 9 + I 0 o 3) else if t2 = 22 ∧ o2 = o ∧ j < c then 0 else if t2 = 0 ∧ o2 = o ∧ j = 0 then I 6 o 4 + I 0 o 1 else if t2 = 0 ∧ o2 = o ∧ j = 4 then I 0 o 4 + 1 else I t2 o2 j := rfl
theorem E_meetBoat (o : Nat) (I : kI) (J : kJ) {c : Nat} (hc : c ≤ 6) (hcr : I 1 o 5 = nI c) : E_X6_meetBoat o I J = some (mbX I o c, J) := by
  obtain ⟨m, hm⟩ : ∃ m, kfu = m + 1 := ⟨kfu - 1, by unfold kfu; omega⟩
  unfold E_X6_meetBoat
  rw [hm, G_X6_meetBoat_44]
  generalize hK : kw (kw I 6 o 8 _) 6 o 9 _ = K
  have hK1 : K 1 o 5 = nI c := by rw [← hK]; simp [kw_app, hcr]
  rw [kif_pos (show pre_X1_restAll o K J from ⟨c, hc, hK1⟩)]
  have fin : ∀ Y : kI, (∀ t2 o2 j, Y t2 o2 j = mbX I o c t2 o2 j) → some (Y, J) = some (mbX I o c, J) := fun Y hY => by rw [kI_ext hY]
  refine fin _ (fun t2 o2 j => ?_)
  simp only [F_X1_restAll, hK1, nI_clamp (show c < 2147483648 by omega), kw_app, kx_uA_app]
  rw [← hK]
  simp only [mbX_app, mn9, kw_app]
  grind
def bF (I : kI) (o : Nat) : Prop := ¬ I 0 o 0 = -1 ∧ ¬ I 6 o 4 < I 0 o 0 ∧ ¬ I 6 o 12 = 2 ∧ I 6 o 13 = 0
def shW (I : kI) (o c : Nat) : kI := shX I o (I 6 o 14) (I 6 o 15) (if I 6 o 12 = 2 then 2 else 1) c
noncomputable def ehX (I : kI) (o c : Nat) : kI := kw (kif (bF I o) (mbX (shW I o c) o c) (shW I o c)) 6 o 4 (I 6 o 4 + 1)
theorem shX_ne (I : kI) (o : Nat) (w a k : Int32) (i : Nat) {t2 : Nat} (o2 j : Nat) (h1 : ¬ t2 = 22) (h2 : ¬ t2 = 23) (h3 : ¬ t2 = 24) : shX I o w a k i t2 o2 j = I t2 o2 j := by
  rw [shX_app]
  simp [h1, h2, h3]
theorem E_endHour (o : Nat) (I : kI) (J : kJ) {c : Nat} (hc : c ≤ 6) (hcr : I 1 o 5 = nI c) : E_X6_endHour o I J = some (ehX I o c, J) := by
  have hp : ∀ k, pre_X1_spendHour o (I 6 o 14) (I 6 o 15) k I J := fun k => ⟨c, hc, hcr⟩
  have hF : ∀ k, F_X1_spendHour o (I 6 o 14) (I 6 o 15) k I J = (shX I o (I 6 o 14) (I 6 o 15) k c, J) := fun k => by
    unfold F_X1_spendHour
    rw [hcr, nI_clamp (by omega)]
  have h0 : ∀ k j, shX I o (I 6 o 14) (I 6 o 15) k c 0 o j = I 0 o j := fun k j => shX_ne I o _ _ k c o j (by decide) (by decide) (by decide)
  have h6 : ∀ k j, shX I o (I 6 o 14) (I 6 o 15) k c 6 o j = I 6 o j := fun k j => shX_ne I o _ _ k c o j (by decide) (by decide) (by decide)
  have h1 : ∀ k, shX I o (I 6 o 14) (I 6 o 15) k c 1 o 5 = nI c := fun k => (shX_ne I o _ _ k c o 5 (by decide) (by decide) (by decide)).trans hcr
  have hm : ∀ k, E_X6_meetBoat o (shX I o (I 6 o 14) (I 6 o 15) k c) J = some (mbX (shX I o (I 6 o 14) (I 6 o 15) k c) o c, J) := fun k => E_meetBoat o _ J hc (h1 k)
  have hmb : ∀ K : kI, mbX K o c 6 o 4 = K 6 o 4 := fun K => by rw [mbX_app]; simp
  have e10 : ¬ (1 : Int32) = 0 := by decide
  unfold E_X6_endHour
  simp only [kif_pos (hp _), hF, h0, h6, F_X0_isDueAt, kbd_eq (hm _), hmb]
  unfold ehX bF shW
  by_cases a1 : I 6 o 12 = 2 <;> by_cases a2 : I 0 o 0 = -1 <;> by_cases a3 : I 6 o 4 < I 0 o 0 <;> by_cases a4 : I 6 o 13 = 0 <;>
    simp [kif_eq, a1, a2, a3, a4, e10]

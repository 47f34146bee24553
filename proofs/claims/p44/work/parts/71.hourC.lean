/-! an hour of the class's station -/
theorem e10 : ((1 : Int32) = 0) = False := eq_false (by decide)
theorem e01 : ((0 : Int32) = 1) = False := eq_false (by decide)
def tlL (I : kI) (o : Nat) : Int32 := if ¬ I 6 o 13 = 0 ∧ (¬ I 6 o 15 = 0 ∨ (¬ I 6 o 10 = 0 ∧ I 6 o 11 = 0)) ∧ ¬ I 6 o 8 < I 6 o 7 then 1 else 0
def tlU (I : kI) (o : Nat) : Int32 := if ¬ tlL I o = 0 ∧ I 6 o 15 = 0 then 1 else 0
def tlO (I : kI) (o : Nat) : Int32 := if tlL I o = 0 then I 6 o 8 else I 6 o 8 - I 6 o 7
def tlX (I : kI) (o : Nat) : kI := kx_uA I 6 o (fun j => if j = 10 then tlL I o else if j = 11 then tlU I o else if j = 8 then tlO I o else I 6 o j)
theorem tlX_app (I : kI) (o t2 o2 j : Nat) : tlX I o t2 o2 j = if t2 = 6 ∧ o2 = o ∧ j = 10 then tlL I o else if t2 = 6 ∧ o2 = o ∧ j = 11 then tlU I o else if t2 = 6 ∧ o2 = o ∧ j = 8 then tlO I o else I t2 o2 j := by
  unfold tlX
  rw [kx_uA_app]
  grind
theorem E_tendLamp (o : Nat) (I : kI) (J : kJ) : E_X6_tendLamp o I J = some (tlX I o, J) := by
  obtain ⟨m, hm⟩ : ∃ m, kfu = m + 12 := ⟨kfu - 12, by unfold kfu; omega⟩
  unfold E_X6_tendLamp
  rw [hm]
  have e : ∀ K : kI, (∀ t2 o2 j, K t2 o2 j = tlX I o t2 o2 j) → some (K, J) = some (tlX I o, J) := fun K hK => by rw [kI_ext hK]
  by_cases h15 : I 6 o 15 = 0 <;> by_cases h10 : I 6 o 10 = 0 <;> by_cases h11 : I 6 o 11 = 0 <;> by_cases h13 : I 6 o 13 = 0 <;> by_cases h8 : I 6 o 8 < I 6 o 7 <;>
    simp only [G_X6_tendLamp_21, G_X6_tendLamp_25, G_X6_tendLamp_26, G_X6_tendLamp_54, G_X6_tendLamp_55, G_X6_tendLamp_77, G_X6_tendLamp_78, G_X6_tendLamp_101, kif_eq, kw_app, h15, h10, h11, h13, h8, if_true, if_false, and_true, true_and, Nat.reduceEqDiff, false_and, and_false, or_true, true_or, e10, e01, or_false, false_or, not_true_eq_false, not_false_eq_true] <;>
    refine e _ (fun t2 o2 j => ?_) <;>
    simp only [tlX_app, tlL, tlU, tlO, kw_app, h15, h10, h11, h13, h8] <;>
    grind
theorem F_hod (h : Nat) (hh : h < 2147483648) (I : kI) (J : kJ) : F_J9_floorMod_7cf53 (nI h) (24 : Int32) I J = nI (h % 24) := by
  rw [F_floorMod I J (by rw [iz_nI hh]; omega) (by decide)]
  exact iz_modN (n := 24) hh (by omega) (by omega)
def cD (I : kI) (o h : Nat) : Int32 := if nI (h % 24) < I 6 o 5 then 1 else if nI (h % 24) < I 6 o 6 then 0 else 1
theorem F_isDark (o h : Nat) (hh : h < 2147483648) (I : kI) (J : kJ) : F_X6_isDarkAt o (nI h) I J = cD I o h := by
  unfold F_X6_isDarkAt cD
  rw [F_hod h hh]
  simp only [kif_eq]
theorem cD_01 (I : kI) (o h : Nat) : cD I o h = 0 ∨ cD I o h = 1 := by
  unfold cD
  split
  · exact Or.inr rfl
  · split
    · exact Or.inl rfl
    · exact Or.inr rfl
theorem p_fm (a : Int32) (I : kI) (J : kJ) : pre_J9_floorMod_7cf53 a (24 : Int32) I J := ⟨by decide, trivial⟩
theorem p_dark (o : Nat) (a : Int32) (I : kI) (J : kJ) : pre_X6_isDarkAt o a I J := ⟨p_fm a I J, trivial⟩
theorem F_within (a b c : Int32) (I : kI) (J : kJ) : F_X10_isWithin a b c I J = if a < b then 0 else if c < a then 0 else 1 := by
  unfold F_X10_isWithin
  simp only [kif_eq]
theorem F_hourOfDay (k : Nat) (hk : k < 24) (I : kI) (J : kJ) : F_X10_isHourOfDay (nI k) I J = 1 := by
  unfold F_X10_isHourOfDay
  have h1 : ¬ nI k < 0 := by show ¬ nI k < nI 0; rw [nI_ltI (by omega) (by omega)]; omega
  have h2 : ¬ 23 < nI k := by show ¬ nI 23 < nI k; rw [nI_ltI (by omega) (by omega)]; omega
  rw [F_within, if_neg h1, if_neg h2]
theorem F_planned (o k : Nat) (hk : k < 24) (I : kI) (J : kJ) : F_X6_planned o (nI k) I J = I 37 o k := by
  unfold F_X6_planned
  rw [F_hourOfDay k hk, kif_neg (by decide), nI_clamp (by omega)]
theorem p_planned (o k : Nat) (hk : k < 24) (I : kI) (J : kJ) : pre_X6_planned o (nI k) I J := by
  unfold pre_X6_planned
  rw [F_hourOfDay k hk, kif_neg (by decide)]
  exact ⟨Or.inr (F_hourOfDay k hk I J), vp_in_nI (by omega) (by omega), trivial⟩

def cT (I : kI) (o : Nat) (w : Int32) : Int32 := if w < 0 then 0 else if I 1 o 5 ≤ w then 0 else if I 21 o w.toNatClampNeg ≤ I 22 o w.toNatClampNeg then 0 else 1
theorem F_awake (o : Nat) (w : Int32) (I : kI) (J : kJ) : F_X1_isAwake o w I J = cT I o w := by
  unfold F_X1_isAwake F_X1_has cT
  by_cases h1 : w < 0
  · rw [kif_pos h1, if_pos h1, kif_pos rfl]
  · rw [kif_neg h1, if_neg h1]
    by_cases h2 : I 1 o 5 ≤ w
    · rw [kif_pos h2, if_pos h2, kif_pos rfl]
    · rw [kif_neg h2, if_neg h2, kif_neg (by decide)]
      simp only [kif_eq]
theorem p_awake (o : Nat) (w : Int32) (I : kI) (J : kJ) {c : Nat} (hc : c ≤ 6) (hI : I 1 o 5 = nI c) : pre_X1_isAwake o w I J := by
  unfold pre_X1_isAwake F_X1_has
  by_cases h1 : w < 0
  · rw [kif_pos h1, kif_pos rfl]; trivial
  · rw [kif_neg h1]
    by_cases h2 : I 1 o 5 ≤ w
    · rw [kif_pos h2, kif_pos rfl]; trivial
    · rw [kif_neg h2, kif_neg (by decide)]
      rw [hI] at h2
      obtain ⟨k, hk, rfl⟩ := iz_ofNN h1 h2 (by omega)
      exact ⟨vp_in_nI (by omega) (by omega), vp_in_nI (by omega) (by omega), trivial⟩
theorem cT_01 (I : kI) (o : Nat) (w : Int32) : cT I o w = 0 ∨ cT I o w = 1 := by
  unfold cT
  split
  · exact Or.inl rfl
  · split
    · exact Or.inl rfl
    · split
      · exact Or.inl rfl
      · exact Or.inr rfl
def kp1 (I : kI) (o h : Nat) (w : Int32) : kI := kx_uA I 6 o (fun j => if j = 12 then w else if j = 13 then cD I o h else if j = 14 then I 37 o (h % 24) else if j = 15 then cT I o (I 37 o (h % 24)) else I 6 o j)
def kpS (I : kI) (o : Nat) : Int32 := if I 6 o 12 = 1 ∧ ¬ I 6 o 15 = 0 ∧ ¬ I 6 o 9 < 1 then 1 else 0
def kp3 (I : kI) (o : Nat) : kI := kx_uA I 6 o (fun j => if j = 16 then kpS I o else if j = 9 then (if kpS I o = 0 then I 6 o 9 else I 6 o 9 - 1) else I 6 o j)
def kpX (I : kI) (o h : Nat) (w : Int32) : kI := kp3 (tlX (kp1 I o h w) o) o
theorem kp1_app (I : kI) (o h : Nat) (w : Int32) (t2 o2 j : Nat) : kp1 I o h w t2 o2 j = if t2 = 6 ∧ o2 = o ∧ j = 12 then w else if t2 = 6 ∧ o2 = o ∧ j = 13 then cD I o h else if t2 = 6 ∧ o2 = o ∧ j = 14 then I 37 o (h % 24) else if t2 = 6 ∧ o2 = o ∧ j = 15 then cT I o (I 37 o (h % 24)) else I t2 o2 j := by
  unfold kp1
  rw [kx_uA_app]
  grind
theorem kp3_app (I : kI) (o t2 o2 j : Nat) : kp3 I o t2 o2 j = if t2 = 6 ∧ o2 = o ∧ j = 16 then kpS I o else if t2 = 6 ∧ o2 = o ∧ j = 9 then (if kpS I o = 0 then I 6 o 9 else I 6 o 9 - 1) else I t2 o2 j := by
  unfold kp3
  rw [kx_uA_app]
  grind
theorem cD_congr {I I' : kI} {o : Nat} (h : Nat) (h5 : I' 6 o 5 = I 6 o 5) (h6 : I' 6 o 6 = I 6 o 6) : cD I' o h = cD I o h := by unfold cD; rw [h5, h6]
theorem cT_congr {I I' : kI} {o : Nat} (w : Int32) (h1 : I' 1 o 5 = I 1 o 5) (h2 : I' 21 o = I 21 o) (h3 : I' 22 o = I 22 o) : cT I' o w = cT I o w := by unfold cT; rw [h1, h2, h3]
theorem kw_at (I : kI) {t o j t2 o2 j2 : Nat} (v : Int32) (h : ¬ (t2 = t ∧ o2 = o ∧ j2 = j)) : kw I t o j v t2 o2 j2 = I t2 o2 j2 := by rw [kw_app, if_neg h]
theorem kw_row (I : kI) {t o j t2 o2 : Nat} (v : Int32) (h : ¬ (t2 = t ∧ o2 = o)) : kw I t o j v t2 o2 = I t2 o2 := by unfold kw; exact kx_uA_ne I _ h
theorem E_keepWatch (o h : Nat) (I : kI) (J : kJ) (hh : h < 2147483648) (hI : I 6 o 4 = nI h) (hs : ∃ c, c ≤ 20 ∧ I 5 o 2 = nI c) {c : Nat} (hc : c ≤ 6) (hcr : I 1 o 5 = nI c) : E_X6_keepWatch o I J = some (kpX I o h (F_X5_weatherAt o (nI h) I J), J) := by
  obtain ⟨m, hm⟩ : ∃ m, kfu = m + 1 := ⟨kfu - 1, by unfold kfu; omega⟩
  unfold E_X6_keepWatch
  rw [hm]
  have q1 : ∀ w d, (kw I 6 o 12 w) 6 o 4 = nI h ∧ (kw (kw I 6 o 12 w) 6 o 13 d) 6 o 4 = nI h := fun w d => by simp only [kw_app]; simp [hI]
  rw [hI]
  generalize hw : F_X5_weatherAt o (nI h) I J = w
  rw [kif_pos (show pre_X5_weatherAt o (nI h) I J from ⟨hs, by rw [iz_nI hh]; omega⟩)]
  simp only [(q1 w 0).1, F_isDark o h hh, fun d => (q1 w d).2, F_hod h hh]
  have hl : h % 24 < 24 := Nat.mod_lt _ (by omega)
  rw [cD_congr (I' := kw I 6 o 12 w) (I := I) h (by simp [kw_app]) (by simp [kw_app])]
  rw [kif_pos (p_dark _ _ _ _), kif_pos (cD_01 I o h), kif_pos (p_fm _ _ _), kif_pos (p_planned _ _ hl _ _), F_planned _ _ hl, G_X6_keepWatch_44]
  have e0 : (kw (kw I 6 o 12 w) 6 o 13 (cD I o h)) 37 o (h % 24) = I 37 o (h % 24) := by simp [kw_app]
  rw [e0]
  generalize hK : kw (kw (kw I 6 o 12 w) 6 o 13 (cD I o h)) 6 o 14 (I 37 o (h % 24)) = K
  have e1 : K 6 o 14 = I 37 o (h % 24) := by rw [← hK]; simp [kw_app]
  have e2 : K 1 o 5 = I 1 o 5 := by rw [← hK]; simp [kw_app]
  have e3 : K 21 o = I 21 o := by rw [← hK, kw_row _ _ (by simp), kw_row _ _ (by simp), kw_row _ _ (by simp)]
  have e4 : K 22 o = I 22 o := by rw [← hK, kw_row _ _ (by simp), kw_row _ _ (by simp), kw_row _ _ (by simp)]
  rw [e1, F_awake, cT_congr _ e2 e3 e4, kif_pos (p_awake o _ K J hc (by rw [e2, hcr])), kif_pos (cT_01 _ _ _), kbd_eq (E_tendLamp _ _ _)]
  have e5 : kw K 6 o 15 (cT I o (I 37 o (h % 24))) = kp1 I o h w := by
    refine kI_ext fun t2 o2 j => ?_
    rw [kp1_app, ← hK]
    simp only [kw_app]
    grind
  rw [e5]
  unfold kpX
  generalize tlX (kp1 I o h w) o = Z
  have fin : ∀ Y : kI, (∀ t2 o2 j, Y t2 o2 j = kp3 Z o t2 o2 j) → some (Y, J) = some (kp3 Z o, J) := fun Y hY => by rw [kI_ext hY]
  by_cases h12 : Z 6 o 12 = 1 <;> by_cases h15 : Z 6 o 15 = 0 <;> by_cases h9 : Z 6 o 9 < 1 <;>
    simp only [kif_eq, kw_app, h12, h15, h9, if_true, if_false, and_true, true_and, Nat.reduceEqDiff, false_and, and_false, e10, e01] <;>
    refine fin _ (fun t2 o2 j => ?_) <;>
    simp only [kp3_app, kpS, kw_app, h12, h15, h9] <;>
    grind

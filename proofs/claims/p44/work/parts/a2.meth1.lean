/-! refusals by number; the first methods -/
theorem rC0 (I : kI) (J : kJ) : F_X10_refuse (-102 : Int32) I J = (-102, rfC 0 I, J) ∧ pre_X10_refuse (-102 : Int32) I J := by
  have h := F_refuse 0 (by omega) I J
  rw [show (-102 : Int32) - nI 0 = -102 by decide] at h
  exact h
theorem rM0 (I : kI) (J : kJ) : F_X11_refused (-102 : Int32) I J = (-102, rfM 0 I, J) ∧ pre_X11_refused (-102 : Int32) I J := by
  have h := F_refused 0 (by omega) I J
  rw [show (-102 : Int32) - nI 0 = -102 by decide] at h
  exact h
theorem rC1 (I : kI) (J : kJ) : F_X10_refuse (-103 : Int32) I J = (-103, rfC 1 I, J) ∧ pre_X10_refuse (-103 : Int32) I J := by
  have h := F_refuse 1 (by omega) I J
  rw [show (-102 : Int32) - nI 1 = -103 by decide] at h
  exact h
theorem rM1 (I : kI) (J : kJ) : F_X11_refused (-103 : Int32) I J = (-103, rfM 1 I, J) ∧ pre_X11_refused (-103 : Int32) I J := by
  have h := F_refused 1 (by omega) I J
  rw [show (-102 : Int32) - nI 1 = -103 by decide] at h
  exact h
theorem rC2 (I : kI) (J : kJ) : F_X10_refuse (-104 : Int32) I J = (-104, rfC 2 I, J) ∧ pre_X10_refuse (-104 : Int32) I J := by
  have h := F_refuse 2 (by omega) I J
  rw [show (-102 : Int32) - nI 2 = -104 by decide] at h
  exact h
theorem rM2 (I : kI) (J : kJ) : F_X11_refused (-104 : Int32) I J = (-104, rfM 2 I, J) ∧ pre_X11_refused (-104 : Int32) I J := by
  have h := F_refused 2 (by omega) I J
  rw [show (-102 : Int32) - nI 2 = -104 by decide] at h
  exact h
theorem rC3 (I : kI) (J : kJ) : F_X10_refuse (-105 : Int32) I J = (-105, rfC 3 I, J) ∧ pre_X10_refuse (-105 : Int32) I J := by
  have h := F_refuse 3 (by omega) I J
  rw [show (-102 : Int32) - nI 3 = -105 by decide] at h
  exact h
theorem rM3 (I : kI) (J : kJ) : F_X11_refused (-105 : Int32) I J = (-105, rfM 3 I, J) ∧ pre_X11_refused (-105 : Int32) I J := by
  have h := F_refused 3 (by omega) I J
  rw [show (-102 : Int32) - nI 3 = -105 by decide] at h
  exact h
theorem rC4 (I : kI) (J : kJ) : F_X10_refuse (-106 : Int32) I J = (-106, rfC 4 I, J) ∧ pre_X10_refuse (-106 : Int32) I J := by
  have h := F_refuse 4 (by omega) I J
  rw [show (-102 : Int32) - nI 4 = -106 by decide] at h
  exact h
theorem rM4 (I : kI) (J : kJ) : F_X11_refused (-106 : Int32) I J = (-106, rfM 4 I, J) ∧ pre_X11_refused (-106 : Int32) I J := by
  have h := F_refused 4 (by omega) I J
  rw [show (-102 : Int32) - nI 4 = -106 by decide] at h
  exact h
theorem rfC_at (k : Nat) (I : kI) {t : Nat} (o j : Nat) (h : ¬ t = 40) : rfC k I t o j = I t o j := kw_at _ _ (fun q => h q.1)
theorem rfC_41 (k : Nat) (I : kI) (o : Nat) : rfC k I 41 o = I 41 o := funext fun j => rfC_at k I o j (by omega)
theorem Inv_ref' {N : Nat} {I : kI} {J : kJ} (h : Inv N I J) (k : Nat) (hk : k < 5) : Inv (N + 200) (rfM k (rfC k I)) J := Inv_mono (Inv_ref h k hk) (by omega)
theorem ge0 {a : Int32} (h : 0 ≤ a) : ∃ k, k < 2147483648 ∧ a = nI k := by
  have h1 := Int32.le_iff_toInt_le.mp h
  rw [iz_0] at h1
  have h2 := iz_hi a
  exact ⟨a.toInt.toNat, by omega, iz_of h1⟩
theorem lt0 {a : Int32} (h : ¬ 0 ≤ a) : a < 0 := Int32.not_le.mp h
theorem MM_i {sC sM : kSp} {args : List kx_V} {N : Nat} {I I1 I2 : kI} {J J1 J2 : kJ} {v : Int32} (h1 : sC (kx_r 10 0 :: args) (I, J, none) (some (kx_i v)) (I1, J1, none)) (h2 : sM (kx_r 11 0 :: args) (I1, J1, none) (some (kx_i v)) (I2, J2, none)) (h3 : Inv (N + 200) I2 J2) : MM sC sM args N I J := ⟨v, I1, J1, I2, J2, h1, h2, h3⟩
theorem ME_i {sC sM : kSp} {args : List kx_V} {N : Nat} {I I1 I2 : kI} {J J1 J2 : kJ} {v : Int64} (h1 : sC (kx_r 10 0 :: args) (I, J, none) (some (kx_l v)) (I1, J1, none)) (h2 : sM (kx_r 11 0 :: args) (I1, J1, none) (some (kx_l v)) (I2, J2, none)) (h3 : Inv (N + 200) I2 J2) : ME sC sM args N I J := ⟨v, I1, J1, I2, J2, h1, h2, h3⟩
/-- weather -/
theorem mm_weather {N : Nat} {I : kI} {J : kJ} (h : Inv N I J) (a : Int32) : MM sp_X10_weather sp_X11_weather [kx_i a] N I J := by
  by_cases q : 0 ≤ a
  · obtain ⟨k, hk, rfl⟩ := ge0 q
    have e1 : E_X10_weather (nI k) I J = some (wth (I 41 0) k, I, J) := by
      unfold E_X10_weather
      rw [kif_pos q, kif_pos, c_weather h.1 h.2.1.1 k hk J]
      exact ⟨⟨_, h.1.2.1.2, by rw [h.2.1.1.2.2.2.1]; exact h.1.2.1.1⟩, by rw [iz_nI hk]; omega⟩
    have e2 : E_X11_weather (nI k) I J = some (wth (I 41 0) k, I, J) := by
      unfold E_X11_weather
      rw [kif_neg (i_nlt0 k hk), kbd_eq (R_weather k hk I J h.1)]
    have c1 := cs_X10_weather _ _ _ _ e1
    have c2 := cs_X11_weather _ _ _ _ e2
    exact MM_i c1 c2 (Inv_mono h (by omega))
  · have e1 : E_X10_weather a I J = some (-102, rfC 0 I, J) := by
      unfold E_X10_weather
      rw [kif_neg q, (rC0 I J).1, kif_pos (rC0 I J).2]
    have e2 : E_X11_weather a (rfC 0 I) J = some (-102, rfM 0 (rfC 0 I), J) := by
      unfold E_X11_weather
      rw [kif_pos (lt0 q), (rM0 _ J).1, kif_pos (rM0 _ J).2]
    have c1 := cs_X10_weather _ _ _ _ e1
    have c2 := cs_X11_weather _ _ _ _ e2
    exact MM_i c1 c2 (Inv_ref' h 0 (by omega))
/-- dark -/
theorem mm_dark {N : Nat} {I : kI} {J : kJ} (h : Inv N I J) (a : Int32) : MM sp_X10_dark sp_X11_dark [kx_i a] N I J := by
  by_cases q : 0 ≤ a
  · obtain ⟨k, hk, rfl⟩ := ge0 q
    have eD : cD I 0 k = aD (I 41 0) k := (c_watch h.1 h.2.1.1 k).2.2
    have hm := E_isDark k hk I J
    have em : mD I k = aD (I 41 0) k := rfl
    have e1 := cs_X10_dark (nI k) I J (by unfold pre_X10_dark; rw [kif_pos q]; exact ⟨p_dark _ _ _ _, trivial⟩)
    have e2 := cs_X11_dark (nI k) I J (by unfold pre_X11_dark; rw [kif_pos q]; exact ⟨hm.2, trivial⟩)
    unfold F_X10_dark at e1
    unfold F_X11_dark at e2
    rw [kif_pos q, F_isDark 0 k hk, eD] at e1
    rw [kif_pos q, hm.1, em] at e2
    by_cases z : aD (I 41 0) k = 0
    · rw [kif_pos z] at e1 e2
      exact MM_i e1 e2 (Inv_mono h (by omega))
    · rw [kif_neg z] at e1 e2
      exact MM_i e1 e2 (Inv_mono h (by omega))
  · have e1 := cs_X10_dark a I J (by unfold pre_X10_dark; rw [kif_neg q]; exact ⟨(rC0 I J).2, trivial⟩)
    have e2 := cs_X11_dark a (rfC 0 I) J (by unfold pre_X11_dark; rw [kif_neg q]; exact ⟨(rM0 _ J).2, trivial⟩)
    unfold F_X10_dark at e1
    unfold F_X11_dark at e2
    rw [kif_neg q, (rC0 I J).1] at e1
    rw [kif_neg q, (rM0 _ J).1] at e2
    exact MM_i e1 e2 (Inv_ref' h 0 (by omega))

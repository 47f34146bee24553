/-! the reference's hour -/
def mD (I : kI) (h : Nat) : Int32 := if nI (h % 24) < I 41 0 1 then 1 else if nI (h % 24) < I 41 0 2 then 0 else 1
theorem mD_01 (I : kI) (h : Nat) : mD I h = 0 ∨ mD I h = 1 := by
  unfold mD
  split
  · exact Or.inr rfl
  · split
    · exact Or.inl rfl
    · exact Or.inr rfl
theorem E_isDark (h : Nat) (hh : h < 2147483648) (I : kI) (J : kJ) : F_X11_isDark (nI h) I J = mD I h ∧ pre_X11_isDark (nI h) I J := by
  have e : nI h - nI h / (24 : Int32) * (24 : Int32) = nI (h % 24) := iz_modN (n := 24) hh (by omega) (by omega)
  have l1 : ((1 : Int32)).toNatClampNeg = 1 := rfl
  have l2 : ((2 : Int32)).toNatClampNeg = 2 := rfl
  have v1 : vp_in (1 : Int32) 2509 := vl 1 2509 (by omega) (by omega)
  have v2 : vp_in (2 : Int32) 2509 := vl 2 2509 (by omega) (by omega)
  have z : ¬ (24 : Int32) = 0 := by decide
  unfold F_X11_isDark pre_X11_isDark mD
  rw [e, l1, l2]
  refine ⟨by simp only [kif_eq], z, v1, ?_⟩
  by_cases q : nI (h % 24) < I 41 0 1
  · rw [kif_pos q]; trivial
  · rw [kif_neg q]; exact ⟨z, v2, trivial⟩
def stX (I : kI) (i b : Nat) (a : Int32) : kI := kw (kw I 41 0 (61 + 4 * i + b) (I 41 0 (61 + 4 * i + b) + 1)) 41 0 20 (I 41 0 20 + a)
noncomputable def hmX (I : kI) (kd : Nat → Nat) (c k h : Nat) (w : Int32) : kI := kif (I 41 0 (85 + h % 24) < 0) (midX I kd c k (nI h) (mD I h) 0 w 0 (I 41 0 (85 + h % 24))) (kif (I 41 0 (61 + 4 * (I 41 0 (85 + h % 24)).toNatClampNeg + 1) < 12 - 3 * I 41 0 (61 + 4 * (I 41 0 (85 + h % 24)).toNatClampNeg)) (midX (stX I (I 41 0 (85 + h % 24)).toNatClampNeg 2 0) kd c k (nI h) (mD I h) 1 w 0 (I 41 0 (85 + h % 24))) (midX (stX I (I 41 0 (85 + h % 24)).toNatClampNeg 3 1) kd c k (nI h) (mD I h) 0 w 1 (I 41 0 (85 + h % 24))))
theorem stX_ok {I : kI} {c k : Nat} {kd : Nat → Nat} (i b : Nat) (hi : i < 6) (hb : b ≤ 3) (a : Int32) (h : psI (I 41 0) c kd ∧ I 41 0 13 = nI k) : psI ((stX I i b a) 41 0) c kd ∧ (stX I i b a) 41 0 13 = nI k := by
  obtain ⟨⟨h14, ⟨n, hn, h15⟩, hk⟩, h13⟩ := h
  have e : ∀ j, ¬ j = 20 → ¬ j = 61 + 4 * i + b → (stX I i b a) 41 0 j = I 41 0 j := fun j q1 q2 => by
    unfold stX
    rw [kw_at _ _ (fun z => q1 z.2.2), kw_at _ _ (fun z => q2 z.2.2)]
  refine ⟨⟨?_, ⟨n, hn, ?_⟩, fun s hs => ?_⟩, ?_⟩
  · rw [e _ (by omega) (by omega), h14]
  · rw [e _ (by omega) (by omega), h15]
  · rw [e _ (by omega) (by omega)]; exact hk s hs
  · rw [e _ (by omega) (by omega), h13]
theorem E_hourPasses (h : Nat) (hh : h < 2147483647) (I : kI) (J : kJ) {c k : Nat} (hc : c ≤ 200) (hk : k ≤ 6) (kd : Nat → Nat) (hok : psI (I 41 0) c kd ∧ I 41 0 13 = nI k) (h0 : I 41 0 0 = nI h) (w : Int32) (hw : E_X11_weatherOf (nI h) I J = some w) (hpl : I 41 0 (85 + h % 24) = -1 ∨ ∃ i, i < k ∧ I 41 0 (85 + h % 24) = nI i) : E_X11_hourPasses I J = some (hmX I kd c k h w, J) := by
  have e24 : nI h - nI h / (24 : Int32) * (24 : Int32) = nI (h % 24) := iz_modN (n := 24) (by omega) (by omega) (by omega)
  have hl : h % 24 < 24 := Nat.mod_lt _ (by omega)
  have l0 : ((0 : Int32)).toNatClampNeg = 0 := rfl
  have l20 : ((20 : Int32)).toNatClampNeg = 20 := rfl
  have v0 : vp_in (0 : Int32) 2509 := vl 0 2509 (by omega) (by omega)
  have v20 : vp_in (20 : Int32) 2509 := vl 20 2509 (by omega) (by omega)
  have c85 : ((85 : Int32) + nI (h % 24)).toNatClampNeg = 85 + h % 24 := ix1c (a := 85) (by omega)
  have v85 : vp_in ((85 : Int32) + nI (h % 24)) 2509 := ix1v (a := 85) (by omega) (by omega)
  have hD := E_isDark h (by omega) I J
  obtain ⟨m, hm⟩ : ∃ m, kfu = m + 30 := ⟨kfu - 30, by unfold kfu; omega⟩
  have hmk : k + 17 ≤ m + 24 := by omega
  unfold E_X11_hourPasses hmX
  rw [kif_pos v0, l0, h0, kbd_eq hw, kif_pos hD.2, k24, e24, kif_pos v85, c85, hD.1, hm]
  rcases hpl with q | ⟨i, hi, q⟩
  · rw [q]
    have n1 : (-1 : Int32) < 0 := by decide
    rw [kif_pos n1, kif_pos n1, G_X11_hourPasses_58, G_X11_hourPasses_59, kif_pos n1, G_X11_hourPasses_75, G_X11_hourPasses_76, kif_pos n1]
    exact g_mid (nI h) (mD I h) 0 w 0 (-1) (mD_01 I h) (Or.inl rfl) J hc hk kd (fun z => absurd rfl z) I hok (m + 26) (by omega) 0 0 0 0 0 0 0
  · rw [q]
    have n0 : ¬ nI i < 0 := i_nlt0 i (by omega)
    have hcl : ∀ b, b ≤ 3 → ((61 : Int32) + 4 * nI i + nI b).toNatClampNeg = 61 + 4 * i + b := fun b hb => ix3c (a := 61) (b := 4) (c := b) (by omega)
    have hv : ∀ b, b ≤ 3 → vp_in ((61 : Int32) + 4 * nI i + nI b) 2509 := fun b hb => ix3v (a := 61) (b := 4) (c := b) (by omega) (by omega)
    have c0 : ((61 : Int32) + 4 * nI i + 0).toNatClampNeg = 61 + 4 * i + 0 := hcl 0 (by omega)
    have c1 : ((61 : Int32) + 4 * nI i + 1).toNatClampNeg = 61 + 4 * i + 1 := hcl 1 (by omega)
    have c2 : ((61 : Int32) + 4 * nI i + 2).toNatClampNeg = 61 + 4 * i + 2 := hcl 2 (by omega)
    have c3 : ((61 : Int32) + 4 * nI i + 3).toNatClampNeg = 61 + 4 * i + 3 := hcl 3 (by omega)
    have p1 : pre_X11_ofKeeper (nI i) (1 : Int32) I J := ⟨hv 1 (by omega), trivial⟩
    have pl : pre_X11_lasts (nI i) I J := ⟨⟨hv 0 (by omega), trivial⟩, trivial⟩
    have f1 : F_X11_ofKeeper (nI i) (1 : Int32) I J = I 41 0 (61 + 4 * i + 1) := by unfold F_X11_ofKeeper; rw [c1]
    have fl : F_X11_lasts (nI i) I J = 12 - 3 * I 41 0 (61 + 4 * i) := by unfold F_X11_lasts F_X11_ofKeeper; rw [c0, Nat.add_zero]
    have ci : (nI i).toNatClampNeg = i := nI_clamp (by omega)
    have v2 : vp_in ((61 : Int32) + 4 * nI i + 2) 2509 := hv 2 (by omega)
    have v3 : vp_in ((61 : Int32) + 4 * nI i + 3) 2509 := hv 3 (by omega)
    have z1 : ¬ (1 : Int32) = 0 := by decide
    rw [kif_neg n0, kif_neg n0, kif_pos p1, kif_pos pl, f1, fl, ci]
    by_cases qa : I 41 0 (61 + 4 * i + 1) < 12 - 3 * I 41 0 (61 + 4 * i)
    · rw [kif_pos qa, kif_pos qa, G_X11_hourPasses_58, G_X11_hourPasses_59, kif_neg n0, kif_pos rfl, G_X11_hourPasses_76, kif_neg n0, kif_pos rfl, G_X11_hourPasses_104, kif_pos v2, kif_pos v2, kif_pos v20, kif_pos rfl, G_X11_hourPasses_128, kif_pos v20, c2, l20]
      have e : (kw (kw I 41 0 (61 + 4 * i + 2) (I 41 0 (61 + 4 * i + 2) + 1)) 41 0 20 ((kw I 41 0 (61 + 4 * i + 2) (I 41 0 (61 + 4 * i + 2) + 1)) 41 0 20 + 0)) = stX I i 2 0 := by
        unfold stX
        rw [kw_at I _ (show ¬ (41 = 41 ∧ 0 = 0 ∧ 20 = 61 + 4 * i + 2) by omega)]
      rw [e]
      exact g_mid (nI h) (mD I h) 1 w 0 (nI i) (mD_01 I h) (Or.inr rfl) J hc hk kd (fun z => absurd rfl z) _ (stX_ok i 2 (by omega) (by omega) 0 hok) (m + 25) (by omega) 0 0 0 0 0 0 0
    · rw [kif_neg qa, kif_neg qa, G_X11_hourPasses_59, kif_neg n0, kif_neg z1, G_X11_hourPasses_75, G_X11_hourPasses_76, kif_neg n0, kif_neg z1, G_X11_hourPasses_104, kif_pos v3, kif_pos v3, kif_pos v20, kif_neg z1, G_X11_hourPasses_128, kif_pos v20, c3, l20]
      have e : (kw (kw I 41 0 (61 + 4 * i + 3) (I 41 0 (61 + 4 * i + 3) + 1)) 41 0 20 ((kw I 41 0 (61 + 4 * i + 3) (I 41 0 (61 + 4 * i + 3) + 1)) 41 0 20 + 1)) = stX I i 3 1 := by
        unfold stX
        rw [kw_at I _ (show ¬ (41 = 41 ∧ 0 = 0 ∧ 20 = 61 + 4 * i + 3) by omega)]
      rw [e]
      exact g_mid (nI h) (mD I h) 0 w 1 (nI i) (mD_01 I h) (Or.inl rfl) J hc hk kd (fun _ => ⟨i, hi, rfl⟩) _ (stX_ok i 3 (by omega) (by omega) 1 hok) (m + 25) (by omega) 0 0 0 0 0 0 0

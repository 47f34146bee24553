/-! better -/
def bv (g : Nat → Int32) (h : Nat) (x : Int32) : Nat → Int32 := fun i => if i = h then x else g (85 + i)
theorem bv_upd (g : Nat → Int32) {h : Nat} (hh : h < 24) (x : Int32) : tpG g (bv g h x) 24 = upd g (85 + h) x := by
  funext j
  by_cases q : 85 ≤ j ∧ j < 109
  · obtain ⟨i, rfl⟩ : ∃ i, j = 85 + i := ⟨j - 85, by omega⟩
    rw [tpG_at _ _ (by omega), upd_app]
    unfold bv
    by_cases z : i = h
    · rw [if_pos z, if_pos (by omega)]
    · rw [if_neg z, if_neg (by omega)]
  · rw [tpG_ne _ _ q, upd_app, if_neg (by omega)]
theorem WG_bv {g : Nat → Int32} {N h k : Nat} (hg : WG g N) (hk : k < nn (g 13)) : ∀ i, i < 24 → bv g h (nI k) i = -1 ∨ ∃ j, j < nn (g 13) ∧ bv g h (nI k) i = nI j := by
  intro i hi
  unfold bv
  by_cases z : i = h
  · rw [if_pos z]
    exact Or.inr ⟨k, hk, rfl⟩
  · rw [if_neg z]
    exact hg.2.2.2.2.2.1 i hi
noncomputable def btF (t h : Nat) (g : Nat → Int32) : Nat → Nat → Int32 → Int32 → Int32
  | 0, _, _, who => who
  | n + 1, k, best, who => kif (best ≤ uP t (upd g (85 + h) (nI k))) (btF t h g n (k + 1) best who) (btF t h g n (k + 1) (uP t (upd g (85 + h) (nI k))) (nI k))
theorem assign_e {K : kI} (J : kJ) {g : Nat → Int32} {h : Nat} (hh : h < 24) (x : Int32) (hK : ∀ i, i < 24 → K 37 2 i = g (85 + i)) : F_X6_assign 2 (nI h) x K J = (kx_uA K 37 2 (tpF (K 37 2) (bv g h x) 24), J) ∧ pre_X6_assign 2 (nI h) x K J := by
  have z1 : ¬ (1 : Int32) = 0 := by decide
  have e1 : F_X10_isHourOfDay (nI h) K J = 1 := F_hourOfDay h (by omega) K J
  have p1 : pre_X10_isHourOfDay (nI h) K J := by unfold pre_X10_isHourOfDay; rw [F_within]; exact in_01 _ _ _
  unfold F_X6_assign pre_X6_assign
  rw [e1, kif_neg z1, kif_neg z1, nI_clamp (by omega)]
  refine ⟨?_, p1, vl h 24 hh (by omega), trivial⟩
  have e : kw K 37 2 h x = kx_uA K 37 2 (tpF (K 37 2) (bv g h x) 24) := kI_ext fun t o j => by
    rw [kw_app, kx_uA_app]
    by_cases q : t = 37 ∧ o = 2
    · obtain ⟨rfl, rfl⟩ := q
      show (if 37 = 37 ∧ 2 = 2 ∧ j = h then x else K 37 2 j) = tpF (K 37 2) (bv g h x) 24 j
      unfold tpF bv
      by_cases z : j = h
      · rw [if_pos ⟨rfl, rfl, z⟩, if_pos (by omega), if_pos z]
      · rw [if_neg (fun y => z y.2.2)]
        by_cases y : j < 24
        · rw [if_pos y, if_neg z, hK j y]
        · rw [if_neg y]
    · rw [if_neg (fun y => q ⟨y.1, y.2.1⟩), if_neg q]
  rw [e]
theorem C_better {N : Nat} {g : Nat → Int32} (J : kJ) {t h : Nat} (ht : t ≤ 1000) (hh : h < 24) (hg : WG g N) (hN : N + t ≤ 999999) : ∀ n k m (I : kI) (best who : Int32), k + n = nn (g 13) → n + 1 ≤ m → CQ I g → ∃ I', G_X10_better (nI h) (nI t) m 56 best who (nI k) I J = some (btF t h g n k best who, I', J) ∧ thF I I' := by
  have h13 := hg.2.2.1
  have h132 := h13.2
  intro n
  induction n with
  | zero =>
    intro k m I best who hk hm hc
    obtain ⟨m, rfl⟩ : ∃ m', m = m' + 1 := ⟨m - 1, by omega⟩
    have ic : I 1 0 5 = g 13 := hc.1.2.2.2.2.2.2.1
    refine ⟨I, ?_, thF_rf I⟩
    rw [G_X10_better_56, ic, kif_pos (by rw [h13.1, i_le (by omega) (by omega)]; omega)]
    rfl
  | succ n ih =>
    intro k m I best who hk hm hc
    obtain ⟨m, rfl⟩ : ∃ m', m = m' + 1 := ⟨m - 1, by omega⟩
    have ic : I 1 0 5 = g 13 := hc.1.2.2.2.2.2.2.1
    obtain ⟨I1, I2, e1, f1, k37, e2, f2⟩ := T_plan (bv g h (nI k)) J t ht I hg (WG_bv hg (by omega)) hN hc
    have ea := assign_e J hh (nI k) k37
    rw [bv_upd g hh] at e2
    have hc2 := CQ_th hc f2
    rw [G_X10_better_56, ic, kif_neg (by rw [h13.1, i_le (by omega) (by omega)]; omega), kbd_eq e1, btF]
    dsimp only
    rw [kif_pos ea.2, ea.1]
    dsimp only
    rw [kbd_eq e2]
    dsimp only
    by_cases z : best ≤ uP t (upd g (85 + h) (nI k))
    · obtain ⟨I', e3, f3⟩ := ih (k + 1) m I2 best who (by omega) (by omega) hc2
      rw [← nI_1] at e3
      rw [kif_pos z, kif_pos z]
      exact ⟨I', e3, thF_tr f2 f3⟩
    · obtain ⟨I', e3, f3⟩ := ih (k + 1) m I2 (uP t (upd g (85 + h) (nI k))) (nI k) (by omega) (by omega) hc2
      rw [← nI_1] at e3
      rw [kif_neg z, kif_neg z]
      exact ⟨I', e3, thF_tr f2 f3⟩
theorem R_better {N : Nat} {g : Nat → Int32} (J : kJ) {t h : Nat} (ht : t ≤ 1000) (hh : h < 24) (hg : WG g N) (hN : N + t ≤ 999999) : ∀ n k m (I : kI) (x best who : Int32), k + n = nn (g 13) → n + 1 ≤ m → I 41 0 = upd g (85 + h) x → ∃ I', G_X11_better (nI h) (nI t) m 71 (g (85 + h)) best who (nI k) I J = some (btF t h g n k best who, I', J) ∧ mx I I' ∧ I' 41 0 = g := by
  have h13 := hg.2.2.1
  have h132 := h13.2
  have l13 : ((13 : Int32)).toNatClampNeg = 13 := rfl
  have v13 : vp_in (13 : Int32) 2509 := vl 13 2509 (by omega) (by omega)
  have c85 : ((85 : Int32) + nI h).toNatClampNeg = 85 + h := ix1c (a := 85) (by omega)
  have v85 : vp_in ((85 : Int32) + nI h) 2509 := ix1v (a := 85) (by omega) (by omega)
  have k41 : ∀ (I : kI) (x y : Int32), I 41 0 = upd g (85 + h) x → (kw I 41 0 (85 + h) y) 41 0 = upd g (85 + h) y := fun I x y e => funext fun j => by
    rw [kw_app, e, upd_app, upd_app]
    by_cases z : j = 85 + h
    · rw [if_pos ⟨rfl, rfl, z⟩, if_pos z]
    · rw [if_neg (fun w => z w.2.2), if_neg z, if_neg z]
  have kmx : ∀ (I : kI) (y : Int32), mx I (kw I 41 0 (85 + h) y) := fun I y t o j a b c => kw_at _ _ (by omega)
  intro n
  induction n with
  | zero =>
    intro k m I x best who hk hm e41
    obtain ⟨m, rfl⟩ : ∃ m', m = m' + 1 := ⟨m - 1, by omega⟩
    have i13 : I 41 0 13 = g 13 := by rw [e41, upd_app, if_neg (by omega)]
    refine ⟨kw I 41 0 (85 + h) (g (85 + h)), ?_, kmx I _, ?_⟩
    · rw [G_X11_better_71, kif_pos v13, l13, i13, kif_pos (by rw [h13.1, i_le (by omega) (by omega)]; omega), kif_pos v85, c85]
      rfl
    · rw [k41 I x _ e41]
      funext j
      rw [upd_app]
      by_cases z : j = 85 + h
      · rw [if_pos z, z]
      · rw [if_neg z]
  | succ n ih =>
    intro k m I x best who hk hm e41
    obtain ⟨m, rfl⟩ : ∃ m', m = m' + 1 := ⟨m - 1, by omega⟩
    have i13 : I 41 0 13 = g 13 := by rw [e41, upd_app, if_neg (by omega)]
    have k1 := k41 I x (nI k) e41
    have hgk : WG (upd g (85 + h) (nI k)) N := by
      rw [← bv_upd g hh]
      exact WG_plan hg (WG_bv hg (by omega))
    obtain ⟨I2, e2, k2, f2⟩ := R_unlitP J t ht _ N k1 hgk hN
    rw [G_X11_better_71, kif_pos v13, l13, i13, kif_neg (by rw [h13.1, i_le (by omega) (by omega)]; omega), kif_pos v85, c85, kbd_eq e2, btF]
    dsimp only
    have f12 := mx_tr (kmx I (nI k)) (mc_mx f2.1)
    by_cases z : best ≤ uP t (upd g (85 + h) (nI k))
    · obtain ⟨I', e3, f3, r3⟩ := ih (k + 1) m I2 (nI k) best who (by omega) (by omega) k2
      rw [← nI_1] at e3
      rw [kif_pos z, kif_pos z]
      exact ⟨I', e3, mx_tr f12 f3, r3⟩
    · obtain ⟨I', e3, f3, r3⟩ := ih (k + 1) m I2 (nI k) (uP t (upd g (85 + h) (nI k))) (nI k) (by omega) (by omega) k2
      rw [← nI_1] at e3
      rw [kif_neg z, kif_neg z]
      exact ⟨I', e3, mx_tr f12 f3, r3⟩
theorem mm_better {N : Nat} (hN : N < 900000) {I : kI} {J : kJ} (h : Inv N I J) (a b : Int32) : MM sp_X10_better sp_X11_better [kx_i a, kx_i b] N I J := by
  have hg := h.1
  have h13 := hg.2.2.1
  have h132 := h13.2
  have ic : I 1 0 5 = I 41 0 13 := h.2.1.1.2.2.2.2.2.2.1
  have ph : pre_X10_areHours b I J := by unfold pre_X10_areHours; rw [F_within]; exact in_01 _ _ _
  have eh : F_X10_areHours b I J = (if b < 0 then (0 : Int32) else if 200 < b then 0 else 1) := by unfold F_X10_areHours; rw [F_within]
  have pk : pre_X10_isHourOfDay a I J := by unfold pre_X10_isHourOfDay; rw [F_within]; exact in_01 _ _ _
  have ek : F_X10_isHourOfDay a I J = (if a < 0 then (0 : Int32) else if 23 < a then 0 else 1) := by unfold F_X10_isHourOfDay; rw [F_within]
  have l13 : ((13 : Int32)).toNatClampNeg = 13 := rfl
  have v13 : vp_in (13 : Int32) 2509 := vl 13 2509 (by omega) (by omega)
  by_cases w : (if a < 0 then (0 : Int32) else if 23 < a then 0 else 1) = 0
  · have c1 := cs_X10_better a b I J (-102, rfC 0 I, J) (by unfold E_X10_better; rw [kif_pos pk, ek, kif_pos w, kif_pos (rC0 I J).2, (rC0 I J).1])
    have c2 := cs_X11_better a b (rfC 0 I) J (-102, rfM 0 (rfC 0 I), J) (by unfold E_X11_better; rw [in_0_23, kif_pos w, kif_pos (rM0 _ J).2, (rM0 _ J).1])
    exact ref_both h c1 rfl c2 rfl
  · by_cases w2 : (if b < 0 then (0 : Int32) else if 200 < b then 0 else 1) = 0
    · have c1 := cs_X10_better a b I J (-102, rfC 0 I, J) (by unfold E_X10_better; rw [kif_pos pk, ek, kif_neg w, kif_pos ph, eh, kif_pos w2, kif_pos (rC0 I J).2, (rC0 I J).1])
      have c2 := cs_X11_better a b (rfC 0 I) J (-102, rfM 0 (rfC 0 I), J) (by unfold E_X11_better; rw [in_0_23, kif_neg w, in_0_200, kif_pos w2, kif_pos (rM0 _ J).2, (rM0 _ J).1])
      exact ref_both h c1 rfl c2 rfl
    · by_cases c0 : I 41 0 13 = 0
      · have r13 : (rfC 3 I) 41 0 13 = 0 := by rw [rfC_41]; exact c0
        have c1 := cs_X10_better a b I J (-105, rfC 3 I, J) (by unfold E_X10_better; rw [kif_pos pk, ek, kif_neg w, kif_pos ph, eh, kif_neg w2, ic, kif_pos c0, kif_pos (rC3 I J).2, (rC3 I J).1])
        have c2 := cs_X11_better a b (rfC 3 I) J (-105, rfM 3 (rfC 3 I), J) (by unfold E_X11_better; rw [in_0_23, kif_neg w, in_0_200, kif_neg w2, kif_pos v13, l13, kif_pos r13, kif_pos (rM3 _ J).2, (rM3 _ J).1])
        exact MM_f c1 rfl c2 rfl (Inv_ref' h 3 (by omega))
      · obtain ⟨i, _, hi, rfl⟩ := in_yes (lo := 0) (hi := 23) (by omega) (by omega) w
        obtain ⟨t, _, ht, rfl⟩ := in_yes (lo := 0) (hi := 200) (by omega) (by omega) w2
        have hc : CQ I (I 41 0) := ⟨h.2.1.1, h.2.1.2.1⟩
        obtain ⟨K1, e1, f1⟩ := T_as J t (by omega) I hg (by omega) hc
        obtain ⟨K2, e2, f2⟩ := C_better J (t := t) (h := i) (by omega) (by omega) hg (by omega) (nn (I 41 0 13)) 0 kfu K1 (uP t (I 41 0)) (-1) (by omega) (by unfold kfu; omega) (CQ_th hc f1)
        have fK := thF_tr f1 f2
        have k41 : K2 41 0 = I 41 0 := funext fun j => fK _ _ _ (by omega) (by unfold stT; omega)
        obtain ⟨M1, e3, m1, f3⟩ := R_unlitP J t (by omega) K2 N k41 hg (by omega)
        obtain ⟨M2, e4, f4, m2⟩ := R_better J (t := t) (h := i) (by omega) (by omega) hg (by omega) (nn (I 41 0 13)) 0 kfu M1 (I 41 0 (85 + i)) (uP t (I 41 0)) (-1) (by omega) (by unfold kfu; omega) (by
          rw [m1]
          funext j
          rw [upd_app]
          by_cases z : j = 85 + i
          · rw [if_pos z, z]
          · rw [if_neg z])
        have c85 : ((85 : Int32) + nI i).toNatClampNeg = 85 + i := ix1c (a := 85) (by omega)
        have v85 : vp_in ((85 : Int32) + nI i) 2509 := ix1v (a := 85) (by omega) (by omega)
        have c1 := cs_X10_better (nI i) (nI t) I J _ (by
          unfold E_X10_better
          rw [kif_pos pk, ek, kif_neg w, kif_pos ph, eh, kif_neg w2, ic, kif_neg c0, kbd_eq e1]
          exact e2)
        have c2 := cs_X11_better (nI i) (nI t) K2 J _ (by
          unfold E_X11_better
          rw [in_0_23, kif_neg w, in_0_200, kif_neg w2, kif_pos v13, l13, k41, kif_neg c0, kif_pos v85, c85, kbd_eq e3]
          exact e4)
        have fm := mx_mc (mx_tr (mc_mx f3.1) f4) (m2.trans k41.symm)
        exact MM_f c1 rfl c2 rfl (Inv_mono (Inv_same (Inv_same h (thF_same fK)) (mc_same fm)) (by omega))

/-! fails, comes -/
noncomputable def fv (P : (Nat → Int32) → Prop) : Nat → (Nat → Int32) → Int32
  | 0, _ => -1
  | n + 1, g => kif (P g) (g 0) (fv P n (H g))
def pF (g : Nat → Int32) : Prop := ¬ hd g = 0 ∧ aL g (hd g) (ht g) = 0
theorem H_16 (g : Nat → Int32) : (pF g ∧ H g 16 = g 16 + 1) ∨ (¬ pF g ∧ H g 16 = g 16) := by
  have e16 : H g 16 = _ := hG_16 g (gk g) (nn (g 14)) (nn (g 13)) (nn (g 0)) (hw g)
  by_cases q : pF g
  · refine Or.inl ⟨q, ?_⟩
    exact e16.trans (if_pos q)
  · refine Or.inr ⟨q, ?_⟩
    exact e16.trans (if_neg q)
theorem H_18 (g : Nat → Int32) : (hb g ∧ H g 18 = g 18 + 1) ∨ (¬ hb g ∧ H g 18 = g 18) := by
  have e18 : H g 18 = _ := hG_18 g (gk g) (nn (g 14)) (nn (g 13)) (nn (g 0)) (hw g)
  by_cases q : hb g
  · refine Or.inl ⟨q, ?_⟩
    exact e18.trans (kif_pos q)
  · refine Or.inr ⟨q, ?_⟩
    exact e18.trans (kif_neg q)
theorem H_0 {g : Nat → Int32} {N : Nat} (hg : WG g N) : H g 0 = g 0 + 1 := by
  have e0 : H g 0 = _ := hG_0 g (gk g) (nn (g 14)) (nn (g 13)) (nn (g 0)) (hw g)
  rw [e0, ← hg.1.1]
theorem add1_ne (x : Int32) : ¬ x + 1 = x := fun h => by
  have z : x + 1 - x = x - x := by rw [h]
  rw [Int32.sub_self] at z
  have y : x + 1 - x = 1 := by grind
  rw [y] at z
  exact absurd z (by decide)
theorem C_fails {g0 : Nat → Int32} (J : kJ) : ∀ n i m (I : kI) (g : Nat → Int32) (N : Nat), i + n = 200 → n + 1 ≤ m → WG g N → N + n ≤ 999999 → TR I g g0 → g 16 = g0 16 → ∃ I', G_X10_fails m 13 (nI i) I J = some (fv pF n g, I', J) ∧ thF I I' := by
  intro n
  induction n with
  | zero =>
    intro i m I g N hi hm hg hN hc _
    obtain ⟨m, rfl⟩ : ∃ m', m = m' + 1 := ⟨m - 1, by omega⟩
    refine ⟨I, ?_, thF_rf I⟩
    have q : (200 : Int32) ≤ nI i := by show nI 200 ≤ nI i; rw [i_le (by omega) (by omega)]; omega
    rw [G_X10_fails_13, kif_pos q]
    rfl
  | succ n ih =>
    intro i m I g N hi hm hg hN hc h16
    obtain ⟨m, rfl⟩ : ∃ m', m = m' + 1 := ⟨m - 1, by omega⟩
    have q : ¬ (200 : Int32) ≤ nI i := by show ¬ nI 200 ≤ nI i; rw [i_le (by omega) (by omega)]; omega
    obtain ⟨I1, e1, c1, f1⟩ := T_hour (show N < 1000000 by omega) I J hg hc
    have i4 : I 6 2 4 = g 0 := hc.1.1 0 (by omega)
    rw [G_X10_fails_13, kif_neg q, kbd_eq e1, fv]
    dsimp only
    rw [c1.2.2.1, i4]
    rcases H_16 g with ⟨z, y⟩ | ⟨z, y⟩
    · have w : ¬ H g 16 - g0 16 ≤ 0 := by
        rw [y, h16, show g0 16 + 1 - g0 16 = 1 by grind]
        decide
      rw [kif_neg w, kif_pos z]
      exact ⟨I1, rfl, f1⟩
    · have w : H g 16 - g0 16 ≤ 0 := by
        rw [y, h16, Int32.sub_self]
        decide
      obtain ⟨I', e2, f2⟩ := ih (i + 1) m I1 (H g) (N + 1) (by omega) (by omega) (hG_ok (by omega) hg) (by omega) c1 (by rw [y, h16])
      rw [← nI_1] at e2
      rw [kif_pos w, kif_neg z]
      exact ⟨I', e2, thF_tr f1 f2⟩
theorem R_fails (J : kJ) : ∀ n i m (I : kI) (N : Nat), i + n = 200 → n + 2 ≤ m → WG (I 41 0) N → N + n ≤ 999999 → ∃ I', G_X11_fails m 15 (-1) (nI i) I J = some (fv pF n (I 41 0), cp0 I', J) ∧ oth I I' ∧ (∀ j, 2509 ≤ j → I' 41 0 j = I 41 0 j) := by
  have z1 : ¬ (0 : Int32) ≤ -1 := by decide
  have v0 : vp_in (0 : Int32) 2509 := vl 0 2509 (by omega) (by omega)
  have l0 : ((0 : Int32)).toNatClampNeg = 0 := rfl
  intro n
  induction n with
  | zero =>
    intro i m I N hi hm hg hN
    obtain ⟨m, rfl⟩ : ∃ m', m = m' + 1 := ⟨m - 1, by omega⟩
    refine ⟨I, ?_, oth_rf I, fun _ _ => rfl⟩
    have q : (200 : Int32) ≤ nI i := by show nI 200 ≤ nI i; rw [i_le (by omega) (by omega)]; omega
    rw [G_X11_fails_15, kif_pos q, kif_pos (cp0_e I J).2, (cp0_e I J).1]
    rfl
  | succ n ih =>
    intro i m I N hi hm hg hN
    obtain ⟨m, rfl⟩ : ∃ m', m = m' + 2 := ⟨m - 2, by omega⟩
    have q : ¬ (200 : Int32) ≤ nI i := by show ¬ nI 200 ≤ nI i; rw [i_le (by omega) (by omega)]; omega
    obtain ⟨I1, e1, c1, f1⟩ := E_passes J 1 (by omega) I N hg (by omega)
    have e1' : E_X11_passes 1 I J = some (H (I 41 0) 16 - I 41 0 16, I1, J) := e1
    have c1' : I1 41 0 = H (I 41 0) := c1
    have hi1 : ∀ j, 2509 ≤ j → I1 41 0 j = I 41 0 j := fun j hj => by rw [c1']; exact H_hi hg hj
    have h0 := hg.1
    have h02 := h0.2
    have ev : I1 41 0 0 - 1 = I 41 0 0 := by rw [c1', H_0 hg]; grind
    rw [show m + 2 = m + 1 + 1 by omega, G_X11_fails_15, kif_neg q, kif_neg z1, kbd_eq e1', fv]
    dsimp only
    rw [kif_pos v0, l0, ev]
    rcases H_16 (I 41 0) with ⟨z, y⟩ | ⟨z, y⟩
    · have w : ¬ H (I 41 0) 16 - I 41 0 16 ≤ 0 := by
        rw [y, show I 41 0 16 + 1 - I 41 0 16 = 1 by grind]
        decide
      have n0 : 0 ≤ I 41 0 0 := Int32.not_lt.mp (by rw [h0.1]; exact i_nlt0 _ (by omega))
      rw [kif_neg w, kif_pos z, G_X11_fails_15, kif_pos n0, kif_id, kif_pos (cp0_e I1 J).2, (cp0_e I1 J).1]
      exact ⟨I1, rfl, f1, hi1⟩
    · have w : H (I 41 0) 16 - I 41 0 16 ≤ 0 := by
        rw [y, Int32.sub_self]
        decide
      obtain ⟨I', e2, f2, h2⟩ := ih (i + 1) (m + 1) I1 (N + 1) (by omega) (by omega) (by rw [c1']; exact hG_ok (by omega) hg) (by omega)
      rw [← nI_1, c1'] at e2
      rw [kif_pos w, kif_neg z]
      exact ⟨I', e2, oth_tr f1 f2, fun j hj => (h2 j hj).trans (hi1 j hj)⟩
theorem mm_fails {N : Nat} (hN : N < 900000) {I : kI} {J : kJ} (h : Inv N I J) : MM sp_X10_fails sp_X11_fails [] N I J := by
  have hg := h.1
  obtain ⟨K1, e1, r1, f1, _⟩ := T_begin (show N < 1000000 by omega) I J hg h.2.1.1 h.2.1.2.1
  obtain ⟨K2, e2, f2⟩ := C_fails J 200 0 kfu K1 (I 41 0) N (by omega) (by unfold kfu; omega) hg (by omega) r1 rfl
  have fK := thF_tr f1 f2
  have k41 : K2 41 0 = I 41 0 := funext fun j => fK _ _ _ (by omega) (by unfold stT; omega)
  have kc := cp1_41 K2
  obtain ⟨M2, e3, f3, h3⟩ := R_fails J 200 0 kfu (cp1 K2) N (by omega) (by unfold kfu; omega) (by rw [kc, k41]; exact hg) (by omega)
  rw [kc, k41] at e3
  rw [kc] at h3
  have bk := R_back f3 rfl h3
  have c1 := cs_X10_fails I J _ (by unfold E_X10_fails; rw [kbd_eq e1]; exact e2)
  have c2 := cs_X11_fails K2 J _ (by unfold E_X11_fails; rw [kif_pos (cp1_e K2 J).2, (cp1_e K2 J).1]; exact e3)
  exact MM_f c1 rfl c2 rfl (Inv_mono (Inv_same (Inv_same h (thF_same fK)) (mc_same bk.2.1)) (by omega))
theorem C_comes {g0 : Nat → Int32} (J : kJ) : ∀ n i m (I : kI) (g : Nat → Int32) (N : Nat), i + n = 400 → n + 1 ≤ m → WG g N → N + n ≤ 999999 → TR I g g0 → ∃ I', G_X10_comes m 13 (nI i) I J = some (fv hb n g, I', J) ∧ thF I I' := by
  intro n
  induction n with
  | zero =>
    intro i m I g N hi hm hg hN hc
    obtain ⟨m, rfl⟩ : ∃ m', m = m' + 1 := ⟨m - 1, by omega⟩
    refine ⟨I, ?_, thF_rf I⟩
    have q : (400 : Int32) ≤ nI i := by show nI 400 ≤ nI i; rw [i_le (by omega) (by omega)]; omega
    rw [G_X10_comes_13, kif_pos q]
    rfl
  | succ n ih =>
    intro i m I g N hi hm hg hN hc
    obtain ⟨m, rfl⟩ : ∃ m', m = m' + 1 := ⟨m - 1, by omega⟩
    have q : ¬ (400 : Int32) ≤ nI i := by show ¬ nI 400 ≤ nI i; rw [i_le (by omega) (by omega)]; omega
    obtain ⟨I1, e1, c1, f1⟩ := T_hour (show N < 1000000 by omega) I J hg hc
    have i4 : I 6 2 4 = g 0 := hc.1.1 0 (by omega)
    have k1 : I 0 2 4 = g 18 := hc.1.2.2.1
    have k2 : I1 0 2 4 = H g 18 := c1.1.2.2.1
    rw [G_X10_comes_13, kif_neg q, kbd_eq e1, fv]
    dsimp only
    rw [k1, k2, i4]
    rcases H_18 g with ⟨z, y⟩ | ⟨z, y⟩
    · rw [kif_neg (by rw [y]; exact add1_ne _), kif_pos z]
      exact ⟨I1, rfl, f1⟩
    · obtain ⟨I', e2, f2⟩ := ih (i + 1) m I1 (H g) (N + 1) (by omega) (by omega) (hG_ok (by omega) hg) (by omega) c1
      rw [← nI_1] at e2
      rw [kif_pos y, kif_neg z]
      exact ⟨I', e2, thF_tr f1 f2⟩
theorem R_comes (J : kJ) : ∀ n i m (I : kI) (N : Nat), i + n = 400 → n + 2 ≤ m → WG (I 41 0) N → N + n ≤ 999999 → ∃ I', G_X11_comes m 15 (-1) (nI i) I J = some (fv hb n (I 41 0), cp0 I', J) ∧ oth I I' ∧ (∀ j, 2509 ≤ j → I' 41 0 j = I 41 0 j) := by
  have z1 : ¬ (0 : Int32) ≤ -1 := by decide
  have v0 : vp_in (0 : Int32) 2509 := vl 0 2509 (by omega) (by omega)
  have l0 : ((0 : Int32)).toNatClampNeg = 0 := rfl
  intro n
  induction n with
  | zero =>
    intro i m I N hi hm hg hN
    obtain ⟨m, rfl⟩ : ∃ m', m = m' + 1 := ⟨m - 1, by omega⟩
    refine ⟨I, ?_, oth_rf I, fun _ _ => rfl⟩
    have q : (400 : Int32) ≤ nI i := by show nI 400 ≤ nI i; rw [i_le (by omega) (by omega)]; omega
    rw [G_X11_comes_15, kif_pos q, kif_pos (cp0_e I J).2, (cp0_e I J).1]
    rfl
  | succ n ih =>
    intro i m I N hi hm hg hN
    obtain ⟨m, rfl⟩ : ∃ m', m = m' + 2 := ⟨m - 2, by omega⟩
    have q : ¬ (400 : Int32) ≤ nI i := by show ¬ nI 400 ≤ nI i; rw [i_le (by omega) (by omega)]; omega
    obtain ⟨I1, e1', c1', f1, _, _, h7⟩ := R_hour (show N < 2147483647 by omega) I J hg
    have hi1 : ∀ j, 2509 ≤ j → I1 41 0 j = I 41 0 j := fun j hj => by rw [c1']; exact H_hi hg hj
    have h0 := hg.1
    have h02 := h0.2
    have ev : I1 41 0 0 - 1 = I 41 0 0 := by rw [c1', H_0 hg]; grind
    rw [show m + 2 = m + 1 + 1 by omega, G_X11_comes_15, kif_neg q, kif_neg z1, kbd_eq e1', fv]
    dsimp only
    rw [kif_pos v0, l0, ev, h7]
    by_cases z : hb (I 41 0)
    · have n0 : 0 ≤ I 41 0 0 := Int32.not_lt.mp (by rw [h0.1]; exact i_nlt0 _ (by omega))
      rw [kif_pos z, kif_neg (by decide), kif_pos z, G_X11_comes_15, kif_pos n0, kif_id, kif_pos (cp0_e I1 J).2, (cp0_e I1 J).1]
      exact ⟨I1, rfl, f1, hi1⟩
    · obtain ⟨I', e2, f2, h2⟩ := ih (i + 1) (m + 1) I1 (N + 1) (by omega) (by omega) (by rw [c1']; exact hG_ok (by omega) hg) (by omega)
      rw [← nI_1, c1'] at e2
      rw [kif_neg z, kif_pos rfl, kif_neg z]
      exact ⟨I', e2, oth_tr f1 f2, fun j hj => (h2 j hj).trans (hi1 j hj)⟩
theorem mm_comes {N : Nat} (hN : N < 900000) {I : kI} {J : kJ} (h : Inv N I J) : MM sp_X10_comes sp_X11_comes [] N I J := by
  have hg := h.1
  obtain ⟨K1, e1, r1, f1, _⟩ := T_begin (show N < 1000000 by omega) I J hg h.2.1.1 h.2.1.2.1
  obtain ⟨K2, e2, f2⟩ := C_comes J 400 0 kfu K1 (I 41 0) N (by omega) (by unfold kfu; omega) hg (by omega) r1
  have fK := thF_tr f1 f2
  have k41 : K2 41 0 = I 41 0 := funext fun j => fK _ _ _ (by omega) (by unfold stT; omega)
  have kc := cp1_41 K2
  obtain ⟨M2, e3, f3, h3⟩ := R_comes J 400 0 kfu (cp1 K2) N (by omega) (by unfold kfu; omega) (by rw [kc, k41]; exact hg) (by omega)
  rw [kc, k41] at e3
  rw [kc] at h3
  have bk := R_back f3 rfl h3
  have c1 := cs_X10_comes I J _ (by unfold E_X10_comes; rw [kbd_eq e1]; exact e2)
  have c2 := cs_X11_comes K2 J _ (by unfold E_X11_comes; rw [kif_pos (cp1_e K2 J).2, (cp1_e K2 J).1]; exact e3)
  exact MM_f c1 rfl c2 rfl (Inv_mono (Inv_same (Inv_same h (thF_same fK)) (mc_same bk.2.1)) (by omega))

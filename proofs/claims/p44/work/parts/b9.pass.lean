/-! hours pass -/
noncomputable def Hn : Nat → (Nat → Int32) → Nat → Int32
  | 0, g => g
  | n + 1, g => Hn n (H g)
theorem Hn_s : ∀ (n : Nat) (g : Nat → Int32), Hn (n + 1) g = H (Hn n g) := by
  intro n
  induction n with
  | zero => intro g; rfl
  | succ n ih => intro g; exact ih (H g)
theorem WG_Hn : ∀ (n : Nat) (g : Nat → Int32) (N : Nat), WG g N → N + n ≤ 1000000 → WG (Hn n g) (N + n) := by
  intro n
  induction n with
  | zero => intro g N h _; exact h
  | succ n ih =>
    intro g N h hN
    have e := ih (H g) (N + 1) (hG_ok (by omega) h) (by omega)
    rw [show N + 1 + n = N + (n + 1) by omega] at e
    exact e
theorem H_14 (g : Nat → Int32) : H g 14 = g 14 := hG_same _ _ _ _ _ _ (by omega)
theorem Hn_14 : ∀ (n : Nat) (g : Nat → Int32), Hn n g 14 = g 14 := by
  intro n
  induction n with
  | zero => intro g; rfl
  | succ n ih => intro g; exact (ih (H g)).trans (H_14 g)
theorem C_pass (J : kJ) (t : Nat) (ht : t ≤ 1000) (v2 : Int32) : ∀ n i m (I : kI) (g : Nat → Int32) (N : Nat), i + n = t → n + 1 ≤ m → WG g N → N + n ≤ 999999 → CW I 0 g → ∃ I', G_X10_pass (nI t) m 24 v2 (nI i) I J = some (Hn n g 16 - v2, I', J) ∧ CW I' 0 (Hn n g) ∧ (∀ t o2 j, ¬ (o2 = 0 ∧ wtt t) → I' t o2 j = I t o2 j) := by
  intro n
  induction n with
  | zero =>
    intro i m I g N hi hm hg hN hc
    obtain ⟨m, rfl⟩ : ∃ m', m = m' + 1 := ⟨m - 1, by omega⟩
    refine ⟨I, ?_, hc, fun _ _ _ _ => rfl⟩
    rw [G_X10_pass_24, kif_pos (by rw [i_le (by omega) (by omega)]; omega), hc.2.2.2.1]
    rfl
  | succ n ih =>
    intro i m I g N hi hm hg hN hc
    obtain ⟨m, rfl⟩ : ∃ m', m = m' + 1 := ⟨m - 1, by omega⟩
    obtain ⟨I1, e1, c1, f1⟩ := C_hour (show N < 1000000 by omega) I J hg hc
    obtain ⟨I', e2, c2, f2⟩ := ih (i + 1) m I1 (H g) (N + 1) (by omega) (by omega) (hG_ok (by omega) hg) (by omega) c1
    refine ⟨I', ?_, c2, fun t o2 j q => (f2 t o2 j q).trans (f1 t o2 j q)⟩
    rw [← nI_1] at e2
    rw [G_X10_pass_24, kif_neg (by rw [i_le (by omega) (by omega)]; omega), kbd_eq e1]
    exact e2
theorem R_pass (J : kJ) (t : Nat) (ht : t ≤ 1000) (v2 : Int32) : ∀ n i m (I : kI) (N : Nat), i + n = t → n + 1 ≤ m → WG (I 41 0) N → N + n ≤ 999999 → ∃ I', G_X11_passes (nI t) m 10 v2 (nI i) I J = some (Hn n (I 41 0) 16 - v2, I', J) ∧ I' 41 0 = Hn n (I 41 0) ∧ oth I I' := by
  have l16 : ((16 : Int32)).toNatClampNeg = 16 := rfl
  have v16 : vp_in (16 : Int32) 2509 := vl 16 2509 (by omega) (by omega)
  intro n
  induction n with
  | zero =>
    intro i m I N hi hm hg hN
    obtain ⟨m, rfl⟩ : ∃ m', m = m' + 1 := ⟨m - 1, by omega⟩
    refine ⟨I, ?_, rfl, oth_rf I⟩
    rw [G_X11_passes_10, kif_pos (by rw [i_le (by omega) (by omega)]; omega), kif_pos v16, l16]
    rfl
  | succ n ih =>
    intro i m I N hi hm hg hN
    obtain ⟨m, rfl⟩ : ∃ m', m = m' + 1 := ⟨m - 1, by omega⟩
    obtain ⟨I1, e1, c1, f1, _⟩ := R_hour (show N < 2147483647 by omega) I J hg
    obtain ⟨I', e2, c2, f2⟩ := ih (i + 1) m I1 (N + 1) (by omega) (by omega) (by rw [c1]; exact hG_ok (by omega) hg) (by omega)
    rw [c1] at e2 c2
    refine ⟨I', ?_, c2, oth_tr f1 f2⟩
    rw [← nI_1] at e2
    rw [G_X11_passes_10, kif_neg (by rw [i_le (by omega) (by omega)]; omega), kbd_eq e1]
    exact e2
theorem E_passes (J : kJ) (t : Nat) (ht : t ≤ 1000) (I : kI) (N : Nat) (hg : WG (I 41 0) N) (hN : N + t ≤ 999999) : ∃ I', E_X11_passes (nI t) I J = some (Hn t (I 41 0) 16 - I 41 0 16, I', J) ∧ I' 41 0 = Hn t (I 41 0) ∧ oth I I' := by
  have l16 : ((16 : Int32)).toNatClampNeg = 16 := rfl
  have v16 : vp_in (16 : Int32) 2509 := vl 16 2509 (by omega) (by omega)
  obtain ⟨I', e, c, f⟩ := R_pass J t ht (I 41 0 16) t 0 kfu I N (by omega) (by unfold kfu; omega) hg hN
  refine ⟨I', ?_, c, f⟩
  unfold E_X11_passes
  rw [kif_pos v16, l16]
  exact e
/-- the class's world and the array have moved on -/
theorem Inv_pass {N N' : Nat} {I I1 I2 : kI} {J : kJ} {g' : Nat → Int32} (h : Inv N I J) (hN : N ≤ N') (f1 : ∀ t o2 j, ¬ (o2 = 0 ∧ cwt t) → I1 t o2 j = I t o2 j) (c1 : CW I1 0 g') (e2 : I2 41 0 = g') (f2 : oth I1 I2) (hg : WG g' N') (h14 : nn (I 41 0 14) ≤ nn (g' 14)) : Inv N' I2 J := by
  have all : ∀ t o j, ¬ (t = 41 ∧ o = 0) → ¬ (t = 11 ∧ o = 0 ∧ (j = 5 ∨ j = 6 ∨ j = 7)) → ¬ (o = 0 ∧ cwt t) → I2 t o j = I t o j := fun t o j a b c => (f2 t o j a b).trans (f1 t o j c)
  refine Inv_w h ⟨fun t j a => ?_, fun s j => ?_, fun t j a => ?_, ?_, ?_, ?_, funext fun j => ?_⟩ hN (by rw [e2]; exact hg) ?_ (by rw [e2]; exact h14)
  · unfold cwt at a
    exact all _ _ _ (by omega) (by omega) (by omega)
  · exact all _ _ _ (by omega) (by omega) (by unfold cwt; omega)
  · exact all _ _ _ (by omega) (by omega) (by unfold cwt; omega)
  · exact all _ _ _ (by omega) (by omega) (by unfold cwt; omega)
  · exact all _ _ _ (by omega) (by omega) (by unfold cwt; omega)
  · exact all _ _ _ (by omega) (by omega) (by unfold cwt; omega)
  · exact all _ _ _ (by omega) (by omega) (by unfold cwt; omega)
  · rw [e2]
    exact CW_congr c1 (fun t j a => by unfold cwt at a; exact f2 _ _ _ (by omega) (by omega))
theorem w_cwt {t : Nat} (h : wtt t) : cwt t := by
  unfold wtt at h
  unfold cwt
  omega
theorem mm_pass {N : Nat} (hN : N < 900000) {I : kI} {J : kJ} (h : Inv N I J) (a : Int32) : MM sp_X10_pass sp_X11_pass [kx_i a] N I J := by
  have ph : pre_X10_areHours a I J := by unfold pre_X10_areHours; rw [F_within]; exact in_01 _ _ _
  have eh : F_X10_areHours a I J = (if a < 0 then (0 : Int32) else if 200 < a then 0 else 1) := by unfold F_X10_areHours; rw [F_within]
  by_cases w : (if a < 0 then (0 : Int32) else if 200 < a then 0 else 1) = 0
  · have c1 := cs_X10_pass a I J (-102, rfC 0 I, J) (by unfold E_X10_pass; rw [kif_pos ph, eh, kif_pos w, kif_pos (rC0 I J).2, (rC0 I J).1])
    have c2 := cs_X11_pass a (rfC 0 I) J (-102, rfM 0 (rfC 0 I), J) (by unfold E_X11_pass; rw [in_0_200, kif_pos w, kif_pos (rM0 _ J).2, (rM0 _ J).1])
    exact ref_both h c1 rfl c2 rfl
  · obtain ⟨t, _, ht, rfl⟩ := in_yes (lo := 0) (hi := 200) (by omega) (by omega) w
    obtain ⟨I1, e1, d1, f1⟩ := C_pass J t (by omega) (I 9 0 3) t 0 kfu I (I 41 0) N (by omega) (by unfold kfu; omega) h.1 (by omega) h.2.1
    have k41 : I1 41 0 = I 41 0 := funext fun j => f1 _ _ _ (by unfold wtt; omega)
    obtain ⟨I2, e2, d2, f2⟩ := E_passes J t (by omega) I1 N (by rw [k41]; exact h.1) (by omega)
    rw [k41] at e2 d2
    have c1 := cs_X10_pass (nI t) I J _ (by unfold E_X10_pass; rw [kif_pos ph, eh, kif_neg w]; exact e1)
    have c2 := cs_X11_pass (nI t) I1 J _ (by unfold E_X11_pass; rw [in_0_200, kif_neg w, kbd_eq e2])
    refine MM_f c1 rfl c2 ?_ (Inv_pass (I1 := I1) (I2 := I2) (g' := Hn t (I 41 0)) h (by omega) (fun t o2 j q => f1 t o2 j (fun z => q ⟨z.1, w_cwt z.2⟩)) d1 d2 f2 (WG_mono (WG_Hn t _ N h.1 (by omega)) (by omega)) (by rw [Hn_14]; exact Nat.le_refl _))
    rw [h.2.1.2.2.2.1]

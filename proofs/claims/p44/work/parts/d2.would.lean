/-! the reference's copy and its return; would -/
def mc (I I' : kI) : Prop := ∀ t o j, ¬ (t = 41 ∧ o = 1) → ¬ (t = 11 ∧ o = 0 ∧ (j = 5 ∨ j = 6 ∨ j = 7)) → ¬ (44 ≤ t ∧ t ≤ 48) → I' t o j = I t o j
theorem mc_rf (I : kI) : mc I I := fun _ _ _ _ _ _ => rfl
theorem mc_tr {I I' I'' : kI} (h1 : mc I I') (h2 : mc I' I'') : mc I I'' := fun t o j a b c => (h2 t o j a b c).trans (h1 t o j a b c)
theorem mc_same {I I' : kI} (h : mc I I') : same I I' := by
  unfold mc at h
  refine ⟨fun t o j a b => ?_, fun s j => h _ _ _ (by omega) (by omega) (by omega), fun t j a => h _ _ _ (by omega) (by omega) (by omega), h _ _ _ (by omega) (by omega) (by omega), h _ _ _ (by omega) (by omega) (by omega), h _ _ _ (by omega) (by omega) (by omega), funext fun j => h _ _ _ (by omega) (by omega) (by omega), funext fun j => h _ _ _ (by omega) (by omega) (by omega)⟩
  unfold cwt at b
  exact h _ _ _ (by omega) (by omega) (by omega)
def cp1 (I : kI) : kI := kx_uA I 41 1 (fun k => if k < 2509 then I 41 0 k else I 41 1 k)
def cp0 (I : kI) : kI := kx_uA I 41 0 (fun k => if k < 2509 then I 41 1 k else I 41 0 k)
theorem cp1_e (I : kI) (J : kJ) : F_X11_copies 0 1 I J = (cp1 I, J) ∧ pre_X11_copies 0 1 I J := ⟨rfl, by show (0 : Nat) ≠ 1; omega⟩
theorem cp0_e (I : kI) (J : kJ) : F_X11_copies 1 0 I J = (cp0 I, J) ∧ pre_X11_copies 1 0 I J := ⟨rfl, by show (1 : Nat) ≠ 0; omega⟩
theorem cp1_41 (I : kI) : cp1 I 41 0 = I 41 0 := funext fun j => by unfold cp1; rw [kx_uA_app, if_neg (by omega)]
theorem cp1_ne (I : kI) (t o j : Nat) (h : ¬ (t = 41 ∧ o = 1)) : cp1 I t o j = I t o j := by unfold cp1; rw [kx_uA_app, if_neg h]
/-- the array is as it was -/
theorem R_back {I I2 : kI} {g' : Nat → Int32} (h : oth (cp1 I) I2) (e : I2 41 0 = g') (hi : ∀ j, 2509 ≤ j → g' j = I 41 0 j) : cp0 I2 41 0 = I 41 0 ∧ mc I (cp0 I2) ∧ (∀ x, cp0 I2 48 0 x = I 48 0 x) := by
  have e1 : cp0 I2 41 0 = I 41 0 := funext fun j => by
    unfold cp0
    rw [kx_uA_app, if_pos ⟨rfl, rfl⟩]
    by_cases q : j < 2509
    · rw [if_pos q, h _ _ _ (by omega) (by omega)]
      unfold cp1
      rw [kx_uA_app, if_pos ⟨rfl, rfl⟩, if_pos q]
    · rw [if_neg q, e]
      exact hi j (by omega)
  refine ⟨e1, fun t o j a b c => ?_, fun x => ?_⟩
  rotate_left
  · have z : cp0 I2 48 0 x = I2 48 0 x := by unfold cp0; rw [kx_uA_app, if_neg (by omega)]
    rw [z, h _ _ _ (by omega) (by omega), cp1_ne _ _ _ _ (by omega)]
  by_cases q : t = 41 ∧ o = 0
  · rw [q.1, q.2, e1]
  · have z : cp0 I2 t o j = I2 t o j := by unfold cp0; rw [kx_uA_app, if_neg q]
    rw [z, h _ _ _ q b, cp1_ne _ _ _ _ a]
theorem R_unlitOf (J : kJ) (t : Nat) (ht : t ≤ 1000) (I : kI) (N : Nat) (hg : WG (I 41 0) N) (hN : N + t ≤ 999999) : ∃ I', E_X11_unlitOf (nI t) I J = some (Hn t (I 41 0) 16 - I 41 0 16, I', J) ∧ I' 41 0 = I 41 0 ∧ mc I I' ∧ (∀ x, I' 48 0 x = I 48 0 x) := by
  have k := cp1_41 I
  obtain ⟨I2, e, e2, f2⟩ := E_passes J t ht (cp1 I) N (by rw [k]; exact hg) hN
  rw [k] at e e2
  have b := R_back f2 e2 (fun j hj => Hn_hi hj t _ N hg (by omega))
  refine ⟨cp0 I2, ?_, b.1, b.2⟩
  unfold E_X11_unlitOf
  rw [kif_pos (cp1_e I J).2, (cp1_e I J).1]
  dsimp only
  rw [kbd_eq e]
  dsimp only
  rw [kif_pos (cp0_e I2 J).2, (cp0_e I2 J).1]
theorem R_became (what : Int32) {N : Nat} (I : kI) (J : kJ) (hg : WG (I 41 0) N) : E_X11_became what I J = some (B what (I 41 0)) := by
  have h14 := hg.2.2.2.1
  have h142 := h14.2
  have l14 : ((14 : Int32)).toNatClampNeg = 14 := rfl
  have v14 : vp_in (14 : Int32) 2509 := vl 14 2509 (by omega) (by omega)
  have go : ∀ n i m, i + n = nn (I 41 0 14) → n + 1 ≤ m → G_X11_became what m 4 (cB (fun s => I 41 0 (109 + 4 * s + 2)) what i) (nI i) I J = some (B what (I 41 0)) := by
    intro n
    induction n with
    | zero =>
      intro i m hi hm
      obtain ⟨m, rfl⟩ : ∃ m', m = m' + 1 := ⟨m - 1, by omega⟩
      have q : I 41 0 14 ≤ nI i := by rw [h14.1, i_le (by omega) (by omega)]; omega
      rw [G_X11_became_4, kif_pos v14, l14, kif_pos q]
      unfold B
      rw [← hi]
      rfl
    | succ n ih =>
      intro i m hi hm
      obtain ⟨m, rfl⟩ : ∃ m', m = m' + 1 := ⟨m - 1, by omega⟩
      have q : ¬ I 41 0 14 ≤ nI i := by rw [h14.1, i_le (by omega) (by omega)]; omega
      have o2 := ofS i 2 I J (by omega) (by omega)
      have p2 : pre_X11_ofShip (nI i) (2 : Int32) I J := o2.2
      have e2 : F_X11_ofShip (nI i) (2 : Int32) I J = I 41 0 (109 + 4 * i + 2) := o2.1
      have nx := ih (i + 1) m (by omega) (by omega)
      rw [← nI_1, cB] at nx
      rw [G_X11_became_4, kif_pos v14, l14, kif_neg q, kif_pos p2, e2]
      by_cases y : I 41 0 (109 + 4 * i + 2) = what
      · rw [kif_pos y]
        rw [if_pos y] at nx
        exact nx
      · rw [kif_neg y]
        rw [if_neg y] at nx
        exact nx
  exact go (nn (I 41 0 14)) 0 kfu (by omega) (by unfold kfu; omega)
theorem mm_would {N : Nat} (hN : N < 900000) {I : kI} {J : kJ} (h : Inv N I J) (a b : Int32) : MM sp_X10_would sp_X11_would [kx_i a, kx_i b] N I J := by
  have hg := h.1
  have ph : pre_X10_areHours a I J := by unfold pre_X10_areHours; rw [F_within]; exact in_01 _ _ _
  have eh : F_X10_areHours a I J = (if a < 0 then (0 : Int32) else if 200 < a then 0 else 1) := by unfold F_X10_areHours; rw [F_within]
  by_cases w : (if a < 0 then (0 : Int32) else if 200 < a then 0 else 1) = 0
  · have c1 := cs_X10_would a b I J (-102, rfC 0 I, J) (by unfold E_X10_would; rw [kif_pos ph, eh, kif_pos w, kif_pos (rC0 I J).2, (rC0 I J).1])
    have c2 := cs_X11_would a b (rfC 0 I) J (-102, rfM 0 (rfC 0 I), J) (by unfold E_X11_would; rw [in_0_200, kif_pos w, kif_pos (rM0 _ J).2, (rM0 _ J).1])
    exact ref_both h c1 rfl c2 rfl
  · by_cases w2 : (if b < 0 then (0 : Int32) else if 5 < b then 0 else 1) = 0
    · have c1 := cs_X10_would a b I J (-102, rfC 0 I, J) (by unfold E_X10_would; rw [kif_pos ph, eh, kif_neg w, F_within, kif_pos w2, kif_pos (rC0 I J).2, (rC0 I J).1])
      have c2 := cs_X11_would a b (rfC 0 I) J (-102, rfM 0 (rfC 0 I), J) (by unfold E_X11_would; rw [in_0_200, kif_neg w, in_0_5, kif_pos w2, kif_pos (rM0 _ J).2, (rM0 _ J).1])
      exact ref_both h c1 rfl c2 rfl
    · obtain ⟨t, _, ht, rfl⟩ := in_yes (lo := 0) (hi := 200) (by omega) (by omega) w
      obtain ⟨K1, e1, r1, f1, _⟩ := T_begin (show N < 1000000 by omega) I J hg h.2.1.1 h.2.1.2.1
      obtain ⟨K2, e2, r2, f2⟩ := T_passHours J t (by omega) K1 (I 41 0) N hg (by omega) r1
      have fK := thF_tr f1 f2
      have k41 : K2 41 0 = I 41 0 := funext fun j => fK _ _ _ (by omega) (by unfold stT; omega)
      have hg2 : WG (K2 41 0) N := by rw [k41]; exact hg
      have kc := cp1_41 K2
      obtain ⟨M2, e3, m3, f3⟩ := E_passes J t (by omega) (cp1 K2) N (by rw [kc]; exact hg2) (by omega)
      rw [kc, k41] at e3 m3
      have bk := R_back f3 m3 (fun j hj => (Hn_hi hj t _ N hg (by omega)).trans (by rw [k41]))
      have hgt := WG_Hn t _ N hg (by omega)
      have b0 := fun what => R_became what (cp1 K2) J (N := N) (by rw [kc]; exact hg2)
      have b1 := fun what => R_became what M2 J (N := N + t) (by rw [m3]; exact hgt)
      rw [kc, k41] at b0
      rw [m3] at b1
      have v4 : vp_in (4 : Int32) 2509 := vl 4 2509 (by omega) (by omega)
      have v5 : vp_in (5 : Int32) 2509 := vl 5 2509 (by omega) (by omega)
      have v20 : vp_in (20 : Int32) 2509 := vl 20 2509 (by omega) (by omega)
      have l4 : ((4 : Int32)).toNatClampNeg = 4 := rfl
      have l5 : ((5 : Int32)).toNatClampNeg = 5 := rfl
      have l20 : ((20 : Int32)).toNatClampNeg = 20 := rfl
      obtain ⟨hS, _, u1, u2, u3, u4⟩ := r2
      have s4 : K2 6 2 8 = Hn t (I 41 0) 4 := hS.1 4 (by omega)
      have s5 : K2 6 2 9 = Hn t (I 41 0) 5 := hS.1 5 (by omega)
      have fin : ∀ v, E_X10_would (nI t) b I J = some (v, K2, J) → E_X11_would (nI t) b K2 J = some (v, cp0 M2, J) → MM sp_X10_would sp_X11_would [kx_i (nI t), kx_i b] N I J := fun v q1 q2 => by
        have c1 := cs_X10_would _ _ _ _ _ q1
        have c2 := cs_X11_would _ _ _ _ _ q2
        exact MM_f c1 rfl c2 rfl (Inv_mono (Inv_same (Inv_same h (thF_same fK)) (mc_same bk.2.1)) (by omega))
      have q1 : E_X10_would (nI t) b I J = some (kif (b = 0) (Hn t (I 41 0) 16 - I 41 0 16) (kif (b = 1) (Hn t (I 41 0) 4) (kif (b = 2) (Hn t (I 41 0) 5) (kif (b = 3) (B 1 (Hn t (I 41 0)) - B 1 (I 41 0)) (kif (b = 4) (B 2 (Hn t (I 41 0)) - B 2 (I 41 0)) (Hn t (I 41 0) 20 - I 41 0 20))))), K2, J) := by
        unfold E_X10_would
        rw [kif_pos ph, eh, kif_neg w, F_within, kif_neg w2, kbd_eq e1]
        dsimp only
        rw [kbd_eq e2]
        dsimp only
        rw [u1, u2, u3, u4, s4, s5]
        by_cases z0 : b = 0
        · rw [kif_pos z0, kif_pos z0]
        · rw [kif_neg z0, kif_neg z0]
          by_cases z1 : b = 1
          · rw [kif_pos z1, kif_pos z1]
          · rw [kif_neg z1, kif_neg z1]
            by_cases z2 : b = 2
            · rw [kif_pos z2, kif_pos z2]
            · rw [kif_neg z2, kif_neg z2]
              by_cases z3 : b = 3
              · rw [kif_pos z3, kif_pos z3]
              · rw [kif_neg z3, kif_neg z3]
                by_cases z4 : b = 4
                · rw [kif_pos z4, kif_pos z4]
                · rw [kif_neg z4, kif_neg z4]
      refine fin _ q1 ?_
      unfold E_X11_would
      rw [in_0_200, kif_neg w, in_0_5, kif_neg w2, kif_pos (cp1_e K2 J).2, (cp1_e K2 J).1]
      dsimp only
      rw [kbd_eq (b0 1), kbd_eq (b0 2), kif_pos v20, kbd_eq e3]
      dsimp only
      have p0 := (cp0_e M2 J).2
      have eF := (cp0_e M2 J).1
      rw [kbd_eq (b1 1), kbd_eq (b1 2), eF]
      dsimp only
      by_cases z0 : b = 0
      · rw [kif_pos z0, kif_pos z0, kif_pos p0]
      · rw [kif_neg z0, kif_neg z0]
        by_cases z1 : b = 1
        · rw [kif_pos z1, kif_pos z1, kif_pos v4, kif_pos p0, l4, m3]
        · rw [kif_neg z1, kif_neg z1]
          by_cases z2 : b = 2
          · rw [kif_pos z2, kif_pos z2, kif_pos v5, kif_pos p0, l5, m3]
          · rw [kif_neg z2, kif_neg z2]
            by_cases z3 : b = 3
            · rw [kif_pos z3, kif_pos z3, kif_pos p0]
            · rw [kif_neg z3, kif_neg z3]
              by_cases z4 : b = 4
              · rw [kif_pos z4, kif_pos z4, kif_pos p0]
              · rw [kif_neg z4, kif_neg z4, kif_pos v20, kif_pos p0, l20, m3, kc, k41]

/-! oil -/
theorem nar01 {x : Int32} (h : x = 0 ∨ x = 1) : vp_nar .boolean x = nI (oN (decide (¬ x = 0))) := by
  rcases h with h | h <;> rw [h] <;> decide
theorem hd_01 (g : Nat → Int32) : hd g = 0 ∨ hd g = 1 := by
  unfold hd aD
  split
  · exact Or.inr rfl
  · split
    · exact Or.inl rfl
    · exact Or.inr rfl
theorem ht_01 (g : Nat → Int32) : ht g = 0 ∨ ht g = 1 := by
  unfold ht aT
  by_cases q : hW g < 0
  · rw [kif_pos q]; exact Or.inl rfl
  · rw [kif_neg q]
    by_cases r : aR g (hW g)
    · rw [kif_pos r]; exact Or.inr rfl
    · rw [kif_neg r]; exact Or.inl rfl
theorem bB_e (g : Nat → Int32) : vp_nar .boolean (kif (hb g) 1 0) = nI (oN (bB g)) := by
  unfold bB
  by_cases q : hb g
  · rw [kif_pos q, kif_pos q]; decide
  · rw [kif_neg q, kif_neg q]; decide
def ox (I I' : kI) : Prop := ∀ t o j, ¬ (t = 41 ∧ o = 0) → ¬ (t = 11 ∧ o = 0 ∧ (j = 5 ∨ j = 6 ∨ j = 7)) → ¬ (45 ≤ t ∧ t ≤ 47) → I' t o j = I t o j
theorem ox_rf (I : kI) : ox I I := fun _ _ _ _ _ _ => rfl
theorem ox_tr {I I' I'' : kI} (h1 : ox I I') (h2 : ox I' I'') : ox I I'' := fun t o j a b c => (h2 t o j a b c).trans (h1 t o j a b c)
theorem R_rec {g : Nat → Int32} {N t : Nat} (J : kJ) (hg : WG g N) (ht : t ≤ 200) (hN : N + t ≤ 999999) : ∀ n i m (I : kI), i + n = t → I 41 0 = Hn i g → (∀ j, j < i → I 45 0 j = nI (oN (dB (Hn j g))) ∧ I 46 0 j = nI (oN (tB (Hn j g))) ∧ I 47 0 j = nI (oN (bB (Hn j g)))) → ∃ I', G_X11_oil (nI t) (m + 2 * n) 32 (nI i) 0 I J = G_X11_oil (nI t) m 32 (nI t) 0 I' J ∧ I' 41 0 = Hn t g ∧ (∀ j, j < t → I' 45 0 j = nI (oN (dB (Hn j g))) ∧ I' 46 0 j = nI (oN (tB (Hn j g))) ∧ I' 47 0 j = nI (oN (bB (Hn j g)))) ∧ ox I I' := by
  intro n
  induction n with
  | zero =>
    intro i m I hi e41 hf
    obtain rfl : i = t := by omega
    exact ⟨I, rfl, e41, hf, ox_rf I⟩
  | succ n ih =>
    intro i m I hi e41 hf
    have hgi := WG_Hn i g N hg (by omega)
    obtain ⟨I1, e1, c1, f1, d5, d6, d7⟩ := R_hour (show N + i < 2147483647 by omega) I J (by rw [e41]; exact hgi)
    rw [e41] at c1 d5 d6 d7
    have ci : (nI i).toNatClampNeg = i := nI_clamp (by omega)
    have vi : vp_in (nI i) 200 := vl i 200 (by omega) (by omega)
    obtain ⟨I2, hI2⟩ : ∃ I2, I2 = kw (kw (kw I1 45 0 i (vp_nar .boolean (I1 11 0 5))) 46 0 i (vp_nar .boolean (I1 11 0 6))) 47 0 i (vp_nar .boolean (I1 11 0 7)) := ⟨_, rfl⟩
    have k1 : ∀ t o j, ¬ (45 ≤ t ∧ t ≤ 47) → I2 t o j = I1 t o j := fun t o j a => by rw [hI2, kw_at _ _ (by omega), kw_at _ _ (by omega), kw_at _ _ (by omega)]
    have o12 : ox I I2 := fun t o j a b c => (k1 _ _ _ c).trans (f1 t o j a b)
    obtain ⟨I', e2, r41, rf, ro⟩ := ih (i + 1) m I2 (by omega) (by
      rw [Hn_s]
      funext j
      rw [k1 _ _ _ (by omega), c1]) (fun j hj => by
      by_cases q : j = i
      · subst q
        have a5 : I2 45 0 j = vp_nar .boolean (I1 11 0 5) := by rw [hI2, kw_at _ _ (by omega), kw_at _ _ (by omega), kw_app, if_pos ⟨rfl, rfl, rfl⟩]
        have a6 : I2 46 0 j = vp_nar .boolean (I1 11 0 6) := by rw [hI2, kw_at _ _ (by omega), kw_app, if_pos ⟨rfl, rfl, rfl⟩]
        have a7 : I2 47 0 j = vp_nar .boolean (I1 11 0 7) := by rw [hI2, kw_app, if_pos ⟨rfl, rfl, rfl⟩]
        rw [a5, a6, a7, d5, d6, d7, nar01 (hd_01 _), nar01 (ht_01 _), bB_e]
        exact ⟨rfl, rfl, rfl⟩
      · have z := hf j (by omega)
        have b : ∀ t, (t = 45 ∨ t = 46 ∨ t = 47) → I2 t 0 j = I t 0 j := fun t ht => by
          rw [hI2, kw_at _ _ (by omega), kw_at _ _ (by omega), kw_at _ _ (by omega)]
          exact f1 _ _ _ (by omega) (by omega)
        rw [b 45 (by omega), b 46 (by omega), b 47 (by omega)]
        exact z)
    refine ⟨I', ?_, r41, rf, ox_tr o12 ro⟩
    rw [show m + 2 * (n + 1) = m + 2 * n + 1 + 1 by omega, G_X11_oil_32, kif_neg (by rw [i_le (by omega) (by omega)]; omega), kbd_eq e1]
    dsimp only
    rw [kif_pos vi, kif_pos vi, kif_pos vi, G_X11_oil_71, ci, kw_at (t := 45) (t2 := 11) _ _ (by omega), kw_at (t := 46) (t2 := 11) _ _ (by omega), kw_at (t := 45) (t2 := 11) _ _ (by omega), ← hI2]
    rw [← nI_1] at e2
    exact e2
theorem R_oil99 {g : Nat → Int32} {N t v : Nat} (J : kJ) {I : kI} (hg : WG g N) (e41 : I 41 0 = g) (ht : t ≤ 200) (hf : ∀ j, j < t → I 45 0 j = nI (oN (dB (Hn j g))) ∧ I 46 0 j = nI (oN (tB (Hn j g))) ∧ I 47 0 j = nI (oN (bB (Hn j g)))) (hl : least (uO t g) v) : ∀ n x m, x + n = v → n + 1 ≤ m → G_X11_oil (nI t) m 99 (nI (uO t g 9999)) (nI x) I J = some (nI v, I, J) := by
  have hv := hl.1
  have l9 := uO_le t g 9999
  intro n
  induction n with
  | zero =>
    intro x m hx hm
    obtain ⟨m, rfl⟩ : ∃ m', m = m' + 1 := ⟨m - 1, by omega⟩
    obtain rfl : x = v := by omega
    have lx := uO_le t g x
    rw [G_X11_oil_99, kbd_eq (R_unlitBy J hg e41 ht (by omega) hf), kif_pos (by rw [i_le (by omega) (by omega)]; exact hl.2.1)]
  | succ n ih =>
    intro x m hx hm
    obtain ⟨m, rfl⟩ : ∃ m', m = m' + 1 := ⟨m - 1, by omega⟩
    have lx := uO_le t g x
    have z := hl.2.2 x (by omega)
    have e := ih (x + 1) m (by omega) (by omega)
    rw [← nI_1] at e
    rw [G_X11_oil_99, kbd_eq (R_unlitBy J hg e41 ht (by omega) hf), kif_neg (by rw [i_le (by omega) (by omega)]; omega)]
    exact e
theorem mm_oil {N : Nat} (hN : N < 900000) {I : kI} {J : kJ} (h : Inv N I J) (a : Int32) : MM sp_X10_oil sp_X11_oil [kx_i a] N I J := by
  have hg := h.1
  have ph : pre_X10_areHours a I J := by unfold pre_X10_areHours; rw [F_within]; exact in_01 _ _ _
  have eh : F_X10_areHours a I J = (if a < 0 then (0 : Int32) else if 200 < a then 0 else 1) := by unfold F_X10_areHours; rw [F_within]
  by_cases w : (if a < 0 then (0 : Int32) else if 200 < a then 0 else 1) = 0
  · have c1 := cs_X10_oil a I J (-102, rfC 0 I, J) (by unfold E_X10_oil; rw [kif_pos ph, eh, kif_pos w, kif_pos (rC0 I J).2, (rC0 I J).1])
    have c2 := cs_X11_oil a (rfC 0 I) J (-102, rfM 0 (rfC 0 I), J) (by unfold E_X11_oil; rw [in_0_200, kif_pos w, kif_pos (rM0 _ J).2, (rM0 _ J).1])
    exact ref_both h c1 rfl c2 rfl
  · obtain ⟨t, _, ht, rfl⟩ := in_yes (lo := 0) (hi := 200) (by omega) (by omega) w
    have hc : CQ I (I 41 0) := ⟨h.2.1.1, h.2.1.2.1⟩
    obtain ⟨K1, e1, f1⟩ := T_oil J t 9999 (by omega) (by omega) I hg (by omega) hc
    obtain ⟨v, K2, e2, hl, f2⟩ := C_oil J t (by omega) hg (by omega) 32 0 kfu K1 0 9999 (2 ^ 32) (by omega) (by unfold kfu; omega) rfl (by omega) (by omega) (by omega) (fun y hy => by omega) (Nat.le_refl _) (CQ_th hc f1)
    have fK := thF_tr f1 f2
    have k41 : K2 41 0 = I 41 0 := funext fun j => fK _ _ _ (by omega) (by unfold stT; omega)
    have kc := cp1_41 K2
    have hv := hl.1
    obtain ⟨m, hm⟩ : ∃ m, kfu = m + 1 + 2 * t := ⟨kfu - (1 + 2 * t), by unfold kfu; omega⟩
    have hm2 : 90000 ≤ m := by
      have : kfu = 100000 := rfl
      omega
    obtain ⟨M2, e3, m3, f3, o3⟩ := R_rec J hg ht (by omega) t 0 (m + 1) (cp1 K2) (by omega) (by rw [kc, k41]; rfl) (fun j hj => by omega)
    have m41 : cp0 M2 41 0 = I 41 0 := funext fun j => by
      unfold cp0
      rw [kx_uA_app, if_pos ⟨rfl, rfl⟩]
      by_cases q : j < 2509
      · rw [if_pos q, o3 _ _ _ (by omega) (by omega) (by omega)]
        unfold cp1
        rw [kx_uA_app, if_pos ⟨rfl, rfl⟩, if_pos q, k41]
      · rw [if_neg q, m3]
        exact Hn_hi (by omega) t _ N hg (by omega)
    have mne : ∀ t o j, ¬ (t = 41 ∧ o = 0) → cp0 M2 t o j = M2 t o j := fun t o j q => by unfold cp0; rw [kx_uA_app, if_neg q]
    have fm : mc K2 (cp0 M2) := fun t o j a b c => by
      by_cases q : t = 41 ∧ o = 0
      · rw [q.1, q.2, m41, k41]
      · rw [mne _ _ _ q, o3 _ _ _ q b (by omega), cp1_ne _ _ _ _ a]
    have ff : ∀ j, j < t → cp0 M2 45 0 j = nI (oN (dB (Hn j (I 41 0)))) ∧ cp0 M2 46 0 j = nI (oN (tB (Hn j (I 41 0)))) ∧ cp0 M2 47 0 j = nI (oN (bB (Hn j (I 41 0)))) := fun j hj => by
      rw [mne _ _ _ (by omega), mne _ _ _ (by omega), mne _ _ _ (by omega)]
      exact f3 j hj
    have e9 := R_unlitBy (x := 9999) J hg m41 ht (by omega) ff
    have e4 := R_oil99 J hg m41 ht ff hl v 0 m (by omega) (by omega)
    have c1 := cs_X10_oil (nI t) I J _ (by
      unfold E_X10_oil
      rw [kif_pos ph, eh, kif_neg w]
      show kbd (E_X10_unlitWithOil (nI t) (nI 9999) I J) _ = _
      rw [kbd_eq e1]
      exact e2)
    have c2 := cs_X11_oil (nI t) K2 J (nI v, cp0 M2, J) (by
      unfold E_X11_oil
      rw [in_0_200, kif_neg w, kif_pos (cp1_e K2 J).2, (cp1_e K2 J).1, hm]
      dsimp only
      have e3' : G_X11_oil (nI t) (m + 1 + 2 * t) 32 0 0 (cp1 K2) J = _ := e3
      have e9' : E_X11_unlitBy (9999 : Int32) (nI t) (cp0 M2) J = some (nI (uO t (I 41 0) 9999)) := e9
      rw [e3', G_X11_oil_32, kif_pos (by rw [i_le (by omega) (by omega)]; omega), kif_pos (cp0_e M2 J).2, (cp0_e M2 J).1]
      dsimp only
      rw [kbd_eq e9']
      exact e4)
    exact MM_f c1 rfl c2 rfl (Inv_mono (Inv_same (Inv_same h (thF_same fK)) (mc_same fm)) (by omega))

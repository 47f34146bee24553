/-! idle -/
def iv (g : Nat → Int32) (k : Nat) : Nat → Int32 := fun x => if g (85 + x) = nI k then -1 else g (85 + x)
theorem WG_iv {g : Nat → Int32} {N : Nat} (k : Nat) (hg : WG g N) : ∀ i, i < 24 → iv g k i = -1 ∨ ∃ j, j < nn (g 13) ∧ iv g k i = nI j := by
  intro i hi
  unfold iv
  by_cases z : g (85 + i) = nI k
  · rw [if_pos z]
    exact Or.inl rfl
  · rw [if_neg z]
    exact hg.2.2.2.2.2.1 i hi
theorem relieve_e {K : kI} (J : kJ) {g : Nat → Int32} (k : Nat) (hK : ∀ i, i < 24 → K 37 2 i = g (85 + i)) : F_X6_relieve 2 (nI k) K J = (kx_uA K 37 2 (tpF (K 37 2) (iv g k) 24), J) := by
  unfold F_X6_relieve
  have e : (fun x => if x < 24 then (if K 37 2 x = nI k then (-1 : Int32) else K 37 2 x) else K 37 2 x) = tpF (K 37 2) (iv g k) 24 := funext fun x => by
    unfold tpF iv
    by_cases q : x < 24
    · rw [if_pos q, if_pos q, hK x q]
    · rw [if_neg q, if_neg q]
  rw [e]
noncomputable def idF (t : Nat) (g : Nat → Int32) : Nat → Nat → Int32 → Int32
  | 0, _, v => v
  | n + 1, k, v => kif (uP t g < uP t (tpG g (iv g k) 24)) (idF t g n (k + 1) v) (idF t g n (k + 1) (v ||| ((1 : Int32) <<< (nI k &&& 31))))
theorem C_idle {N : Nat} {g : Nat → Int32} (J : kJ) {t : Nat} (ht : t ≤ 1000) (hg : WG g N) (hN : N + t ≤ 999999) : ∀ n k m (I : kI) (v : Int32), k + n = nn (g 13) → n + 1 ≤ m → CQ I g → ∃ I', G_X10_idle (nI t) m 25 (uP t g) v (nI k) I J = some (idF t g n k v, I', J) ∧ thF I I' := by
  have h13 := hg.2.2.1
  have h132 := h13.2
  intro n
  induction n with
  | zero =>
    intro k m I v hk hm hc
    obtain ⟨m, rfl⟩ : ∃ m', m = m' + 1 := ⟨m - 1, by omega⟩
    have ic : I 1 0 5 = g 13 := hc.1.2.2.2.2.2.2.1
    refine ⟨I, ?_, thF_rf I⟩
    rw [G_X10_idle_25, ic, kif_pos (by rw [h13.1, i_le (by omega) (by omega)]; omega)]
    rfl
  | succ n ih =>
    intro k m I v hk hm hc
    obtain ⟨m, rfl⟩ : ∃ m', m = m' + 1 := ⟨m - 1, by omega⟩
    have ic : I 1 0 5 = g 13 := hc.1.2.2.2.2.2.2.1
    obtain ⟨I1, I2, e1, f1, k37, e2, f2⟩ := T_plan (iv g k) J t ht I hg (WG_iv k hg) hN hc
    have ea := relieve_e J k k37
    have hc2 := CQ_th hc f2
    rw [G_X10_idle_25, ic, kif_neg (by rw [h13.1, i_le (by omega) (by omega)]; omega), kbd_eq e1, idF]
    dsimp only
    rw [ea]
    dsimp only
    rw [kbd_eq e2]
    dsimp only
    by_cases z : uP t g < uP t (tpG g (iv g k) 24)
    · obtain ⟨I', e3, f3⟩ := ih (k + 1) m I2 v (by omega) (by omega) hc2
      rw [← nI_1] at e3
      rw [kif_pos z, kif_pos z]
      exact ⟨I', e3, thF_tr f2 f3⟩
    · obtain ⟨I', e3, f3⟩ := ih (k + 1) m I2 (v ||| ((1 : Int32) <<< (nI k &&& 31))) (by omega) (by omega) hc2
      rw [← nI_1] at e3
      rw [kif_neg z, kif_neg z]
      exact ⟨I', e3, thF_tr f2 f3⟩
theorem g_idle50 {g : Nat → Int32} (J : kJ) (a0 v2 v3 : Int32) (k : Nat) : ∀ n i m (I : kI), i + n = 24 → I 41 0 = tpG g (iv g k) i → ∃ I', G_X11_idle a0 (m + n) 50 v2 v3 (nI k) (nI i) I J = G_X11_idle a0 m 50 v2 v3 (nI k) (nI 24) I' J ∧ I' 41 0 = tpG g (iv g k) 24 ∧ (∀ x, I' 48 0 x = I 48 0 x) ∧ mx I I' := by
  intro n
  induction n with
  | zero =>
    intro i m I hi e41
    obtain rfl : i = 24 := by omega
    exact ⟨I, rfl, e41, fun _ => rfl, mx_rf I⟩
  | succ n ih =>
    intro i m I hi e41
    have c85 : ((85 : Int32) + nI i).toNatClampNeg = 85 + i := ix1c (a := 85) (by omega)
    have v85 : vp_in ((85 : Int32) + nI i) 2509 := ix1v (a := 85) (by omega) (by omega)
    have ei : I 41 0 (85 + i) = g (85 + i) := by
      rw [e41]
      unfold tpG
      rw [if_neg (by omega)]
    have st : ∀ x, x = iv g k i → (kw I 41 0 (85 + i) x) 41 0 = tpG g (iv g k) (i + 1) := fun x hx => funext fun j => by
      rw [kw_app, e41]
      unfold tpG
      by_cases q : j = 85 + i
      · rw [if_pos ⟨rfl, rfl, q⟩, if_pos (by omega), hx, q, show 85 + i - 85 = i by omega]
      · rw [if_neg (fun z => q z.2.2)]
        by_cases q2 : 85 ≤ j ∧ j < 85 + i
        · rw [if_pos q2, if_pos (by omega)]
        · rw [if_neg q2, if_neg (by omega)]
    have fin : ∀ x, x = iv g k i → ∃ I', G_X11_idle a0 (m + n) 50 v2 v3 (nI k) (nI i + 1) (kw I 41 0 (85 + i) x) J = G_X11_idle a0 m 50 v2 v3 (nI k) (nI 24) I' J ∧ I' 41 0 = tpG g (iv g k) 24 ∧ (∀ x, I' 48 0 x = I 48 0 x) ∧ mx I I' := fun x hx => by
      obtain ⟨I', e, r41, r48, rm⟩ := ih (i + 1) m (kw I 41 0 (85 + i) x) (by omega) (st x hx)
      rw [← nI_1] at e
      exact ⟨I', e, r41, fun y => (r48 y).trans (kw_at _ _ (by omega)), mx_tr (fun t o j a b c => kw_at _ _ (by omega)) rm⟩
    rw [show m + (n + 1) = m + n + 1 by omega, G_X11_idle_50, kif_neg (by show ¬ nI 24 ≤ nI i; rw [i_le (by omega) (by omega)]; omega), kif_pos v85, c85, ei]
    by_cases z : g (85 + i) = nI k
    · rw [kif_pos z, kif_pos v85]
      exact fin (-1) (by unfold iv; rw [if_pos z])
    · rw [kif_neg z, kif_pos v85, kif_pos v85]
      exact fin _ (by unfold iv; rw [if_neg z])
theorem R_idle {N : Nat} {g : Nat → Int32} (J : kJ) {t : Nat} (ht : t ≤ 1000) (hg : WG g N) (hN : N + t ≤ 999999) : ∀ n k m (I : kI) (v : Int32), k + n = nn (g 13) → 30 * n + 1 ≤ m → I 41 0 = g → ∃ I' , G_X11_idle (nI t) m 30 (uP t g) v (nI k) 0 I J = some (idF t g n k v, I', J) ∧ mx I I' ∧ I' 41 0 = g := by
  have h13 := hg.2.2.1
  have h132 := h13.2
  have l13 : ((13 : Int32)).toNatClampNeg = 13 := rfl
  have v13 : vp_in (13 : Int32) 2509 := vl 13 2509 (by omega) (by omega)
  intro n
  induction n with
  | zero =>
    intro k m I v hk hm e41
    obtain ⟨m, rfl⟩ : ∃ m', m = m' + 1 := ⟨m - 1, by omega⟩
    refine ⟨I, ?_, mx_rf I, e41⟩
    rw [G_X11_idle_30, kif_pos v13, l13, e41, kif_pos (by rw [h13.1, i_le (by omega) (by omega)]; omega)]
    rfl
  | succ n ih =>
    intro k m I v hk hm e41
    obtain ⟨m, rfl⟩ : ∃ m', m = m' + 1 + 24 + 1 := ⟨m - 26, by omega⟩
    obtain ⟨M1, hM1⟩ : ∃ M1, M1 = kp0 I := ⟨_, rfl⟩
    have r1 := E_keeps0 I J
    rw [← hM1] at r1
    have m1 : M1 41 0 = g := funext fun j => by rw [hM1]; unfold kp0; rw [kx_uA_app, if_neg (by omega), e41]
    have s1 : ∀ x, x < 24 → M1 48 0 x = g (85 + x) := fun x hx => by rw [hM1]; unfold kp0; rw [kx_uA_app, if_pos ⟨rfl, rfl⟩, if_pos hx, e41]
    have n1 : mx I M1 := fun t o j a b c => by rw [hM1]; unfold kp0; rw [kx_uA_app, if_neg (by omega)]
    obtain ⟨M2, r2, m2, s2, n2⟩ := g_idle50 (g := g) J (nI t) (uP t g) v k 24 0 (m + 1) M1 (by omega) (by rw [m1, tpG_0])
    obtain ⟨M3, r3, m3, n3⟩ := R_unlitP J t ht M2 N m2 (WG_plan hg (WG_iv k hg)) hN
    obtain ⟨M4, r4, m4, n4⟩ := R_keeps1 J m3 (fun x hx => by rw [n3.2, s2]; exact s1 x hx)
    have nA := mx_tr n1 (mx_tr n2 (mx_tr (mc_mx n3.1) n4))
    have r2' : G_X11_idle (nI t) (m + 1 + 24) 50 (uP t g) v (nI k) 0 M1 J = _ := r2
    rw [G_X11_idle_30, kif_pos v13, l13, e41, kif_neg (by rw [h13.1, i_le (by omega) (by omega)]; omega), kbd_eq r1, idF]
    dsimp only
    rw [r2', G_X11_idle_50, kif_pos (by decide), kbd_eq r3]
    dsimp only
    by_cases z : uP t g < uP t (tpG g (iv g k) 24)
    · obtain ⟨I', e3, f3, g3⟩ := ih (k + 1) m M4 v (by omega) (by omega) m4
      rw [← nI_1] at e3
      rw [kif_pos z, kif_pos z, kbd_eq r4, Int32.or_zero]
      exact ⟨I', e3, mx_tr nA f3, g3⟩
    · obtain ⟨I', e3, f3, g3⟩ := ih (k + 1) m M4 (v ||| ((1 : Int32) <<< (nI k &&& 31))) (by omega) (by omega) m4
      rw [← nI_1] at e3
      rw [kif_neg z, kif_neg z, kbd_eq r4]
      exact ⟨I', e3, mx_tr nA f3, g3⟩
theorem mm_idle {N : Nat} (hN : N < 900000) {I : kI} {J : kJ} (h : Inv N I J) (a : Int32) : MM sp_X10_idle sp_X11_idle [kx_i a] N I J := by
  have hg := h.1
  have h132 := hg.2.2.1.2
  have ph : pre_X10_areHours a I J := by unfold pre_X10_areHours; rw [F_within]; exact in_01 _ _ _
  have eh : F_X10_areHours a I J = (if a < 0 then (0 : Int32) else if 200 < a then 0 else 1) := by unfold F_X10_areHours; rw [F_within]
  by_cases w : (if a < 0 then (0 : Int32) else if 200 < a then 0 else 1) = 0
  · have c1 := cs_X10_idle a I J (-102, rfC 0 I, J) (by unfold E_X10_idle; rw [kif_pos ph, eh, kif_pos w, kif_pos (rC0 I J).2, (rC0 I J).1])
    have c2 := cs_X11_idle a (rfC 0 I) J (-102, rfM 0 (rfC 0 I), J) (by unfold E_X11_idle; rw [in_0_200, kif_pos w, kif_pos (rM0 _ J).2, (rM0 _ J).1])
    exact ref_both h c1 rfl c2 rfl
  · obtain ⟨t, _, ht, rfl⟩ := in_yes (lo := 0) (hi := 200) (by omega) (by omega) w
    have hc : CQ I (I 41 0) := ⟨h.2.1.1, h.2.1.2.1⟩
    obtain ⟨K1, e1, f1⟩ := T_as J t (by omega) I hg (by omega) hc
    obtain ⟨K2, e2, f2⟩ := C_idle J (t := t) (by omega) hg (by omega) (nn (I 41 0 13)) 0 kfu K1 0 (by omega) (by unfold kfu; omega) (CQ_th hc f1)
    have fK := thF_tr f1 f2
    have k41 : K2 41 0 = I 41 0 := funext fun j => fK _ _ _ (by omega) (by unfold stT; omega)
    obtain ⟨M1, e3, m1, f3⟩ := R_unlitP J t (by omega) K2 N k41 hg (by omega)
    obtain ⟨M2, e4, f4, m2⟩ := R_idle J (t := t) (by omega) hg (by omega) (nn (I 41 0 13)) 0 kfu M1 0 (by omega) (by unfold kfu; omega) m1
    have c1 := cs_X10_idle (nI t) I J _ (by
      unfold E_X10_idle
      rw [kif_pos ph, eh, kif_neg w, kbd_eq e1]
      exact e2)
    have c2 := cs_X11_idle (nI t) K2 J _ (by
      unfold E_X11_idle
      rw [in_0_200, kif_neg w, kbd_eq e3]
      exact e4)
    have fm := mx_mc (mx_tr (mc_mx f3.1) f4) (m2.trans k41.symm)
    exact MM_f c1 rfl c2 rfl (Inv_mono (Inv_same (Inv_same h (thF_same fK)) (mc_same fm)) (by omega))

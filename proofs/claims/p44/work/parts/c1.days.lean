/-! ship, days -/
theorem kx_self (I : kI) (t o : Nat) (f : Nat → Int32) : kx_uA I t o f t o = f := kx_uA_eq _ _ _ _
theorem mm_ship {N : Nat} (hN : N < 900000) {I : kI} {J : kJ} (h : Inv N I J) (a b : Int32) : MM sp_X10_ship sp_X11_ship [kx_i a, kx_i b] N I J := by
  have hg := h.1
  have hc := h.2.1
  have h0 := hg.1
  have h02 := h0.2
  have h14 := hg.2.2.2.1
  have h142 := h14.2
  have i4 : I 6 0 4 = I 41 0 0 := hc.1.1 0 (by omega)
  have h0i := rg_toInt h0 (by omega)
  have i25 : I 2 0 5 = I 41 0 14 := by
    obtain ⟨p, hF, _⟩ := hc.2.1
    rw [hF.2.1, ← h14.1]
  have z1 : ¬ (1 : Int32) = 0 := by decide
  have l0 : ((0 : Int32)).toNatClampNeg = 0 := rfl
  have v0 : vp_in (0 : Int32) 2509 := vl 0 2509 (by omega) (by omega)
  have l14 : ((14 : Int32)).toNatClampNeg = 14 := rfl
  have v14 : vp_in (14 : Int32) 2509 := vl 14 2509 (by omega) (by omega)
  have ei : ∀ (K : kI) (J : kJ), K 41 0 0 = I 41 0 0 → F_X11_in (Int32.toInt64 b) (Int32.toInt64 (K 41 0 0)) ((Int32.toInt64 (K 41 0 0)) + (999 : Int64)) K J = (if b < I 6 0 4 then (0 : Int32) else if I 6 0 4 + 999 < b then 0 else 1) := fun K J hK => by
    rw [hK, w_add2 _ (by omega) (by omega), F_in32, i4]
  have r0 : ∀ k, (rfC k I) 41 0 0 = I 41 0 0 := fun k => rfC_at _ _ _ _ (by omega)
  have r14 : ∀ k, (rfC k I) 41 0 14 = I 41 0 14 := fun k => rfC_at _ _ _ _ (by omega)
  by_cases w : (if a < 3 then (0 : Int32) else if 7 < a then 0 else 1) = 0
  · have c1 := cs_X10_ship a b I J (-102, rfC 0 I, J) (by unfold E_X10_ship; rw [F_within, kif_pos w, kif_pos (rC0 I J).2, (rC0 I J).1])
    have c2 := cs_X11_ship a b (rfC 0 I) J (by unfold pre_X11_ship; rw [in_3_7, kif_pos w]; exact ⟨(rM0 _ J).2, trivial⟩)
    refine ref_both h c1 rfl c2 ?_
    unfold F_X11_ship
    rw [in_3_7, kif_pos w, (rM0 _ J).1]
  · by_cases w2 : (if b < I 6 0 4 then (0 : Int32) else if I 6 0 4 + 999 < b then 0 else 1) = 0
    · have c1 := cs_X10_ship a b I J (-102, rfC 0 I, J) (by unfold E_X10_ship; rw [F_within a, kif_neg w, F_within b, kif_pos w2, kif_pos (rC0 I J).2, (rC0 I J).1])
      have c2 := cs_X11_ship a b (rfC 0 I) J (by unfold pre_X11_ship; rw [in_3_7, kif_neg w, l0, ei _ _ (r0 0), kif_pos w2]; exact ⟨v0, v0, (rM0 _ J).2, trivial⟩)
      refine ref_both h c1 rfl c2 ?_
      unfold F_X11_ship
      rw [in_3_7, kif_neg w, l0, ei _ _ (r0 0), kif_pos w2, (rM0 _ J).1]
    · by_cases f : nn (I 41 0 14) = 200
      · have ef : I 41 0 14 = 200 := by have e := h14.1; rw [f] at e; exact e
        have eF : F_X2_isFull 0 I J = 1 := by
          unfold F_X2_isFull
          rw [i25, ef, kif_neg (by decide)]
        have c1 := cs_X10_ship a b I J (-106, rfC 4 I, J) (by unfold E_X10_ship; rw [F_within a, kif_neg w, F_within b, kif_neg w2, eF, kif_neg z1, kif_pos (rC4 I J).2, (rC4 I J).1])
        have c2 := cs_X11_ship a b (rfC 4 I) J (by unfold pre_X11_ship; rw [in_3_7, kif_neg w, l0, ei _ _ (r0 4), kif_neg w2, l14, r14, kif_pos ef]; exact ⟨v0, v0, v14, (rM4 _ J).2, trivial⟩)
        refine MM_f c1 rfl c2 ?_ (Inv_ref' h 4 (by omega))
        unfold F_X11_ship
        rw [in_3_7, kif_neg w, l0, ei _ _ (r0 4), kif_neg w2, l14, r14, kif_pos ef, (rM4 _ J).1]
      · have nf : ¬ I 41 0 14 = 200 := fun z => f (by rw [z]; exact nn_nI (n := 200) (by omega))
        have eF : F_X2_isFull 0 I J = 0 := by
          unfold F_X2_isFull
          rw [i25, h14.1, kif_pos]
          show nI _ < nI 200
          rw [i_lt (by omega) (by omega)]
          omega
        obtain ⟨k, hk3, hk7, rfl⟩ := in_yes (lo := 3) (hi := 7) (by omega) (by omega) w
        have e999 : I 6 0 4 + 999 = nI (nn (I 41 0 0) + 999) := by
          rw [i4]
          have q : nI (nn (I 41 0 0)) + nI 999 = nI (nn (I 41 0 0) + 999) := nI_add _ _
          rw [← h0.1] at q
          exact q
        have w2' := w2
        have e4 : I 6 0 4 = nI (nn (I 41 0 0)) := by rw [i4]; exact h0.1
        rw [e999, e4] at w2'
        obtain ⟨hh, hh1, hh2, rfl⟩ := in_yes (lo := nn (I 41 0 0)) (hi := nn (I 41 0 0) + 999) (by omega) (by omega) w2'
        obtain ⟨I1, e1, d1, f1⟩ := X_expect J hg hc (k := k) (h := hh) hk3 hk7 (by omega) (by omega)
        have c1 := cs_X10_ship (nI k) (nI hh) I J _ (by unfold E_X10_ship; rw [F_within (nI k), kif_neg w, F_within (nI hh), kif_neg w2, eF, kif_pos rfl, kbd_eq e1])
        have k41 : I1 41 0 = I 41 0 := funext fun j => f1 _ _ _ (by unfold cwt; omega)
        have ec := E_comesShip (I := I1) J k hh (by rw [k41]; exact h14) (by rw [k41]; omega)
        rw [k41] at ec
        have k0 : I1 41 0 0 = I 41 0 0 := by rw [k41]
        have k14 : I1 41 0 14 = I 41 0 14 := by rw [k41]
        have c2 := cs_X11_ship (nI k) (nI hh) I1 J (by unfold pre_X11_ship; rw [in_3_7, kif_neg w, l0, ei _ _ k0, kif_neg w2, l14, k14, kif_neg nf]; exact ⟨v0, v0, v14, ec.2, trivial⟩)
        refine MM_f (I2 := kx_uA I1 41 0 (shG (I 41 0) k hh)) (J2 := J) c1 rfl c2 ?_ ?_
        · unfold F_X11_ship
          rw [in_3_7, kif_neg w, l0, ei _ _ k0, kif_neg w2, l14, k14, kif_neg nf, ec.1]
        · exact Inv_pass h (by omega) f1 d1 (kx_self _ _ _ _) (oth_uA _ _) (WG_mono (WG_ship hg hk3 hk7 hh1 (by omega) (by omega)) (by omega)) (by rw [shG_14, nn_nI (by omega)]; omega)
/-! draws -/
def sd (x : Int32) : Int32 := x * (1103515245 : Int32) + (12345 : Int32)
def dv (x n : Int32) : Int32 := (x.toUInt32 >>> (((16 : Int32)).toUInt32 &&& Int32.toUInt32 31)).toInt32 - (x.toUInt32 >>> (((16 : Int32)).toUInt32 &&& Int32.toUInt32 31)).toInt32 / n * n
theorem sh16 (x : Int32) : ∃ k, k < 65536 ∧ (x.toUInt32 >>> (((16 : Int32)).toUInt32 &&& Int32.toUInt32 31)).toInt32 = nI k := by
  have e : (((16 : Int32)).toUInt32 &&& Int32.toUInt32 31) = 16 := by decide
  rw [e]
  have h : (x.toUInt32 >>> 16).toNat = x.toUInt32.toNat / 65536 := by
    rw [UInt32.toNat_shiftRight]
    show x.toUInt32.toNat >>> 16 = _
    rw [Nat.shiftRight_eq_div_pow]
  have h2 : x.toUInt32.toNat < 4294967296 := x.toUInt32.toNat_lt
  refine ⟨(x.toUInt32 >>> 16).toNat, by omega, ?_⟩
  rw [← Int32.toInt_inj, iz_nI (by omega)]
  show (x.toUInt32 >>> 16).toBitVec.toInt = _
  rw [BitVec.toInt_eq_toNat_of_lt (by show 2 * (x.toUInt32 >>> 16).toNat < 4294967296; omega)]
  rfl
theorem dv_rg (x : Int32) (n : Nat) (h0 : 0 < n) (hn : n < 2147483648) : ∃ k, k < n ∧ dv x (nI n) = nI k := by
  obtain ⟨k, hk, e⟩ := sh16 x
  refine ⟨k % n, Nat.mod_lt _ h0, ?_⟩
  unfold dv
  rw [e]
  exact iz_modN (by omega) h0 hn
theorem C_draw (n : Int32) (hn : ¬ n ≤ 0) (I : kI) (J : kJ) : F_X9_draw 0 n I J = (dv (sd (I 9 0 5)) n, kw I 9 0 5 (sd (I 9 0 5)), J) ∧ pre_X9_draw 0 n I J := by
  unfold F_X9_draw pre_X9_draw
  rw [kif_neg hn, kif_neg hn, kw_app, if_pos ⟨rfl, rfl, rfl⟩]
  refine ⟨rfl, fun q => hn (by rw [q]; decide), trivial⟩
theorem R_draw (n : Int32) (hn : ¬ n ≤ 0) (I : kI) (J : kJ) : F_X11_draw n I J = (dv (sd (I 41 0 19)) n, kw I 41 0 19 (sd (I 41 0 19)), J) ∧ pre_X11_draw n I J := by
  have l19 : ((19 : Int32)).toNatClampNeg = 19 := rfl
  have v19 : vp_in (19 : Int32) 2509 := vl 19 2509 (by omega) (by omega)
  unfold F_X11_draw pre_X11_draw
  rw [l19, kw_app, if_pos ⟨rfl, rfl, rfl⟩]
  exact ⟨rfl, v19, v19, v19, fun q => hn (by rw [q]; decide), trivial⟩
theorem WG_seed {g : Nat → Int32} {N : Nat} (hg : WG g N) (a : Int32) : WG (upd g 19 a) N := WG_sc hg (fun j h1 h2 h3 => by rw [upd_app, if_neg (by omega)]) (by rw [upd_app, if_neg (by omega)]) (WP_upd hg.2.2.2.2.2.1 (by omega) (by omega)) (WO_upd hg.2.2.2.2.2.2.1 (by omega))
theorem CW_seed {I : kI} {g : Nat → Int32} {N : Nat} (hg : WG g N) (hc : CW I 0 g) (a : Int32) : CW (kw I 9 0 5 a) 0 (upd g 19 a) := by
  refine CW_sc hg hc (fun t j h1 h2 h3 h4 h5 => kw_at _ _ (by omega)) (fun j h1 h2 h3 => by rw [upd_app, if_neg (by omega)]) (fun j hj => ?_) (fun j hj => ?_) ?_ (fun i hi => ?_) ?_ ?_ ?_
  · rw [kw_at _ _ (by omega), upd_app, if_neg (by omega)]; exact hc.1.1 j hj
  · rw [kw_at _ _ (by omega), upd_app, if_neg (by omega)]; exact hc.1.2.1 j hj
  · rw [kw_at _ _ (by omega), upd_app, if_neg (by omega)]; exact hc.1.2.2.1
  · rw [kw_at _ _ (by omega), upd_app, if_neg (by omega)]; exact hc.1.2.2.2.2.2.2.2.2 i hi
  · rw [kw_at _ _ (by omega), upd_app, if_neg (by omega)]; exact hc.2.2.2.1
  · rw [kw_at _ _ (by omega), upd_app, if_neg (by omega)]; exact hc.2.2.2.2.1
  · rw [kw_app, if_pos ⟨rfl, rfl, rfl⟩, upd_app, if_pos rfl]
/-- one day by draws -/
theorem dayS {I : kI} {g : Nat → Int32} {N : Nat} (J : kJ) (hN : N < 900000) (hg : WG g N) (hc : CW I 0 g) (a : Int32) : ∃ g' I', E_X9_passDay 0 I J = some (I', J) ∧ CW I' 0 g' ∧ (∀ t o j, ¬ (o = 0 ∧ cwt t) → I' t o j = I t o j) ∧ WG g' (N + 1) ∧ nn (g 14) ≤ nn (g' 14) ∧ ∀ (K : kI) (v2 v3 : Int32) (m : Nat), K 41 0 = g → ¬ a ≤ v3 → ∃ K' m', m ≤ m' ∧ K' 41 0 = g' ∧ oth K K' ∧ G_X11_days a (m + 5) 23 v2 v3 0 0 0 0 0 K J = G_X11_days a m' 23 (v2 + (g' 16 - g 16)) (v3 + 1) 0 0 0 0 0 K' J := by
  have n3 : ¬ (3 : Int32) ≤ 0 := by decide
  have n5 : ¬ (5 : Int32) ≤ 0 := by decide
  have n24 : ¬ (24 : Int32) ≤ 0 := by decide
  have u3 := hc.2.2.2.2.2
  have h14 := hg.2.2.2.1
  have h142 := h14.2
  have l14 : ((14 : Int32)).toNatClampNeg = 14 := rfl
  have v14 : vp_in (14 : Int32) 2509 := vl 14 2509 (by omega) (by omega)
  have l0 : ((0 : Int32)).toNatClampNeg = 0 := rfl
  have v0 : vp_in (0 : Int32) 2509 := vl 0 2509 (by omega) (by omega)
  have z1 : ¬ (1 : Int32) = 0 := by decide
  obtain ⟨I1, hI1⟩ : ∃ I1, I1 = kw I 9 0 5 (sd (g 19)) := ⟨_, rfl⟩
  obtain ⟨g1, hg1⟩ : ∃ g1, g1 = upd g 19 (sd (g 19)) := ⟨_, rfl⟩
  have dC := C_draw 3 n3 I J
  rw [u3, ← hI1] at dC
  have w1 : WG g1 N := by rw [hg1]; exact WG_seed hg _
  have c1 : CW I1 0 g1 := by rw [hI1, hg1]; exact CW_seed hg hc _
  have fr1 : ∀ t o j, ¬ (o = 0 ∧ cwt t) → I1 t o j = I t o j := fun t o j q => by rw [hI1, kw_at _ _ (by unfold cwt at q; omega)]
  have g114 : g1 14 = g 14 := by rw [hg1, upd_app, if_neg (by omega)]
  have g116 : g1 16 = g 16 := by rw [hg1, upd_app, if_neg (by omega)]
  have m1 : ∀ K : kI, K 41 0 = g → F_X11_draw 3 K J = (dv (sd (g 19)) 3, kx_uA K 41 0 g1, J) ∧ pre_X11_draw 3 K J := fun K hK => by
    have e := R_draw 3 n3 K J
    have e2 : kw K 41 0 19 (sd (g 19)) = kx_uA K 41 0 g1 := by unfold kw; rw [hK, hg1]
    rw [hK, e2] at e
    exact e
  have ifull : ∀ J, F_X2_isFull 0 I1 J = kif (nn (g 14) < 200) 0 1 := fun J => by
    obtain ⟨p, hF, _⟩ := c1.2.1
    unfold F_X2_isFull
    rw [hF.2.1, g114]
    refine kif_prop ?_
    show nI _ < nI 200 ↔ _
    rw [i_lt (by omega) (by omega)]
  have m200 : ((200 : Int32) ≤ g 14) ↔ ¬ nn (g 14) < 200 := by
    have e := h14.1
    rw [e, nn_nI (by omega)]
    show nI 200 ≤ nI _ ↔ _
    rw [i_le (by omega) (by omega)]
    omega
  have plain : (F_X9_draw 0 3 I J = (dv (sd (g 19)) 3, I1, J) → E_X9_passDay 0 I J = kbd (E_X9_passHour 0 I1 J) (fun q1 => some (q1.1, q1.2))) → (∀ (K : kI) (v2 v3 : Int32) (m : Nat), K 41 0 = g → ¬ a ≤ v3 → G_X11_days a (m + 5) 23 v2 v3 0 0 0 0 0 K J = kbd (E_X11_passes (1 : Int32) (kx_uA K 41 0 g1) J) (fun q2 => G_X11_days a (m + 3) 23 (v2 + q2.1) (v3 + 1) 0 0 0 0 0 q2.2.1 q2.2.2)) → ∃ g' I', E_X9_passDay 0 I J = some (I', J) ∧ CW I' 0 g' ∧ (∀ t o j, ¬ (o = 0 ∧ cwt t) → I' t o j = I t o j) ∧ WG g' (N + 1) ∧ nn (g 14) ≤ nn (g' 14) ∧ ∀ (K : kI) (v2 v3 : Int32) (m : Nat), K 41 0 = g → ¬ a ≤ v3 → ∃ K' m', m ≤ m' ∧ K' 41 0 = g' ∧ oth K K' ∧ G_X11_days a (m + 5) 23 v2 v3 0 0 0 0 0 K J = G_X11_days a m' 23 (v2 + (g' 16 - g 16)) (v3 + 1) 0 0 0 0 0 K' J := by
    intro p1 p2
    obtain ⟨I2, e2, d2, f2⟩ := C_hour (show N < 1000000 by omega) I1 J w1 c1
    refine ⟨H g1, I2, ?_, d2, fun t o j q => (f2 t o j (fun z => q ⟨z.1, w_cwt z.2⟩)).trans (fr1 t o j q), hG_ok (by omega) w1, by rw [H_14, g114]; exact Nat.le_refl _, fun K v2 v3 m hK hv => ?_⟩
    · rw [p1 dC.1, kbd_eq e2]
    · obtain ⟨K', e3, d3, f3⟩ := E_passes J 1 (by omega) (kx_uA K 41 0 g1) N (by rw [kx_self]; exact w1) (by omega)
      rw [kx_self] at e3 d3
      refine ⟨K', m + 3, by omega, d3, oth_tr (oth_uA _ _) f3, ?_⟩
      rw [p2 K v2 v3 m hK hv, kbd_eq (show E_X11_passes (1 : Int32) (kx_uA K 41 0 g1) J = _ from e3), g116]
      rfl
  by_cases d0 : dv (sd (g 19)) 3 = 0
  · by_cases nf : nn (g 14) < 200
    · obtain ⟨I2, hI2⟩ : ∃ I2, I2 = kw I1 9 0 5 (sd (g1 19)) := ⟨_, rfl⟩
      obtain ⟨g2, hg2⟩ : ∃ g2, g2 = upd g1 19 (sd (g1 19)) := ⟨_, rfl⟩
      have dC2 := C_draw 5 n5 I1 J
      rw [c1.2.2.2.2.2, ← hI2] at dC2
      have w2 : WG g2 N := by rw [hg2]; exact WG_seed w1 _
      have c2 : CW I2 0 g2 := by rw [hI2, hg2]; exact CW_seed w1 c1 _
      obtain ⟨I3, hI3⟩ : ∃ I3, I3 = kw I2 9 0 5 (sd (g2 19)) := ⟨_, rfl⟩
      obtain ⟨g3, hg3⟩ : ∃ g3, g3 = upd g2 19 (sd (g2 19)) := ⟨_, rfl⟩
      have dC3 := C_draw 24 n24 I2 J
      rw [c2.2.2.2.2.2, ← hI3] at dC3
      have w3 : WG g3 N := by rw [hg3]; exact WG_seed w2 _
      have c3 : CW I3 0 g3 := by rw [hI3, hg3]; exact CW_seed w2 c2 _
      have fr3 : ∀ t o j, ¬ (o = 0 ∧ cwt t) → I3 t o j = I t o j := fun t o j q => by rw [hI3, kw_at _ _ (by unfold cwt at q; omega), hI2, kw_at _ _ (by unfold cwt at q; omega), fr1 t o j q]
      have g2e : ∀ j, ¬ j = 19 → g2 j = g j := fun j q => by rw [hg2, upd_app, if_neg q, hg1, upd_app, if_neg q]
      have g3e : ∀ j, ¬ j = 19 → g3 j = g j := fun j q => by rw [hg3, upd_app, if_neg q, g2e j q]
      obtain ⟨k, hk, ek⟩ := dv_rg (sd (g1 19)) 5 (by omega) (by omega)
      obtain ⟨h, hh, eh⟩ := dv_rg (sd (g2 19)) 24 (by omega) (by omega)
      have ek' : dv (sd (g1 19)) (5 : Int32) = nI k := ek
      have eh' : dv (sd (g2 19)) (24 : Int32) = nI h := eh
      have h0 := hg.1
      have h02 := h0.2
      have ekk : (3 : Int32) + nI k = nI (3 + k) := nI_add 3 k
      have ehh : g 0 + nI h = nI (nn (g 0) + h) := by
        have q : nI (nn (g 0)) + nI h = nI (nn (g 0) + h) := nI_add _ _
        rw [← h0.1] at q
        exact q
      have i64 : I2 6 0 4 = g 0 := (c2.1.1 0 (by omega)).trans (g2e 0 (by omega))
      have g30 : nn (g3 0) = nn (g 0) := by rw [g3e 0 (by omega)]
      have g314 : nn (g3 14) = nn (g 14) := by rw [g3e 14 (by omega)]
      obtain ⟨I4, e4, d4, f4⟩ := X_expect J w3 c3 (k := 3 + k) (h := nn (g 0) + h) (by omega) (by omega) (by omega) (by omega)
      have w4 := WG_ship w3 (k := 3 + k) (h := nn (g 0) + h) (by omega) (by omega) (by omega) (by omega) (by omega)
      obtain ⟨g4, hg4⟩ : ∃ g4, g4 = shG g3 (3 + k) (nn (g 0) + h) := ⟨_, rfl⟩
      rw [← hg4] at d4 w4
      obtain ⟨I5, e5, d5, f5⟩ := C_hour (show N < 1000000 by omega) I4 J w4 d4
      have g414 : g4 14 = nI (nn (g 14) + 1) := by rw [hg4, shG_14, g314]
      have g416 : g4 16 = g 16 := by rw [hg4, shG_ne _ _ _ (by omega) (by omega), g3e 16 (by omega)]
      refine ⟨H g4, I5, ?_, d5, fun t o j q => (f5 t o j (fun z => q ⟨z.1, w_cwt z.2⟩)).trans ((f4 t o j q).trans (fr3 t o j q)), hG_ok (by omega) w4, by rw [H_14, g414, nn_nI (by omega)]; omega, fun K v2 v3 m hK hv => ?_⟩
      · unfold E_X9_passDay
        rw [kif_pos dC.2, dC.1]
        dsimp only
        rw [kif_pos d0, ifull, kif_pos nf, kif_pos rfl, kif_pos dC2.2, dC2.1]
        dsimp only
        rw [kif_pos dC3.2, dC3.1]
        dsimp only
        rw [ek', ekk, i64, eh', ehh, kbd_eq e4]
        dsimp only
        rw [kbd_eq e5]
      · have e1 := m1 K hK
        have a14 : (kx_uA K 41 0 g1) 41 0 14 = g 14 := by rw [kx_self, g114]
        have r2 := R_draw 5 n5 (kx_uA K 41 0 g1) J
        have q2 : kw (kx_uA K 41 0 g1) 41 0 19 (sd (g1 19)) = kx_uA K 41 0 g2 := by rw [kw_uA, hg2]
        rw [kx_self, q2] at r2
        have r3 := R_draw 24 n24 (kx_uA K 41 0 g2) J
        have q3 : kw (kx_uA K 41 0 g2) 41 0 19 (sd (g2 19)) = kx_uA K 41 0 g3 := by rw [kw_uA, hg3]
        rw [kx_self, q3] at r3
        have r4 := E_comesShip (I := kx_uA K 41 0 g3) J (3 + k) (nn (g 0) + h) (by rw [kx_self]; exact w3.2.2.2.1) (by rw [kx_self]; omega)
        have eu : ∀ f f2 : Nat → Int32, kx_uA (kx_uA K 41 0 f) 41 0 f2 = kx_uA K 41 0 f2 := fun f f2 => kI_ext fun t2 o2 j => by
          simp only [kx_uA_app]
          split <;> rfl
        rw [kx_self, eu, ← hg4] at r4
        have b0 : (kx_uA K 41 0 g2) 41 0 0 = g 0 := by rw [kx_self, g2e 0 (by omega)]
        obtain ⟨K', e9, d9, f9⟩ := E_passes J 1 (by omega) (kx_uA K 41 0 g4) N (by rw [kx_self]; exact w4) (by omega)
        rw [kx_self] at e9 d9
        refine ⟨K', m, Nat.le_refl _, d9, oth_tr (oth_uA _ _) f9, ?_⟩
        rw [G_X11_days_23, kif_neg hv, kif_pos e1.2, e1.1]
        dsimp only
        rw [G_X11_days_33, kif_pos d0, kif_pos v14, l14, a14, kif_neg (fun z => (m200.mp z) nf), kif_pos r2.2, r2.1]
        dsimp only
        rw [ek', ekk, G_X11_days_58, kif_pos v0, l0, b0, kif_pos r3.2, r3.1]
        dsimp only
        rw [eh', G_X11_days_73, ehh, kif_pos r4.2, r4.1]
        dsimp only
        rw [G_X11_days_77, kbd_eq (show E_X11_passes (1 : Int32) (kx_uA K 41 0 g4) J = _ from e9), g416]
        rfl
    · refine plain (fun _ => ?_) (fun K v2 v3 m hK hv => ?_)
      · unfold E_X9_passDay
        rw [kif_pos dC.2, dC.1]
        dsimp only
        rw [kif_pos d0, ifull, kif_neg nf, kif_neg z1]
      · have e1 := m1 K hK
        have a14 : (kx_uA K 41 0 g1) 41 0 14 = g 14 := by rw [kx_self, g114]
        rw [G_X11_days_23, kif_neg hv, kif_pos e1.2, e1.1]
        dsimp only
        rw [G_X11_days_33, kif_pos d0, kif_pos v14, l14, a14, kif_pos (m200.mpr nf)]
  · refine plain (fun _ => ?_) (fun K v2 v3 m hK hv => ?_)
    · unfold E_X9_passDay
      rw [kif_pos dC.2, dC.1]
      dsimp only
      rw [kif_neg d0]
    · have e1 := m1 K hK
      rw [G_X11_days_23, kif_neg hv, kif_pos e1.2, e1.1]
      dsimp only
      rw [G_X11_days_33, kif_neg d0]
theorem g_days (J : kJ) (t : Nat) (ht : t ≤ 1000) (v2 : Int32) : ∀ n i m m' (I K : kI) (g : Nat → Int32) (N : Nat) (w : Int32), i + n = t → n + 1 ≤ m → 5 * n + 1 ≤ m' → WG g N → N + n ≤ 890000 → CW I 0 g → K 41 0 = g → w = g 16 - v2 → ∃ g' I' K', G_X10_days (nI t) m 27 v2 (nI i) I J = some (g' 16 - v2, I', J) ∧ CW I' 0 g' ∧ (∀ t o j, ¬ (o = 0 ∧ cwt t) → I' t o j = I t o j) ∧ WG g' (N + n) ∧ nn (g 14) ≤ nn (g' 14) ∧ G_X11_days (nI t) m' 23 w (nI i) 0 0 0 0 0 K J = some (g' 16 - v2, K', J) ∧ K' 41 0 = g' ∧ oth K K' := by
  intro n
  induction n with
  | zero =>
    intro i m m' I K g N w hi hm hm' hg hN hc hK hw
    obtain ⟨m, rfl⟩ : ∃ x, m = x + 1 := ⟨m - 1, by omega⟩
    obtain ⟨m', rfl⟩ : ∃ x, m' = x + 1 := ⟨m' - 1, by omega⟩
    have le : nI t ≤ nI i := by rw [i_le (by omega) (by omega)]; omega
    refine ⟨g, I, K, ?_, hc, fun _ _ _ _ => rfl, hg, Nat.le_refl _, ?_, hK, oth_rf K⟩
    · rw [G_X10_days_27, kif_pos le, hc.2.2.2.1]
    · rw [G_X11_days_23, kif_pos le, hw]
  | succ n ih =>
    intro i m m' I K g N w hi hm hm' hg hN hc hK hw
    obtain ⟨m, rfl⟩ : ∃ x, m = x + 1 := ⟨m - 1, by omega⟩
    obtain ⟨m', rfl⟩ : ∃ x, m' = x + 5 := ⟨m' - 5, by omega⟩
    have nle : ¬ nI t ≤ nI i := by rw [i_le (by omega) (by omega)]; omega
    obtain ⟨g1, I1, e1, c1, f1, w1, k1, md⟩ := dayS J (show N < 900000 by omega) hg hc (nI t)
    obtain ⟨K1, x, hx, d1, o1, em⟩ := md K w (nI i) m' hK nle
    obtain ⟨g', I', K', e2, c2, f2, w2, k2, e3, d3, o3⟩ := ih (i + 1) m x I1 K1 g1 (N + 1) (w + (g1 16 - g 16)) (by omega) (by omega) (by omega) w1 (by omega) c1 d1 (by
      rw [hw]
      have z : ∀ a b c : Int32, a - b + (c - a) = c - b := fun a b c => by grind
      exact z _ _ _)
    rw [← nI_1] at e2 e3
    refine ⟨g', I', K', ?_, c2, fun t o j q => (f2 t o j q).trans (f1 t o j q), ?_, Nat.le_trans k1 k2, ?_, d3, oth_tr o1 o3⟩
    · rw [G_X10_days_27, kif_neg nle, kbd_eq e1]
      exact e2
    · rw [show N + (n + 1) = N + 1 + n by omega]; exact w2
    · rw [em]
      exact e3
theorem mm_days {N : Nat} (hN : N < 800000) {I : kI} {J : kJ} (h : Inv N I J) (a : Int32) : MM sp_X10_days sp_X11_days [kx_i a] N I J := by
  by_cases w : (if a < 1 then (0 : Int32) else if 60 < a then 0 else 1) = 0
  · have c1 := cs_X10_days a I J (-102, rfC 0 I, J) (by unfold E_X10_days; rw [F_within, kif_pos w, kif_pos (rC0 I J).2, (rC0 I J).1])
    have c2 := cs_X11_days a (rfC 0 I) J (-102, rfM 0 (rfC 0 I), J) (by unfold E_X11_days; rw [in_1_60, kif_pos w, kif_pos (rM0 _ J).2, (rM0 _ J).1])
    exact ref_both h c1 rfl c2 rfl
  · obtain ⟨t, _, ht, rfl⟩ := in_yes (lo := 1) (hi := 60) (by omega) (by omega) w
    have u1 := h.2.1.2.2.2.1
    have z : (0 : Int32) = I 41 0 16 - I 9 0 3 := by rw [u1]; exact (Int32.sub_self _).symm
    obtain ⟨g1, I1, _, e1, c1, f1, _, _, _, _, _⟩ := g_days J t (by omega) (I 9 0 3) t 0 kfu kfu I I (I 41 0) N 0 (by omega) (by unfold kfu; omega) (by unfold kfu; omega) h.1 (by omega) h.2.1 rfl z
    have k41 : I1 41 0 = I 41 0 := funext fun j => f1 _ _ _ (by unfold cwt; omega)
    obtain ⟨g2, I2, K2, e2, c2, f2, w2, k2, e3, d3, o3⟩ := g_days J t (by omega) (I 9 0 3) t 0 kfu kfu I I1 (I 41 0) N 0 (by omega) (by unfold kfu; omega) (by unfold kfu; omega) h.1 (by omega) h.2.1 k41 z
    have same := e1.symm.trans e2
    have i12 : I1 = I2 := congrArg (fun q : Int32 × kI × kJ => q.2.1) (Option.some.inj same)
    rw [← i12] at e2 c2 f2
    have c1' := cs_X10_days (nI t) I J _ (by unfold E_X10_days; rw [F_within, kif_neg w]; exact e2)
    have c2' := cs_X11_days (nI t) I1 J _ (by unfold E_X11_days; rw [in_1_60, kif_neg w]; exact e3)
    exact MM_f c1' rfl c2' rfl (Inv_pass h (by omega) f2 c2 d3 o3 (WG_mono w2 (by omega)) k2)

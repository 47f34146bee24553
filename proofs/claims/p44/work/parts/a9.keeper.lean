/-! the station changes, ships and log don't; keeper -/
theorem CW_S {I I' : kI} {o : Nat} {g g' : Nat → Int32} (h : CW I o g) (hS : CS I' o g') (hI : ∀ t j, (t = 2 ∨ t = 3 ∨ t = 9 ∨ (25 ≤ t ∧ t ≤ 33)) → I' t o j = I t o j) (hq : ∀ j, (j = 14 ∨ j = 15 ∨ j = 16 ∨ j = 17 ∨ j = 19 ∨ 109 ≤ j) → g' j = g j) : CW I' o g' := by
  obtain ⟨_, ⟨p, hF, hfm⟩, hL, u1, u2, u3⟩ := h
  have c14 : g' 14 = g 14 := hq _ (by omega)
  have c15 : g' 15 = g 15 := hq _ (by omega)
  have hgk : gk g' = gk g := funext fun s => by unfold gk; rw [hq _ (by omega)]
  have hgh : gh g' = gh g := funext fun s => by unfold gh; rw [hq _ (by omega)]
  refine ⟨hS, ⟨p, ?_, fun s hs => ?_⟩, ⟨?_, fun e he => ?_⟩, ?_, ?_, ?_⟩
  · rw [c14, hgk, hgh]
    exact FL_congr hF (hI _ _ (by omega)) (fun _ => hI _ _ (by omega)) (fun _ => hI _ _ (by omega)) (fun _ => hI _ _ (by omega))
  · rw [c14] at hs
    rw [hI _ _ (by omega), hI _ _ (by omega), hq _ (by omega), hq _ (by omega)]
    exact hfm s hs
  · rw [hI _ _ (by omega), c15]; exact hL.1
  · rw [c15] at he
    rw [hI _ _ (by omega), hI _ _ (by omega), hI _ _ (by omega), hI _ _ (by omega), hq _ (by omega), hq _ (by omega), hq _ (by omega), hq _ (by omega)]
    exact hL.2 e he
  · rw [hI _ _ (by omega), hq _ (by omega)]; exact u1
  · rw [hI _ _ (by omega), hq _ (by omega)]; exact u2
  · rw [hI _ _ (by omega), hq _ (by omega)]; exact u3
theorem WG_S {g g' : Nat → Int32} {N : Nat} (h : WG g N) (h0 : g' 0 = g 0) (hq : ∀ j, (j = 14 ∨ j = 15 ∨ 109 ≤ j) → g' j = g j) (h12 : rg (g' 12) 20) (h13 : rg (g' 13) 6) (hS : WS g') (hP : WP g') (hO : WO g') : WG g' N := by
  obtain ⟨q0, _, _, q14, _, _, _, hK, hF, hL⟩ := h
  have c14 : g' 14 = g 14 := hq _ (by omega)
  refine ⟨by rw [h0]; exact q0, h12, h13, by rw [c14]; exact q14, hS, hP, hO, ?_, ?_, ?_⟩
  · unfold WK
    rw [c14]
    intro s hs
    rw [hq _ (by omega), hq _ (by omega)]
    exact hK s hs
  · unfold WF
    rw [c14, h0]
    intro s hs
    rw [hq _ (by omega), hq _ (by omega), hq _ (by omega)]
    exact hF s hs
  · rw [h0]
    exact WLb_LQ hL (fun j hj => hq j (by omega))
def kpC (I : kI) (k : Nat) (r : Int32) (l : Int32) : kI := kw (kw (kw (kw (kw (kw I 20 0 k r) 21 0 k l) 22 0 k 0) 23 0 k 0) 24 0 k 0) 1 0 5 (nI (k + 1))
def kpG (g : Nat → Int32) (k : Nat) (r : Int32) : Nat → Int32 := upd (upd (upd (upd (upd g (61 + 4 * k) r) (61 + 4 * k + 1) 0) (61 + 4 * k + 2) 0) (61 + 4 * k + 3) 0) 13 (nI (k + 1))
theorem kpC_ne (I : kI) (k : Nat) (r l : Int32) {t o j : Nat} (h : ¬ (o = 0 ∧ ((t = 1 ∧ j = 5) ∨ (20 ≤ t ∧ t < 25 ∧ j = k)))) : kpC I k r l t o j = I t o j := by
  unfold kpC
  rw [kw_at _ _ (by omega), kw_at _ _ (by omega), kw_at _ _ (by omega), kw_at _ _ (by omega), kw_at _ _ (by omega), kw_at _ _ (by omega)]
theorem kpG_ne (g : Nat → Int32) (k : Nat) (r : Int32) {j : Nat} (h13 : ¬ j = 13) (h : ¬ (61 + 4 * k ≤ j ∧ j < 65 + 4 * k)) : kpG g k r j = g j := by
  unfold kpG
  rw [upd_app, if_neg h13, upd_app, if_neg (by omega), upd_app, if_neg (by omega), upd_app, if_neg (by omega), upd_app, if_neg (by omega)]
theorem kpG_13 (g : Nat → Int32) (k : Nat) (r : Int32) : kpG g k r 13 = nI (k + 1) := by unfold kpG; rw [upd_app, if_pos rfl]
theorem kpG_k (g : Nat → Int32) (k : Nat) (r : Int32) : kpG g k r (61 + 4 * k) = r ∧ kpG g k r (61 + 4 * k + 1) = 0 ∧ kpG g k r (61 + 4 * k + 2) = 0 ∧ kpG g k r (61 + 4 * k + 3) = 0 := by
  unfold kpG
  refine ⟨?_, ?_, ?_, ?_⟩
  · rw [upd_app, if_neg (by omega), upd_app, if_neg (by omega), upd_app, if_neg (by omega), upd_app, if_neg (by omega), upd_app, if_pos rfl]
  · rw [upd_app, if_neg (by omega), upd_app, if_neg (by omega), upd_app, if_neg (by omega), upd_app, if_pos rfl]
  · rw [upd_app, if_neg (by omega), upd_app, if_neg (by omega), upd_app, if_pos rfl]
  · rw [upd_app, if_neg (by omega), upd_app, if_pos rfl]
theorem kpC_k (I : kI) (k : Nat) (r l : Int32) : kpC I k r l 20 0 k = r ∧ kpC I k r l 21 0 k = l ∧ kpC I k r l 22 0 k = 0 ∧ kpC I k r l 23 0 k = 0 ∧ kpC I k r l 24 0 k = 0 ∧ kpC I k r l 1 0 5 = nI (k + 1) := by
  unfold kpC
  refine ⟨?_, ?_, ?_, ?_, ?_, ?_⟩
  · rw [kw_at _ _ (by omega), kw_at _ _ (by omega), kw_at _ _ (by omega), kw_at _ _ (by omega), kw_at _ _ (by omega), kw_app, if_pos ⟨rfl, rfl, rfl⟩]
  · rw [kw_at _ _ (by omega), kw_at _ _ (by omega), kw_at _ _ (by omega), kw_at _ _ (by omega), kw_app, if_pos ⟨rfl, rfl, rfl⟩]
  · rw [kw_at _ _ (by omega), kw_at _ _ (by omega), kw_at _ _ (by omega), kw_app, if_pos ⟨rfl, rfl, rfl⟩]
  · rw [kw_at _ _ (by omega), kw_at _ _ (by omega), kw_app, if_pos ⟨rfl, rfl, rfl⟩]
  · rw [kw_at _ _ (by omega), kw_app, if_pos ⟨rfl, rfl, rfl⟩]
  · rw [kw_app, if_pos ⟨rfl, rfl, rfl⟩]
theorem CS_keeper {I : kI} {g : Nat → Int32} {N : Nat} (hg : WG g N) (h : CS I 0 g) (hk : nn (g 13) < 6) (r : Int32) : CS (kpC I (nn (g 13)) r (12 - 3 * r)) 0 (kpG g (nn (g 13)) r) := by
  have h122 := hg.2.1.2
  obtain ⟨s1, s2, s3, s4, s5, s6, s7, s8, s9⟩ := h
  have e12 : kpG g (nn (g 13)) r 12 = g 12 := kpG_ne _ _ _ (by omega) (by omega)
  refine ⟨fun j hj => ?_, fun j hj => ?_, ?_, ?_, ?_, ?_, ?_, ?_, fun i hi => ?_⟩
  · rw [kpC_ne _ _ _ _ (by omega), kpG_ne _ _ _ (by omega) (by omega)]; exact s1 j hj
  · rw [kpC_ne _ _ _ _ (by omega), kpG_ne _ _ _ (by omega) (by omega)]; exact s2 j hj
  · rw [kpC_ne _ _ _ _ (by omega), kpG_ne _ _ _ (by omega) (by omega)]; exact s3
  · rw [kpC_ne _ _ _ _ (by omega), e12]; exact s4
  · rw [kpC_ne _ _ _ _ (by omega), e12, s5]
    refine congrArg nI (lsum_congr _ _ (fun x _ hx => ?_))
    show nn _ = nn _
    rw [kpG_ne _ _ _ (by omega) (by omega)]
  · rw [e12]
    intro x hx
    rw [kpC_ne _ _ _ _ (by omega), kpC_ne _ _ _ _ (by omega), kpG_ne _ _ _ (by omega) (by omega), kpG_ne _ _ _ (by omega) (by omega)]
    exact s6 x hx
  · rw [(kpC_k _ _ _ _).2.2.2.2.2, kpG_13]
  · rw [kpG_13, nn_nI (by omega)]
    intro i hi
    by_cases q : i = nn (g 13)
    · subst q
      obtain ⟨a0, a1, a2, a3, a4, _⟩ := kpC_k I (nn (g 13)) r (12 - 3 * r)
      obtain ⟨b0, b1, b2, b3⟩ := kpG_k g (nn (g 13)) r
      rw [a0, a1, a2, a3, a4, b0, b1, b2, b3]
      exact ⟨rfl, rfl, rfl, rfl, rfl⟩
    · rw [kpC_ne _ _ _ _ (by omega), kpC_ne _ _ _ _ (by omega), kpC_ne _ _ _ _ (by omega), kpC_ne _ _ _ _ (by omega), kpC_ne _ _ _ _ (by omega), kpG_ne _ _ _ (by omega) (by omega), kpG_ne _ _ _ (by omega) (by omega), kpG_ne _ _ _ (by omega) (by omega), kpG_ne _ _ _ (by omega) (by omega)]
      exact s8 i (by omega)
  · rw [kpC_ne _ _ _ _ (by omega), kpG_ne _ _ _ (by omega) (by omega)]; exact s9 i hi
theorem WG_keeper {g : Nat → Int32} {N : Nat} (hg : WG g N) (hk : nn (g 13) < 6) (r : Int32) : WG (kpG g (nn (g 13)) r) N := by
  have h122 := hg.2.1.2
  have e12 : kpG g (nn (g 13)) r 12 = g 12 := kpG_ne _ _ _ (by omega) (by omega)
  refine WG_S hg (kpG_ne _ _ _ (by omega) (by omega)) (fun j hj => kpG_ne _ _ _ (by omega) (by omega)) (by rw [e12]; exact hg.2.1) (by rw [kpG_13]; exact rg_nI (by omega) (by omega)) ?_ ?_ ?_
  · unfold WS
    rw [e12]
    intro i hi
    rw [kpG_ne _ _ _ (by omega) (by omega), kpG_ne _ _ _ (by omega) (by omega)]
    exact hg.2.2.2.2.1 i hi
  · unfold WP
    rw [kpG_13, nn_nI (by omega)]
    intro i hi
    rw [kpG_ne _ _ _ (by omega) (by omega)]
    rcases hg.2.2.2.2.2.1 i hi with e | ⟨j, h1, h2⟩
    · exact Or.inl e
    · exact Or.inr ⟨j, by omega, h2⟩
  · unfold WO
    rw [kpG_ne _ _ _ (by omega) (by omega), kpG_ne _ _ _ (by omega) (by omega), kpG_ne _ _ _ (by omega) (by omega), kpG_ne _ _ _ (by omega) (by omega), kpG_ne _ _ _ (by omega) (by omega), kpG_ne _ _ _ (by omega) (by omega), kpG_ne _ _ _ (by omega) (by omega)]
    exact hg.2.2.2.2.2.2.1
theorem mm_keeper {N : Nat} {I : kI} {J : kJ} (h : Inv N I J) (a : Int32) : MM sp_X10_keeper sp_X11_keeper [kx_i a] N I J := by
  have hg := h.1
  have h13 := hg.2.2.1
  have h132 := h13.2
  have cS := h.2.1.1
  have ic : I 1 0 5 = I 41 0 13 := cS.2.2.2.2.2.2.1
  have z1 : ¬ (1 : Int32) = 0 := by decide
  have l13 : ((13 : Int32)).toNatClampNeg = 13 := rfl
  have v13 : vp_in (13 : Int32) 2509 := vl 13 2509 (by omega) (by omega)
  by_cases w : (if a < 0 then (0 : Int32) else if 2 < a then 0 else 1) = 0
  · have c1 := cs_X10_keeper a I J (-102, rfC 0 I, J) (by unfold E_X10_keeper; rw [F_within, kif_pos w, kif_pos (rC0 I J).2, (rC0 I J).1])
    have c2 := cs_X11_keeper a (rfC 0 I) J (by unfold pre_X11_keeper; rw [in_0_2, kif_pos w]; exact ⟨(rM0 _ J).2, trivial⟩)
    refine ref_both h c1 rfl c2 ?_
    unfold F_X11_keeper
    rw [in_0_2, kif_pos w, (rM0 _ J).1]
  · by_cases f : nn (I 41 0 13) = 6
    · have e13 : I 41 0 13 = 6 := by have e := h13.1; rw [f] at e; exact e
      have eF : F_X1_isFull 0 I J = 1 := by
        unfold F_X1_isFull
        rw [ic, e13, kif_neg (by decide)]
      have r13 : (rfC 4 I) 41 0 13 = 6 := by rw [rfC_41]; exact e13
      have c1 := cs_X10_keeper a I J (-106, rfC 4 I, J) (by unfold E_X10_keeper; rw [F_within, kif_neg w, eF, kif_neg z1, kif_pos (rC4 I J).2, (rC4 I J).1])
      have c2 := cs_X11_keeper a (rfC 4 I) J (by unfold pre_X11_keeper; rw [in_0_2, kif_neg w, l13, r13, kif_pos rfl]; exact ⟨v13, (rM4 _ J).2, trivial⟩)
      refine MM_f c1 rfl c2 ?_ (Inv_ref' h 4 (by omega))
      unfold F_X11_keeper
      rw [in_0_2, kif_neg w, l13, r13, kif_pos rfl, (rM4 _ J).1]
    · have ne : ¬ I 41 0 13 = 6 := fun z => f (by rw [z]; exact nn_nI (n := 6) (by omega))
      obtain ⟨k, hk⟩ : ∃ k, k = nn (I 41 0 13) := ⟨_, rfl⟩
      have hk6 : k < 6 := by omega
      have ek : I 41 0 13 = nI k := by rw [hk]; exact h13.1
      have ikn : I 1 0 5 = nI k := ic.trans ek
      have ck : (nI k).toNatClampNeg = k := nI_clamp (by omega)
      have vk : vp_in (nI k) 6 := vl k 6 (by omega) (by omega)
      obtain ⟨r, _, hr, rfl⟩ := in_yes (lo := 0) (hi := 2) (by omega) (by omega) w
      have el : ∀ I J, F_X1_lastsIn (nI r) I J = 12 - 3 * nI r := fun I J => by
        unfold F_X1_lastsIn
        simp only [kif_eq]
        have c : r = 0 ∨ r = 1 ∨ r = 2 := by omega
        rcases c with rfl | rfl | rfl <;> decide
      have eF : F_X1_isFull 0 I J = 0 := by
        unfold F_X1_isFull
        rw [ikn, kif_pos]
        show nI k < nI 6
        rw [i_lt (by omega) (by omega)]
        omega
      have n1 : ∀ (K : kI) (t : Nat) (v : Int32), K 1 0 5 = nI k → 20 ≤ t → (kw K t 0 k v) 1 0 5 = nI k := fun K t v hK ht => by rw [kw_at _ _ (by omega), hK]
      obtain ⟨m, hm⟩ : ∃ m, kfu = m + 1 := ⟨kfu - 1, by unfold kfu; omega⟩
      have eh : E_X1_hire 0 (nI r) I J = some (nI k, kpC I k (nI r) (12 - 3 * nI r), J) := by
        unfold E_X1_hire
        have b1 := n1 I 20 (nI r) ikn (by omega)
        have b2 := n1 _ 21 (12 - 3 * nI r) b1 (by omega)
        have b3 := n1 _ 22 0 b2 (by omega)
        have b4 := n1 _ 23 0 b3 (by omega)
        have b5 := n1 _ 24 0 b4 (by omega)
        rw [eF, kif_pos rfl, ikn, ck, b1, ck, el, b2, ck, b3, ck, kif_pos vk, kif_pos vk, kif_pos vk, kif_pos vk, hm, G_X1_hire_52, b4, kif_pos vk, ck, b5]
        have e6 : ∀ K : kI, kw K 1 0 5 (nI k + 1) = kw K 1 0 5 (nI (k + 1)) := fun K => by rw [nI_1]
        rw [e6]
        have e7 : kw (kw (kw (kw (kw (kw I 20 0 k (nI r)) 21 0 k (12 - 3 * nI r)) 22 0 k 0) 23 0 k 0) 24 0 k 0) 1 0 5 (nI (k + 1)) = kpC I k (nI r) (12 - 3 * nI r) := rfl
        have e8 : nI (k + 1) - 1 = nI k := by
          have q : nI (k + 1) - nI 1 = nI (k + 1 - 1) := pk_sub (by omega)
          exact q
        rw [e7, (kpC_k _ _ _ _).2.2.2.2.2, e8]
      have c1 := cs_X10_keeper (nI r) I J _ (by unfold E_X10_keeper; rw [F_within, kif_neg w, eF, kif_pos rfl, kbd_eq eh])
      obtain ⟨K, hK⟩ : ∃ K, K = kpC I k (nI r) (12 - 3 * nI r) := ⟨_, rfl⟩
      rw [← hK] at c1
      have k41 : K 41 0 = I 41 0 := funext fun j => by rw [hK]; exact kpC_ne _ _ _ _ (by omega)
      have k13 : K 41 0 13 = nI k := by rw [k41, ek]
      have hcl : ∀ b, b ≤ 3 → ((61 : Int32) + 4 * nI k + nI b).toNatClampNeg = 61 + 4 * k + b := fun b hb => ix3c (a := 61) (b := 4) (c := b) (by omega)
      have hv : ∀ b, b ≤ 3 → vp_in ((61 : Int32) + 4 * nI k + nI b) 2509 := fun b hb => ix3v (a := 61) (b := 4) (c := b) (by omega) (by omega)
      have d0 : ((61 : Int32) + 4 * nI k).toNatClampNeg = 61 + 4 * k := ix2c (a := 61) (b := 4) (by omega)
      have w0 : vp_in ((61 : Int32) + 4 * nI k) 2509 := ix2v (a := 61) (b := 4) (by omega) (by omega)
      have d1 : ((61 : Int32) + 4 * nI k + 1).toNatClampNeg = 61 + 4 * k + 1 := hcl 1 (by omega)
      have d2 : ((61 : Int32) + 4 * nI k + 2).toNatClampNeg = 61 + 4 * k + 2 := hcl 2 (by omega)
      have d3 : ((61 : Int32) + 4 * nI k + 3).toNatClampNeg = 61 + 4 * k + 3 := hcl 3 (by omega)
      have ne' : ¬ nI k = 6 := by rw [← ek]; exact ne
      have c2 := cs_X11_keeper (nI r) K J (by unfold pre_X11_keeper; rw [in_0_2, kif_neg w, l13, k13, kif_neg ne']; exact ⟨v13, w0, hv 1 (by omega), hv 2 (by omega), hv 3 (by omega), v13, trivial⟩)
      obtain ⟨K2, hK2⟩ : ∃ K2, K2 = kw (kw (kw (kw (kw K 41 0 (61 + 4 * k) (nI r)) 41 0 (61 + 4 * k + 1) 0) 41 0 (61 + 4 * k + 2) 0) 41 0 (61 + 4 * k + 3) 0) 41 0 13 (nI (k + 1)) := ⟨_, rfl⟩
      have e41 : K2 41 0 = kpG (I 41 0) k (nI r) := by
        rw [hK2, kw_self, kw_self, kw_self, kw_self, kw_self, k41]
        rfl
      have k2n : ∀ t o j, ¬ (t = 41 ∧ o = 0) → K2 t o j = K t o j := fun t o j q => by
        rw [hK2, kw_at _ _ (by omega), kw_at _ _ (by omega), kw_at _ _ (by omega), kw_at _ _ (by omega), kw_at _ _ (by omega)]
      have hcs := CS_keeper hg cS (by omega) (nI r)
      rw [← hk, ← hK, ] at hcs
      have hwg := WG_keeper hg (by omega) (nI r)
      rw [← hk] at hwg
      have all : ∀ t o j, ¬ t = 41 → ¬ t = 1 → ¬ (20 ≤ t ∧ t < 25) → K2 t o j = I t o j := fun t o j q1 q2 q3 => by
        rw [k2n _ _ _ (by omega), hK]
        exact kpC_ne _ _ _ _ (by omega)
      have alo : ∀ t j, K2 t 1 j = I t 1 j := fun t j => by
        rw [k2n _ _ _ (by omega), hK]
        exact kpC_ne _ _ _ _ (by omega)
      refine MM_f (I2 := K2) (J2 := J) c1 rfl c2 ?_ ?_
      · unfold F_X11_keeper
        rw [in_0_2, kif_neg w, l13, k13, kif_neg ne', d0, d1, d2, d3, nI_1, ← hK2]
      · refine Inv_w h ⟨fun t j _ => alo t j, fun s j => all _ _ _ (by omega) (by omega) (by omega), fun t j q => all _ _ _ (by omega) (by omega) (by omega), all _ _ _ (by omega) (by omega) (by omega), all _ _ _ (by omega) (by omega) (by omega), all _ _ _ (by omega) (by omega) (by omega), funext fun j => ?_⟩ (Nat.le_add_right N 200) ?_ ?_ ?_
        · rw [k2n _ _ _ (by omega), hK]
          exact kpC_ne _ _ _ _ (by omega)
        · rw [e41]
          exact WG_mono hwg (by omega)
        · rw [e41]
          refine CW_S h.2.1 (CS_congr hcs (fun t j q => k2n _ _ _ (by unfold stT at q; omega))) (fun t j q => all _ _ _ (by omega) (by omega) (by omega)) (fun j q => kpG_ne _ _ _ (by omega) (by omega))
        · rw [e41, kpG_ne _ _ _ (by omega) (by omega)]
          exact Nat.le_refl _

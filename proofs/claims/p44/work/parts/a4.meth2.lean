/-! unlit, seed, wipe, feed, tell -/
theorem mm_unlit {N : Nat} {I : kI} {J : kJ} (h : Inv N I J) : MM sp_X10_unlit sp_X11_unlit [] N I J := by
  have c1 := cs_X10_unlit I J
  have c2 := cs_X11_unlit I J ⟨vl 17 2509 (by omega) (by omega), trivial⟩
  have l17 : ((17 : Int32)).toNatClampNeg = 17 := rfl
  unfold F_X10_unlit at c1
  unfold F_X11_unlit at c2
  rw [h.2.1.2.2.2.2.1] at c1
  rw [l17] at c2
  exact MM_i c1 c2 (Inv_mono h (by omega))
theorem mm_seed {N : Nat} {I : kI} {J : kJ} (h : Inv N I J) (a : Int32) : MM sp_X10_seed sp_X11_seed [kx_i a] N I J := by
  have l19 : ((19 : Int32)).toNatClampNeg = 19 := rfl
  have v19 : vp_in (19 : Int32) 2509 := vl 19 2509 (by omega) (by omega)
  have c1 := cs_X10_seed a I J
  have c2 := cs_X11_seed a (kw I 9 0 5 a) J ⟨v19, v19, trivial⟩
  unfold F_X10_seed at c1
  unfold F_X11_seed at c2
  rw [l19] at c2
  have e : (kw I 9 0 5 a) 41 0 19 = I 9 0 5 := by rw [kw_at _ _ (by omega)]; exact h.2.1.2.2.2.2.2.symm
  rw [e] at c2
  dsimp only at c1 c2
  refine MM_i c1 c2 ?_
  have hg := h.1
  have hc := h.2.1
  refine Inv_w h (kk_sam I a a (by omega)) (by omega) ?_ ?_ ?_
  · rw [kk_41 _ _ _ (by omega)]
    refine WG_sc (WG_mono hg (by omega)) (fun j h1 h2 h3 => by rw [upd_app, if_neg (by omega)]) (by rw [upd_app, if_neg (by omega)]) (fun i hi => ?_) ?_
    · rw [upd_app, if_neg (by omega), upd_app, if_neg (by omega)]; exact hg.2.2.2.2.2.1 i hi
    · exact hg.2.2.2.2.2.2.1
  · rw [kk_41 _ _ _ (by omega)]
    refine CW_sc hg hc (fun t j h1 h2 h3 h4 h5 => by unfold cwt at h1; exact kk_at _ _ _ (by omega) (by omega)) (fun j h1 h2 h3 => by rw [upd_app, if_neg (by omega)]) (fun j hj => ?_) (fun j hj => ?_) ?_ (fun i hi => ?_) ?_ ?_ ?_
    · rw [kk_at _ _ _ (by omega) (by omega), upd_app, if_neg (by omega)]; exact hc.1.1 j hj
    · rw [kk_at _ _ _ (by omega) (by omega), upd_app, if_neg (by omega)]; exact hc.1.2.1 j hj
    · rw [kk_at _ _ _ (by omega) (by omega), upd_app, if_neg (by omega)]; exact hc.1.2.2.1
    · rw [kk_at _ _ _ (by omega) (by omega), upd_app, if_neg (by omega)]; exact hc.1.2.2.2.2.2.2.2.2 i hi
    · rw [kk_at _ _ _ (by omega) (by omega), upd_app, if_neg (by omega)]; exact hc.2.2.2.1
    · rw [kk_at _ _ _ (by omega) (by omega), upd_app, if_neg (by omega)]; exact hc.2.2.2.2.1
    · rw [kw_at _ _ (by omega), kw_app, if_pos ⟨rfl, rfl, rfl⟩, upd_app, if_pos rfl]
  · rw [kk_41 _ _ _ (by omega), upd_app, if_neg (by omega)]
    exact Nat.le_refl _
/-- the tape changes -/
theorem Inv_tape {N : Nat} {I I' : kI} {J : kJ} (h : Inv N I J) (hq : ∀ t o j, ¬ t = 7 → ¬ t = 38 → ¬ t = 43 → ¬ (t = 11 ∧ j = 9) → I' t o j = I t o j) (hT : IT I') : Inv (N + 200) I' J := by
  obtain ⟨h1, h2, h3, h4, h5, h6, h7⟩ := Inv_mono h (Nat.le_add_right N 200)
  have e41 : ∀ o, I' 41 o = I 41 o := fun o => funext fun j => hq _ _ _ (by omega) (by omega) (by omega) (by omega)
  have cw : ∀ {o : Nat} {g : Nat → Int32}, CW I o g → CW I' o g := fun z => CW_congr z (fun t j a => by unfold cwt at a; exact hq _ _ _ (by omega) (by omega) (by omega) (by omega))
  refine ⟨by rw [e41]; exact h1, by rw [e41]; exact cw h2, ?_, fun s hs => ?_, hT, fun j hj => by rw [hq _ _ _ (by omega) (by omega) (by omega) (by omega), hq _ _ _ (by omega) (by omega) (by omega) (by omega)]; exact h6 j hj, fun j hj => by rw [hq _ _ _ (by omega) (by omega) (by omega) (by omega)]; exact h7 j hj⟩
  · unfold IK
    rw [hq _ _ _ (by omega) (by omega) (by omega) (by omega), hq _ _ _ (by omega) (by omega) (by omega) (by omega), e41]
    exact ⟨h3.1, h3.2.imp id (fun q => ⟨q.1, q.2.1, cw q.2.2⟩)⟩
  · have z := h4 s hs
    unfold shl at z ⊢
    rw [hq _ _ _ (by omega) (by omega) (by omega) (by omega), hq _ _ _ (by omega) (by omega) (by omega) (by omega), hq _ _ _ (by omega) (by omega) (by omega) (by omega), hq _ _ _ (by omega) (by omega) (by omega) (by omega), e41]
    exact z
theorem mm_wipe {N : Nat} {I : kI} {J : kJ} (h : Inv N I J) : MM sp_X10_wipe sp_X11_wipe [] N I J := by
  have c1 := cs_X10_wipe I J
  have c2 := cs_X11_wipe (kw I 7 0 1 0) J
  unfold F_X10_wipe at c1
  unfold F_X11_wipe at c2
  have hT := h.2.2.2.2.1
  have e : (kw I 7 0 1 0) 11 0 9 = I 7 0 1 := by rw [kw_at _ _ (by omega)]; exact hT.1.symm
  rw [e] at c2
  dsimp only at c1 c2
  refine MM_i c1 c2 (Inv_tape h (fun t o j a b c d => by rw [kw_at _ _ (by omega), kw_at _ _ (by omega)]) ?_)
  have e2 : (kw (kw I 7 0 1 0) 11 0 9 0) 11 0 9 = 0 := by rw [kw_app, if_pos ⟨rfl, rfl, rfl⟩]
  unfold IT
  rw [e2]
  refine ⟨by rw [kw_at _ _ (by omega), kw_app, if_pos ⟨rfl, rfl, rfl⟩], rg_0 250 (by omega), fun j hj => ?_⟩
  have z : nn (0 : Int32) = 0 := nn_nI (n := 0) (by omega)
  omega
theorem mm_feed {N : Nat} {I : kI} {J : kJ} (h : Inv N I J) (a : Int32) : MM sp_X10_feed sp_X11_feed [kx_i a] N I J := by
  have hT := h.2.2.2.2.1
  have hr := hT.2.1
  have hr2 := hr.2
  by_cases q : (if a < 0 then (0 : Int32) else if 255 < a then 0 else 1) = 0
  · have c1 := cs_X10_feed a I J (by unfold pre_X10_feed; rw [F_within, kif_pos q]; exact ⟨(rC0 I J).2, trivial⟩)
    have c2 := cs_X11_feed a (rfC 0 I) J (by unfold pre_X11_feed; rw [in_0_255, kif_pos q]; exact ⟨(rM0 _ J).2, trivial⟩)
    unfold F_X10_feed at c1
    unfold F_X11_feed at c2
    rw [F_within, kif_pos q, (rC0 I J).1] at c1
    rw [in_0_255, kif_pos q, (rM0 _ J).1] at c2
    exact MM_i c1 c2 (Inv_ref' h 0 (by omega))
  · obtain ⟨k, hk1, hk2, rfl⟩ := in_yes (lo := 0) (hi := 255) (by omega) (by omega) q
    have w1 : ∀ K J, F_X10_isWithin (nI k) (0 : Int32) (255 : Int32) K J = 1 := fun K J => by rw [F_within]; exact in_k (lo := 0) (hi := 255) (by omega) hk1 hk2
    have w2 : ∀ K J, F_X11_in (Int32.toInt64 (nI k)) (0 : Int64) (255 : Int64) K J = 1 := fun K J => by rw [in_0_255]; exact in_k (lo := 0) (hi := 255) (by omega) hk1 hk2
    have z1 : ¬ (1 : Int32) = 0 := by decide
    by_cases f : nn (I 11 0 9) = 250
    · have ef : I 11 0 9 = 250 := by have := hr.1; rw [f] at this; exact this
      have eF : F_X7_isFull 0 I J = 1 := by
        unfold F_X7_isFull
        rw [hT.1, ef, kif_neg (by decide)]
      have e9 : (rfC 4 I) 11 0 9 = 250 := by rw [rfC_at _ _ _ _ (by omega), ef]
      have c1 := cs_X10_feed (nI k) I J (by unfold pre_X10_feed; rw [w1, kif_neg z1, eF, kif_neg z1]; exact ⟨(rC4 I J).2, trivial⟩)
      have c2 := cs_X11_feed (nI k) (rfC 4 I) J (by unfold pre_X11_feed; rw [w2, kif_neg z1, kif_pos e9]; exact ⟨(rM4 _ J).2, trivial⟩)
      unfold F_X10_feed at c1
      unfold F_X11_feed at c2
      rw [w1, kif_neg z1, eF, kif_neg z1, (rC4 I J).1] at c1
      rw [w2, kif_neg z1, kif_pos e9, (rM4 _ J).1] at c2
      exact MM_i c1 c2 (Inv_ref' h 4 (by omega))
    · have ne : ¬ I 11 0 9 = 250 := fun z => f (by rw [z]; exact nn_nI (n := 250) (by omega))
      have lt : I 7 0 1 < 250 := by
        rw [hT.1, hr.1]
        show nI _ < nI 250
        rw [i_lt (by omega) (by omega)]
        omega
      have eF : F_X7_isFull 0 I J = 0 := by
        unfold F_X7_isFull
        rw [kif_pos lt]
      have v1 : vp_in (I 7 0 1) 250 := by rw [hT.1, hr.1]; exact vl _ 250 (by omega) (by omega)
      have eA : F_X7_append 0 (nI k) I J = (kw (kw I 38 0 (nn (I 11 0 9)) (nI k)) 7 0 1 (I 11 0 9 + 1), J) := by
        unfold F_X7_append
        rw [eF, kif_pos rfl, kw_at _ _ (by omega), hT.1]
      have c1 := cs_X10_feed (nI k) I J (by unfold pre_X10_feed pre_X7_append; rw [w1, kif_neg z1, eF, kif_pos rfl, kif_pos rfl]; exact ⟨⟨v1, trivial⟩, trivial⟩)
      unfold F_X10_feed at c1
      rw [w1, kif_neg z1, eF, kif_pos rfl, eA] at c1
      obtain ⟨K, hK⟩ : ∃ K, K = kw (kw I 38 0 (nn (I 11 0 9)) (nI k)) 7 0 1 (I 11 0 9 + 1) := ⟨_, rfl⟩
      rw [← hK] at c1
      have k9 : K 11 0 9 = I 11 0 9 := by rw [hK, kw_at _ _ (by omega), kw_at _ _ (by omega)]
      have c2 := cs_X11_feed (nI k) K J (by unfold pre_X11_feed; rw [w2, kif_neg z1, k9, kif_neg ne]; exact ⟨by rw [hr.1]; exact vl _ 250 (by omega) (by omega), trivial⟩)
      unfold F_X11_feed at c2
      rw [w2, kif_neg z1, k9, kif_neg ne, kw_app, if_pos ⟨rfl, rfl, rfl⟩, kw_at _ _ (by omega), k9] at c2
      have k71 : K 7 0 1 = I 11 0 9 + 1 := by rw [hK, kw_app, if_pos ⟨rfl, rfl, rfl⟩]
      have ev : I 11 0 9 + 1 = nI (nn (I 11 0 9) + 1) := by rw [← nI_1, ← hr.1]
      dsimp only at c1
      rw [k71] at c1
      dsimp only at c2
      refine MM_i c1 c2 (Inv_tape h (fun t o j a b c d => by rw [kw_at _ _ (by omega), kw_at _ _ (by omega), hK, kw_at _ _ (by omega), kw_at _ _ (by omega)]) ?_)
      unfold IT
      rw [kw_at _ _ (show ¬ (7 = 11 ∧ 0 = 0 ∧ 1 = 9) by omega), kw_at _ _ (show ¬ (7 = 43 ∧ 0 = 0 ∧ 1 = nn (I 11 0 9)) by omega), k71, kw_app, if_pos ⟨rfl, rfl, rfl⟩, ev, nn_nI (by omega)]
      refine ⟨rfl, rg_nI (by omega) (by omega), fun j hj => ?_⟩
      rw [kw_at _ _ (by omega), kw_at _ _ (by omega), kw_at _ _ (by omega), kw_app, hK, kw_at _ _ (by omega), kw_app, kw_at _ _ (by omega), kw_at _ _ (by omega)]
      by_cases z : j = nn (I 11 0 9)
      · rw [if_pos ⟨rfl, rfl, z⟩, if_pos ⟨rfl, rfl, z⟩]
        exact ⟨rfl, rg_nI hk2 (by omega)⟩
      · rw [if_neg (fun y => z y.2.2), if_neg (fun y => z y.2.2)]
        exact hT.2.2 j (by omega)

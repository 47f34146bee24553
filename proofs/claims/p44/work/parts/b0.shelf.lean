/-! shelves -/
theorem Inv_sh {N : Nat} {I I' : kI} {J J' : kJ} (h : Inv N I J) (hq : ∀ t o j, ¬ t = 4 → ¬ t = 49 → ¬ t = 50 → I' t o j = I t o j) (hS : IS I' J') : Inv (N + 200) I' J' := by
  obtain ⟨h1, h2, h3, _, h5, h6, h7⟩ := Inv_mono h (Nat.le_add_right N 200)
  have e41 : ∀ o, I' 41 o = I 41 o := fun o => funext fun j => hq _ _ _ (by omega) (by omega) (by omega)
  have cw : ∀ {o : Nat} {g : Nat → Int32}, CW I o g → CW I' o g := fun z => CW_congr z (fun t j a => by unfold cwt at a; exact hq _ _ _ (by omega) (by omega) (by omega))
  refine ⟨by rw [e41]; exact h1, by rw [e41]; exact cw h2, ?_, hS, ?_, fun j hj => by rw [hq _ _ _ (by omega) (by omega) (by omega), hq _ _ _ (by omega) (by omega) (by omega)]; exact h6 j hj, fun j hj => by rw [hq _ _ _ (by omega) (by omega) (by omega)]; exact h7 j hj⟩
  · unfold IK
    rw [hq _ _ _ (by omega) (by omega) (by omega), hq _ _ _ (by omega) (by omega) (by omega), e41]
    exact ⟨h3.1, h3.2.imp id (fun q => ⟨q.1, q.2.1, cw q.2.2⟩)⟩
  · unfold IT
    rw [hq _ _ _ (by omega) (by omega) (by omega), hq _ _ _ (by omega) (by omega) (by omega)]
    refine ⟨h5.1, h5.2.1, fun j hj => ?_⟩
    rw [hq _ _ _ (by omega) (by omega) (by omega), hq _ _ _ (by omega) (by omega) (by omega)]
    exact h5.2.2 j hj
/-- what a shelf holds -/
theorem sh_cases {I : kI} {J : kJ} {c s : Nat} (h : shl I J c s) : (I 49 0 s = -1 ∧ I 4 s 2 = -1 ∧ I 4 s 1 = 0) ∨ (∃ t z, t ≤ 4 ∧ z ≤ 40 ∧ I 49 0 s = nI t ∧ I 4 s 2 = nI t ∧ I 50 0 s = nI z ∧ I 4 s 1 = nI z) ∨ (∃ x, x < c ∧ I 49 0 s = nI (10 + x) ∧ I 4 s 2 = nI (10 + x) ∧ I 4 s 1 = 0) := by
  obtain ⟨h1, _, h3⟩ := h
  rcases h3 with ⟨a, b⟩ | ⟨a, b, d⟩ | ⟨x, a, b, d⟩
  · exact Or.inl ⟨a, by rw [h1, a], b⟩
  · exact Or.inr (Or.inl ⟨_, _, a.2, b.2, a.1, by rw [h1]; exact a.1, b.1, by rw [d]; exact b.1⟩)
  · exact Or.inr (Or.inr ⟨x, a, b, by rw [h1, b], d⟩)
theorem sh_size {I : kI} {J : kJ} {c s : Nat} (h : shl I J c s) : rg (I 4 s 1) 40 := by
  rcases sh_cases h with ⟨_, _, e⟩ | ⟨t, z, _, hz, _, _, _, e⟩ | ⟨x, _, _, _, e⟩
  · rw [e]; exact rg_0 40 (by omega)
  · rw [e]; exact rg_nI hz (by omega)
  · rw [e]; exact rg_0 40 (by omega)
theorem hasEl {I : kI} {J : kJ} {c s : Nat} (h : shl I J c s) (a : Int32) (J' : kJ) : F_X4_hasElement s a I J' = hasW (I 4 s 1) a := by
  unfold F_X4_hasElement
  rw [F_within, has_m1 (sh_size h) (by omega)]
theorem pHasEl {I : kI} {J : kJ} {c s : Nat} (h : shl I J c s) (a : Int32) (J' : kJ) : pre_X4_hasElement s a I J' := by
  have e := hasEl h a J'
  unfold F_X4_hasElement at e
  unfold pre_X4_hasElement
  rw [e]
  exact hasW_01 _ _
theorem valEl {I : kI} {J : kJ} {c s : Nat} (h : shl I J c s) (a : Int32) (J' : kJ) : F_X4_valueAt s a I J' = (if hasW (I 4 s 1) a = 0 then 0 else J' 34 s a.toNatClampNeg) ∧ pre_X4_valueAt s a I J' := by
  unfold F_X4_valueAt pre_X4_valueAt
  rw [hasEl h]
  refine ⟨kif_eq, pHasEl h a J', ?_⟩
  by_cases q : hasW (I 4 s 1) a = 0
  · rw [kif_pos q]; trivial
  · rw [kif_neg q]
    have hs := sh_size h
    have := hs.2
    obtain ⟨j, hj, rfl⟩ := hasW_yes hs (by omega) q
    exact ⟨vl j 40 (by omega) (by omega), trivial⟩
theorem hasW_0 (a : Int32) : hasW 0 a = 0 := by
  unfold hasW
  by_cases q : a < 0
  · rw [if_pos q]
  · rw [if_neg q, if_pos (Int32.not_lt.mp q)]
theorem isShelf_p (a : Int32) (I : kI) (J : kJ) : F_X11_isShelf a I J = (if a < 0 then 0 else if 7 < a then 0 else 1) ∧ pre_X11_isShelf a I J := by
  unfold F_X11_isShelf pre_X11_isShelf
  rw [in_0_7]
  exact ⟨rfl, in_01 _ _ _⟩
theorem mm_holds {N : Nat} {I : kI} {J : kJ} (h : Inv N I J) (a : Int32) : MM sp_X10_holds sp_X11_holds [kx_i a] N I J := by
  have hs := isShelf_p a I J
  by_cases w : (if a < 0 then (0 : Int32) else if 7 < a then 0 else 1) = 0
  · have c1 := cs_X10_holds a I J (-1) (by unfold E_X10_holds; rw [F_within, kif_pos w])
    have c2 := cs_X11_holds a I J (by unfold pre_X11_holds; rw [hs.1, kif_pos w]; exact ⟨hs.2, trivial⟩)
    unfold F_X11_holds at c2
    rw [hs.1, kif_pos w] at c2
    exact MM_i c1 c2 (Inv_mono h (by omega))
  · obtain ⟨s, _, hs7, rfl⟩ := in_yes (lo := 0) (hi := 7) (by omega) (by omega) w
    have ci : (nI s).toNatClampNeg = s := nI_clamp (by omega)
    have c1 := cs_X10_holds (nI s) I J (I 4 s 2) (by unfold E_X10_holds F_X4_content; rw [F_within, kif_neg w, ci])
    have c2 := cs_X11_holds (nI s) I J (by unfold pre_X11_holds; rw [hs.1, kif_neg w]; exact ⟨hs.2, vl s 8 (by omega) (by omega), trivial⟩)
    unfold F_X11_holds at c2
    rw [hs.1, kif_neg w, ci, ← (h.2.2.2.1 s (by omega)).1] at c2
    exact MM_i c1 c2 (Inv_mono h (by omega))
theorem mm_element {N : Nat} {I : kI} {J : kJ} (h : Inv N I J) (a b : Int32) : ME sp_X10_element sp_X11_element [kx_i a, kx_i b] N I J := by
  have hs := isShelf_p a I J
  have z1 : ¬ (1 : Int32) = 0 := by decide
  by_cases w : (if a < 0 then (0 : Int32) else if 7 < a then 0 else 1) = 0
  · have c1 := cs_X10_element a b I J 0 (by unfold E_X10_element; rw [F_within, kif_pos w])
    have c2 := cs_X11_element a b I J (by unfold pre_X11_element; rw [hs.1, kif_pos w]; exact ⟨hs.2, trivial⟩)
    unfold F_X11_element at c2
    rw [hs.1, kif_pos w] at c2
    exact ME_i c1 c2 (Inv_mono h (by omega))
  · obtain ⟨s, _, hs7, rfl⟩ := in_yes (lo := 0) (hi := 7) (by omega) (by omega) w
    have ci : (nI s).toNatClampNeg = s := nI_clamp (by omega)
    have vs : vp_in (nI s) 8 := vl s 8 (by omega) (by omega)
    have hS := h.2.2.2.1 s (by omega)
    have hv := valEl hS b J
    have c1 := cs_X10_element (nI s) b I J _ (by unfold E_X10_element; rw [F_within, kif_neg w, ci, kif_pos hv.2, hv.1])
    have no : (if I 49 0 s < 0 then (0 : Int32) else if 4 < I 49 0 s then 0 else 1) = 0 → I 4 s 1 = 0 → ME sp_X10_element sp_X11_element [kx_i (nI s), kx_i b] N I J := by
      intro q1 q2
      rw [q2, hasW_0, if_pos rfl] at c1
      have c2 := cs_X11_element (nI s) b I J (by unfold pre_X11_element; rw [hs.1, kif_neg w, ci, in_0_4, kif_pos q1]; exact ⟨hs.2, vs, trivial⟩)
      unfold F_X11_element at c2
      rw [hs.1, kif_neg w, ci, in_0_4, kif_pos q1] at c2
      exact ME_i c1 c2 (Inv_mono h (by omega))
    rcases sh_cases hS with ⟨e1, e2, e3⟩ | ⟨t, z, ht, hz, e1, e2, e4, e3⟩ | ⟨x, hx, e1, e2, e3⟩
    · exact no (by rw [e1]; decide) e3
    · have e5 : ¬ (if I 49 0 s < 0 then (0 : Int32) else if 4 < I 49 0 s then 0 else 1) = 0 := by
        have q : (if nI t < 0 then (0 : Int32) else if 4 < nI t then 0 else 1) = 1 := in_k (lo := 0) (hi := 4) (by omega) (by omega) (by omega)
        rw [e1, q]
        exact z1
      have rz : rg (nI z) 40 := rg_nI hz (by omega)
      rw [e3] at c1
      by_cases q : hasW (nI z) b = 0
      · rw [if_pos q] at c1
        have c2 := cs_X11_element (nI s) b I J (by unfold pre_X11_element; rw [hs.1, kif_neg w, ci, in_0_4, kif_neg e5, e4, in_has rz (by omega), kif_pos q]; exact ⟨hs.2, vs, vs, trivial⟩)
        unfold F_X11_element at c2
        rw [hs.1, kif_neg w, ci, in_0_4, kif_neg e5, e4, in_has rz (by omega), kif_pos q] at c2
        exact ME_i c1 c2 (Inv_mono h (by omega))
      · rw [if_neg q] at c1
        obtain ⟨j, hj, rfl⟩ := hasW_yes rz (by omega) q
        rw [nn_nI (by omega)] at hj
        have cj : (nI j).toNatClampNeg = j := nI_clamp (by omega)
        have cx : ((40 : Int32) * nI s + nI j).toNatClampNeg = 40 * s + j := by
          have e : (40 : Int32) * nI s + nI j = nI (40 * s + j) := by
            show nI 40 * nI s + nI j = _
            rw [pk_mul, nI_add]
          rw [e, nI_clamp (by omega)]
        have vx : vp_in ((40 : Int32) * nI s + nI j) 320 := by
          have e : (40 : Int32) * nI s + nI j = nI (40 * s + j) := by
            show nI 40 * nI s + nI j = _
            rw [pk_mul, nI_add]
          rw [e]
          exact vl _ 320 (by omega) (by omega)
        have c2 := cs_X11_element (nI s) (nI j) I J (by unfold pre_X11_element; rw [hs.1, kif_neg w, ci, in_0_4, kif_neg e5, e4, in_has rz (by omega), kif_neg q]; exact ⟨hs.2, vs, vs, vx, trivial⟩)
        unfold F_X11_element at c2
        rw [hs.1, kif_neg w, ci, in_0_4, kif_neg e5, e4, in_has rz (by omega), kif_neg q, cx, ← hS.2.1 j (by omega)] at c2
        rw [cj] at c1
        exact ME_i c1 c2 (Inv_mono h (by omega))
    · refine no ?_ e3
      have hc := h.1.2.2.2.1.2
      rw [e1, if_neg (i_nlt0 _ (by omega)), if_pos]
      show nI 4 < nI (10 + x)
      rw [i_lt (by omega) (by omega)]
      omega
theorem e40 (s j : Nat) : (40 : Int32) * nI s + nI j = nI (40 * s + j) := by
  show nI 40 * nI s + nI j = _
  rw [pk_mul, nI_add]
/-- other shelves stay -/
theorem shl_congr {I I' : kI} {J J' : kJ} {c c' s : Nat} (h : shl I J c s) (hc : c ≤ c') (h4 : ∀ j, I' 4 s j = I 4 s j) (h49 : I' 49 0 s = I 49 0 s) (h50 : I' 50 0 s = I 50 0 s) (h34 : ∀ j, j < 40 → J' 34 s j = J 34 s j) (h51 : ∀ j, j < 40 → J' 51 0 (40 * s + j) = J 51 0 (40 * s + j)) : shl I' J' c' s := by
  unfold shl at h ⊢
  rw [h4, h4, h49, h50]
  refine ⟨h.1, fun j hj => by rw [h34 j hj, h51 j hj]; exact h.2.1 j hj, h.2.2.imp id (Or.imp id ?_)⟩
  rintro ⟨x, a, b⟩
  exact ⟨x, by omega, b⟩
theorem mm_show {N : Nat} {I : kI} {J : kJ} (h : Inv N I J) (a b : Int32) : MM sp_X10_show sp_X11_show [kx_i a, kx_i b] N I J := by
  have h14 := h.1.2.2.2.1
  have h142 := h14.2
  obtain ⟨p, hF, hfm⟩ := h.2.1.2.1
  have ic : I 2 0 5 = I 41 0 14 := by rw [hF.2.1, ← h14.1]
  have hs := fun I J => isShelf_p a I J
  have z1 : ¬ (1 : Int32) = 0 := by decide
  by_cases w : (if a < 0 then (0 : Int32) else if 7 < a then 0 else 1) = 0
  · have c1 := cs_X10_show a b I J (-102, rfC 0 I, J) (by unfold E_X10_show; rw [F_within, kif_pos w, kif_pos (rC0 I J).2, (rC0 I J).1])
    have c2 := cs_X11_show a b (rfC 0 I) J (by unfold pre_X11_show; rw [(hs _ _).1, kif_pos w]; exact ⟨(hs _ _).2, (rM0 _ J).2, trivial⟩)
    refine ref_both h c1 rfl c2 ?_
    unfold F_X11_show
    rw [(hs _ _).1, kif_pos w, (rM0 _ J).1]
  · obtain ⟨s, _, hs7, rfl⟩ := in_yes (lo := 0) (hi := 7) (by omega) (by omega) w
    have ci : (nI s).toNatClampNeg = s := nI_clamp (by omega)
    have vs : vp_in (nI s) 8 := vl s 8 (by omega) (by omega)
    have fin : ∀ v : Int32, (v = -1 ∨ ∃ x, x < nn (I 41 0 14) ∧ v = nI (10 + x)) → Inv (N + 200) (kw (kw (kw I 4 s 2 v) 4 s 1 0) 49 0 s v) J := fun v hv => by
      refine Inv_sh h (fun t o j a b c => by rw [kw_at _ _ (by omega), kw_at _ _ (by omega), kw_at _ _ (by omega)]) (fun s2 hs2 => ?_)
      have e41 : (kw (kw (kw I 4 s 2 v) 4 s 1 0) 49 0 s v) 41 0 14 = I 41 0 14 := by rw [kw_at _ _ (by omega), kw_at _ _ (by omega), kw_at _ _ (by omega)]
      rw [e41]
      by_cases q : s2 = s
      · subst q
        have hS := h.2.2.2.1 s2 hs2
        unfold shl
        have a1 : (kw (kw (kw I 4 s2 2 v) 4 s2 1 0) 49 0 s2 v) 4 s2 2 = v := by rw [kw_at _ _ (by omega), kw_at _ _ (by omega), kw_app, if_pos ⟨rfl, rfl, rfl⟩]
        have a2 : (kw (kw (kw I 4 s2 2 v) 4 s2 1 0) 49 0 s2 v) 4 s2 1 = 0 := by rw [kw_at _ _ (by omega), kw_app, if_pos ⟨rfl, rfl, rfl⟩]
        have a3 : (kw (kw (kw I 4 s2 2 v) 4 s2 1 0) 49 0 s2 v) 49 0 s2 = v := by rw [kw_app, if_pos ⟨rfl, rfl, rfl⟩]
        rw [a1, a2, a3]
        refine ⟨rfl, hS.2.1, ?_⟩
        rcases hv with e | ⟨x, hx, e⟩
        · exact Or.inl ⟨e, rfl⟩
        · exact Or.inr (Or.inr ⟨x, hx, e, rfl⟩)
      · exact shl_congr (h.2.2.2.1 s2 hs2) (Nat.le_refl _) (fun j => by rw [kw_at _ _ (by omega), kw_at _ _ (by omega), kw_at _ _ (by omega)]) (by rw [kw_at _ _ (by omega), kw_at _ _ (by omega), kw_at _ _ (by omega)]) (by rw [kw_at _ _ (by omega), kw_at _ _ (by omega), kw_at _ _ (by omega)]) (fun _ _ => rfl) (fun _ _ => rfl)
    by_cases qb : b = -1
    · have c1 := cs_X10_show (nI s) b I J (1, kw (kw I 4 s 2 (-1)) 4 s 1 0, J) (by unfold E_X10_show F_X4_takeNothing; rw [F_within, kif_neg w, kif_pos qb, kif_pos qb, ci])
      have c2 := cs_X11_show (nI s) b (kw (kw I 4 s 2 (-1)) 4 s 1 0) J (by unfold pre_X11_show; rw [(hs _ _).1, kif_neg w, kif_pos qb, kif_pos qb]; exact ⟨(hs _ _).2, vs, trivial⟩)
      refine MM_f c1 rfl c2 ?_ (fin (-1) (Or.inl rfl))
      unfold F_X11_show
      rw [(hs _ _).1, kif_neg w, kif_pos qb, kif_pos qb, ci]
    · have eh : F_X2_has 0 b I J = hasW (I 41 0 14) b := by rw [has2_W, ic]
      by_cases w2 : hasW (I 41 0 14) b = 0
      · have km := isShip_W b (rfC 0 I) J (by rw [rfC_41]; exact h14)
        rw [rfC_41] at km
        have c1 := cs_X10_show (nI s) b I J (-102, rfC 0 I, J) (by unfold E_X10_show; rw [F_within, kif_neg w, kif_neg qb, eh, kif_pos w2, kif_pos (rC0 I J).2, (rC0 I J).1])
        have c2 := cs_X11_show (nI s) b (rfC 0 I) J (by unfold pre_X11_show; rw [(hs _ _).1, kif_neg w, kif_neg qb, km.1, kif_pos w2]; exact ⟨(hs _ _).2, km.2, (rM0 _ J).2, trivial⟩)
        refine ref_both h c1 rfl c2 ?_
        unfold F_X11_show
        rw [(hs _ _).1, kif_neg w, kif_neg qb, km.1, kif_pos w2, (rM0 _ J).1]
      · obtain ⟨x, hx, ex⟩ := hasW_yes h14 (by omega) w2
        have e10' : (10 : Int32) + b = nI (10 + x) := by rw [ex]; exact nI_add 10 x
        have e14 : (kw (kw I 4 s 2 (nI (10 + x))) 4 s 1 0) 41 0 14 = I 41 0 14 := by rw [kw_at _ _ (by omega), kw_at _ _ (by omega)]
        have km := isShip_W b (kw (kw I 4 s 2 (nI (10 + x))) 4 s 1 0) J (by rw [e14]; exact h14)
        rw [e14] at km
        have c1 := cs_X10_show (nI s) b I J (1, kw (kw I 4 s 2 (nI (10 + x))) 4 s 1 0, J) (by unfold E_X10_show F_X4_takeShip; rw [F_within, kif_neg w, kif_neg qb, eh, kif_neg w2, kif_neg qb, ci, e10'])
        have c2 := cs_X11_show (nI s) b (kw (kw I 4 s 2 (nI (10 + x))) 4 s 1 0) J (by unfold pre_X11_show; rw [(hs _ _).1, kif_neg w, kif_neg qb, km.1, kif_neg w2, kif_neg qb]; exact ⟨(hs _ _).2, km.2, vs, trivial⟩)
        refine MM_f c1 rfl c2 ?_ (fin (nI (10 + x)) (Or.inr ⟨x, hx, rfl⟩))
        unfold F_X11_show
        rw [(hs _ _).1, kif_neg w, kif_neg qb, km.1, kif_neg w2, kif_neg qb, ci, e10']

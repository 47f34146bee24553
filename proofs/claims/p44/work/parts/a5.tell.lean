/-! tell, boat, plan -/
theorem kk_pair {I : kI} {t s x : Nat} {v : Int32} {t' s' x' : Nat} (hi : (t' = t ∧ s' = s) ↔ x' = x) (h41 : ¬ t' = 41) (e : I t' 0 s' = I 41 0 x') : kw (kw I t 0 s v) 41 0 x v t' 0 s' = upd (I 41 0) x v x' := by
  rw [kw_at _ _ (fun q => h41 q.1), kw_app, upd_app]
  by_cases q : x' = x
  · rw [if_pos q, if_pos ⟨(hi.mpr q).1, rfl, (hi.mpr q).2⟩]
  · rw [if_neg q, if_neg (fun z => q (hi.mp ⟨z.1, z.2.2⟩)), e]
def kkm (t s x : Nat) : Prop := (t = 6 ∧ s = 4 + x ∧ 1 ≤ x ∧ x < 8) ∨ (t = 0 ∧ x = 8 + s ∧ s < 4) ∨ (t = 37 ∧ s < 24 ∧ x = 85 + s)
theorem Inv_kk {N : Nat} {I : kI} {J : kJ} (h : Inv N I J) {t s x : Nat} (v : Int32) (hm : kkm t s x) (hP : WP (upd (I 41 0) x v)) (hO : WO (upd (I 41 0) x v)) : Inv (N + 200) (kw (kw I t 0 s v) 41 0 x v) J := by
  have hg := h.1
  have hc := h.2.1
  unfold kkm at hm
  refine Inv_w h (kk_sam I v v (by omega)) (by omega) ?_ ?_ ?_
  · rw [kk_41 _ _ _ (by omega)]
    exact WG_sc (WG_mono hg (by omega)) (fun j h1 h2 h3 => by rw [upd_app, if_neg (by omega)]) (by rw [upd_app, if_neg (by omega)]) hP hO
  · rw [kk_41 _ _ _ (by omega)]
    refine CW_sc hg hc (fun t j h1 h2 h3 h4 h5 => by unfold cwt at h1; exact kk_at _ _ _ (by omega) (by omega)) (fun j h1 h2 h3 => by rw [upd_app, if_neg (by omega)]) (fun j hj => ?_) (fun j hj => ?_) ?_ (fun i hi => ?_) ?_ ?_ ?_
    · exact kk_pair (by omega) (by omega) (hc.1.1 j hj)
    · exact kk_pair (by omega) (by omega) (hc.1.2.1 j hj)
    · exact kk_pair (by omega) (by omega) hc.1.2.2.1
    · exact kk_pair (by omega) (by omega) (hc.1.2.2.2.2.2.2.2.2 i hi)
    · exact kk_pair (by omega) (by omega) hc.2.2.2.1
    · exact kk_pair (by omega) (by omega) hc.2.2.2.2.1
    · exact kk_pair (by omega) (by omega) hc.2.2.2.2.2
  · rw [kk_41 _ _ _ (by omega), upd_app, if_neg (by omega)]
    exact Nat.le_refl _
theorem kk_val {I : kI} {t s x : Nat} (v : Int32) {N : Nat} {J : kJ} (h : Inv N I J) (hm : kkm t s x) : I t 0 s = (kw I t 0 s v) 41 0 x := by
  have hc := h.2.1
  unfold kkm at hm
  rw [kw_at _ _ (by omega)]
  rcases hm with ⟨rfl, rfl, h1, h2⟩ | ⟨rfl, rfl, h1⟩ | ⟨rfl, h1, rfl⟩
  · exact hc.1.1 x h2
  · exact hc.1.2.1 s h1
  · exact hc.1.2.2.2.2.2.2.2.2 s h1
theorem WP_upd {g : Nat → Int32} {x : Nat} {v : Int32} (h : WP g) (hx : x < 85 ∨ 109 ≤ x) (h13 : ¬ x = 13) : WP (upd g x v) := fun i hi => by
  rw [upd_app, if_neg (by omega), upd_app, if_neg (by omega)]
  exact h i hi
theorem MM_f {sC sM : kSp} {args : List kx_V} {N : Nat} {I I1 I2 : kI} {J J1 J2 : kJ} {v : Int32} {q q' : Int32 × kI × kJ} (c1 : sC (kx_r 10 0 :: args) (I, J, none) (some (kx_i q.1)) (q.2.1, q.2.2, none)) (e1 : q = (v, I1, J1)) (c2 : sM (kx_r 11 0 :: args) (I1, J1, none) (some (kx_i q'.1)) (q'.2.1, q'.2.2, none)) (e2 : q' = (v, I2, J2)) (h3 : Inv (N + 200) I2 J2) : MM sC sM args N I J := by
  subst e1
  subst e2
  exact MM_i c1 c2 h3

theorem ofl {a : Int32} {k : Nat} (hk : k < 2147483648) (h : a = nI k) (j : Nat) (hj : j < 2147483648) (hne : ¬ k = j) : ¬ a = nI j := fun q => hne (nI_inj hk hj (h.symm.trans q))
theorem mm_tell {N : Nat} {I : kI} {J : kJ} (h : Inv N I J) (a v : Int32) : MM sp_X10_tell sp_X11_tell [kx_i a, kx_i v] N I J := by
  obtain ⟨m, hm⟩ : ∃ m, kfu = m + 12 := ⟨kfu - 12, by unfold kfu; omega⟩
  have hO := h.1.2.2.2.2.2.2.1
  have hP := h.1.2.2.2.2.2.1
  have z1 : ¬ (1 : Int32) = 0 := by decide
  have pm : pre_X10_mayBeTold a v I J := by
    unfold pre_X10_mayBeTold
    rw [F_within, F_within, F_within, F_within]
    by_cases q0 : a = 0
    · rw [kif_pos q0]; exact in_01 _ _ _
    · rw [kif_neg q0]
      by_cases q1 : a = 1
      · rw [kif_pos q1]; exact in_01 _ _ _
      · rw [kif_neg q1]
        by_cases q2 : a = 2
        · rw [kif_pos q2]; exact in_01 _ _ _
        · rw [kif_neg q2]
          by_cases q3 : a = 3
          · rw [kif_pos q3]; exact in_01 _ _ _
          · rw [kif_neg q3]
            by_cases q4 : a = 4
            · rw [kif_pos q4]; exact in_01 _ _ _
            · rw [kif_neg q4]; trivial
  have bad : F_X10_mayBeTold a v I J = 0 → E_X11_tell a v (rfC 0 I) J = some (-102, rfM 0 (rfC 0 I), J) → MM sp_X10_tell sp_X11_tell [kx_i a, kx_i v] N I J := by
    intro b1 b2
    have c1 := cs_X10_tell a v I J (by unfold pre_X10_tell; rw [b1, kif_pos rfl]; exact ⟨pm, (rC0 I J).2, trivial⟩)
    have c2 := cs_X11_tell _ _ _ _ _ b2
    refine MM_f c1 ?_ c2 rfl (Inv_ref' h 0 (by omega))
    unfold F_X10_tell
    rw [b1, kif_pos rfl, (rC0 I J).1]
  have good : ∀ x, x < 5 → F_X10_mayBeTold a v I J = 1 → a = nI x → F_X10_tell a v I J = (I 6 0 (5 + x), kw I 6 0 (5 + x) v, J) → WO (upd (I 41 0) (1 + x) v) → (∀ K : kI, E_X11_tell a v K J = some (K 41 0 (1 + x), kw K 41 0 (1 + x) v, J)) → MM sp_X10_tell sp_X11_tell [kx_i a, kx_i v] N I J := by
    intro x hx b1 ha b2 b3 b4
    have hm : kkm 6 (5 + x) (1 + x) := Or.inl ⟨rfl, by omega, by omega, by omega⟩
    have c1 := cs_X10_tell a v I J (by unfold pre_X10_tell; rw [b1, kif_neg z1]; exact ⟨pm, trivial⟩)
    have c2 := cs_X11_tell _ _ _ _ _ (b4 (kw I 6 0 (5 + x) v))
    refine MM_f c1 b2 c2 ?_ (Inv_kk h v hm (WP_upd hP (by omega) (by omega)) b3)
    rw [kk_val v h hm]
  have pcs : ∀ K J n, G_X11_tell a v (n + 2) 78 0 K J = (kif (vp_in ((1 : Int32) + a) 2509) (kif (vp_in ((1 : Int32) + a) 2509) (some ((K 41 0 (((1 : Int32) + a)).toNatClampNeg), (kw K 41 0 (((1 : Int32) + a)).toNatClampNeg v), J)) none) none) := fun K J n => by
    rw [G_X11_tell_78, G_X11_tell_83, kif_neg z1]
  have yes : ∀ x, x < 5 → a = nI x → ∀ K J n, G_X11_tell a v (n + 2) 78 0 K J = some (K 41 0 (1 + x), kw K 41 0 (1 + x) v, J) := fun x hx ha K J n => by
    have e : (1 : Int32) + a = nI (1 + x) := by rw [ha]; exact nI_add 1 x
    have hv := vl (1 + x) 2509 (by omega) (by omega)
    rw [pcs, e, kif_pos hv, kif_pos hv, nI_clamp (by omega)]
  have no : ∀ K J n, G_X11_tell a v (n + 2) 82 0 K J = some (-102, rfM 0 K, J) := fun K J n => by
    rw [G_X11_tell_82, G_X11_tell_83, kif_pos rfl, kif_pos (rM0 K J).2, (rM0 K J).1]

  by_cases q0 : a = 0
  · have n1 : ¬ a = 1 := by rw [q0]; decide
    have n2 : ¬ a = 2 := by rw [q0]; decide
    have n3 : ¬ a = 3 := by rw [q0]; decide
    have n4 : ¬ a = 4 := by rw [q0]; decide
    by_cases w : (if v < 0 then (0 : Int32) else if 12 < v then 0 else 1) = 0
    · refine bad (by unfold F_X10_mayBeTold; rw [kif_pos q0, F_within]; exact w) ?_
      unfold E_X11_tell
      rw [hm, kif_pos q0, in_0_12, kif_pos w, G_X11_tell_16, kif_neg n1, G_X11_tell_35, kif_neg n2, G_X11_tell_52, in_3_4, show (if a < 3 then (0 : Int32) else if 4 < a then 0 else 1) = 0 by rw [q0]; decide, kif_pos rfl]
      exact no _ _ _
    · obtain ⟨y, y1, y2, y3⟩ := in_yes (lo := 0) (hi := 12) (by omega) (by omega) w
      refine good 0 (by omega) (by unfold F_X10_mayBeTold; rw [kif_pos q0, F_within]; exact (in_01 v 0 12).resolve_left w) q0 ?_ ?_ (fun K => ?_)
      · unfold F_X10_tell
        rw [kif_neg (show ¬ F_X10_mayBeTold a v I J = 0 by unfold F_X10_mayBeTold; rw [kif_pos q0, F_within]; exact w), kif_pos q0]
      · exact hO
      · unfold E_X11_tell
        rw [hm, kif_pos q0, in_0_12, kif_neg w]
        exact yes 0 (by omega) q0 K J _
  by_cases q1 : a = 1
  · have n0 : ¬ a = 0 := by rw [q1]; decide
    have n2 : ¬ a = 2 := by rw [q1]; decide
    have n3 : ¬ a = 3 := by rw [q1]; decide
    have n4 : ¬ a = 4 := by rw [q1]; decide
    by_cases w : (if v < 13 then (0 : Int32) else if 24 < v then 0 else 1) = 0
    · refine bad (by unfold F_X10_mayBeTold; rw [kif_neg n0, kif_pos q1, F_within]; exact w) ?_
      unfold E_X11_tell
      rw [hm, kif_neg n0, G_X11_tell_16, kif_pos q1, in_13_24, kif_pos w, G_X11_tell_35, kif_neg n2, G_X11_tell_52, in_3_4, show (if a < 3 then (0 : Int32) else if 4 < a then 0 else 1) = 0 by rw [q1]; decide, kif_pos rfl]
      exact no _ _ _
    · obtain ⟨y, y1, y2, y3⟩ := in_yes (lo := 13) (hi := 24) (by omega) (by omega) w
      refine good 1 (by omega) (by unfold F_X10_mayBeTold; rw [kif_neg n0, kif_pos q1, F_within]; exact (in_01 v 13 24).resolve_left w) q1 ?_ ?_ (fun K => ?_)
      · unfold F_X10_tell
        rw [kif_neg (show ¬ F_X10_mayBeTold a v I J = 0 by unfold F_X10_mayBeTold; rw [kif_neg n0, kif_pos q1, F_within]; exact w), kif_neg n0, kif_pos q1]
      · exact hO
      · unfold E_X11_tell
        rw [hm, kif_neg n0, G_X11_tell_16, kif_pos q1, in_13_24, kif_neg w]
        exact yes 1 (by omega) q1 K J _
  by_cases q2 : a = 2
  · have n0 : ¬ a = 0 := by rw [q2]; decide
    have n1 : ¬ a = 1 := by rw [q2]; decide
    have n3 : ¬ a = 3 := by rw [q2]; decide
    have n4 : ¬ a = 4 := by rw [q2]; decide
    by_cases w : (if v < 1 then (0 : Int32) else if 4 < v then 0 else 1) = 0
    · refine bad (by unfold F_X10_mayBeTold; rw [kif_neg n0, kif_neg n1, kif_pos q2, F_within]; exact w) ?_
      unfold E_X11_tell
      rw [hm, kif_neg n0, G_X11_tell_16, kif_neg n1, G_X11_tell_35, kif_pos q2, in_1_4, kif_pos w, G_X11_tell_52, in_3_4, show (if a < 3 then (0 : Int32) else if 4 < a then 0 else 1) = 0 by rw [q2]; decide, kif_pos rfl]
      exact no _ _ _
    · obtain ⟨y, y1, y2, y3⟩ := in_yes (lo := 1) (hi := 4) (by omega) (by omega) w
      refine good 2 (by omega) (by unfold F_X10_mayBeTold; rw [kif_neg n0, kif_neg n1, kif_pos q2, F_within]; exact (in_01 v 1 4).resolve_left w) q2 ?_ ?_ (fun K => ?_)
      · unfold F_X10_tell
        rw [kif_neg (show ¬ F_X10_mayBeTold a v I J = 0 by unfold F_X10_mayBeTold; rw [kif_neg n0, kif_neg n1, kif_pos q2, F_within]; exact w), kif_neg n0, kif_neg n1, kif_pos q2]
      · exact ⟨by show rg v 4; rw [y3]; exact rg_nI y2 (by omega), by show 1 ≤ nn v; rw [y3, nn_nI (by omega)]; exact y1, hO.2.2⟩
      · unfold E_X11_tell
        rw [hm, kif_neg n0, G_X11_tell_16, kif_neg n1, G_X11_tell_35, kif_pos q2, in_1_4, kif_neg w]
        exact yes 2 (by omega) q2 K J _
  by_cases q3 : a = 3
  · have n0 : ¬ a = 0 := by rw [q3]; decide
    have n1 : ¬ a = 1 := by rw [q3]; decide
    have n2 : ¬ a = 2 := by rw [q3]; decide
    have n4 : ¬ a = 4 := by rw [q3]; decide
    by_cases w : (if v < 0 then (0 : Int32) else if 9999 < v then 0 else 1) = 0
    · refine bad (by unfold F_X10_mayBeTold; rw [kif_neg n0, kif_neg n1, kif_neg n2, kif_pos q3, F_within]; exact w) ?_
      unfold E_X11_tell
      rw [hm, kif_neg n0, G_X11_tell_16, kif_neg n1, G_X11_tell_35, kif_neg n2, G_X11_tell_52, in_3_4, show (if a < 3 then (0 : Int32) else if 4 < a then 0 else 1) = 1 by rw [q3]; decide, kif_neg z1, in_0_9999, kif_pos w]
      exact no _ _ _
    · obtain ⟨y, y1, y2, y3⟩ := in_yes (lo := 0) (hi := 9999) (by omega) (by omega) w
      refine good 3 (by omega) (by unfold F_X10_mayBeTold; rw [kif_neg n0, kif_neg n1, kif_neg n2, kif_pos q3, F_within]; exact (in_01 v 0 9999).resolve_left w) q3 ?_ ?_ (fun K => ?_)
      · unfold F_X10_tell
        rw [kif_neg (show ¬ F_X10_mayBeTold a v I J = 0 by unfold F_X10_mayBeTold; rw [kif_neg n0, kif_neg n1, kif_neg n2, kif_pos q3, F_within]; exact w), kif_neg n0, kif_neg n1, kif_neg n2, kif_pos q3]
      · exact ⟨hO.1, hO.2.1, by show rg v 9999; rw [y3]; exact rg_nI y2 (by omega), hO.2.2.2⟩
      · unfold E_X11_tell
        rw [hm, kif_neg n0, G_X11_tell_16, kif_neg n1, G_X11_tell_35, kif_neg n2, G_X11_tell_52, in_3_4, show (if a < 3 then (0 : Int32) else if 4 < a then 0 else 1) = 1 by rw [q3]; decide, kif_neg z1, in_0_9999, kif_neg w]
        exact yes 3 (by omega) q3 K J _
  by_cases q4 : a = 4
  · have n0 : ¬ a = 0 := by rw [q4]; decide
    have n1 : ¬ a = 1 := by rw [q4]; decide
    have n2 : ¬ a = 2 := by rw [q4]; decide
    have n3 : ¬ a = 3 := by rw [q4]; decide
    by_cases w : (if v < 0 then (0 : Int32) else if 9999 < v then 0 else 1) = 0
    · refine bad (by unfold F_X10_mayBeTold; rw [kif_neg n0, kif_neg n1, kif_neg n2, kif_neg n3, kif_pos q4, F_within]; exact w) ?_
      unfold E_X11_tell
      rw [hm, kif_neg n0, G_X11_tell_16, kif_neg n1, G_X11_tell_35, kif_neg n2, G_X11_tell_52, in_3_4, show (if a < 3 then (0 : Int32) else if 4 < a then 0 else 1) = 1 by rw [q4]; decide, kif_neg z1, in_0_9999, kif_pos w]
      exact no _ _ _
    · obtain ⟨y, y1, y2, y3⟩ := in_yes (lo := 0) (hi := 9999) (by omega) (by omega) w
      refine good 4 (by omega) (by unfold F_X10_mayBeTold; rw [kif_neg n0, kif_neg n1, kif_neg n2, kif_neg n3, kif_pos q4, F_within]; exact (in_01 v 0 9999).resolve_left w) q4 ?_ ?_ (fun K => ?_)
      · unfold F_X10_tell
        rw [kif_neg (show ¬ F_X10_mayBeTold a v I J = 0 by unfold F_X10_mayBeTold; rw [kif_neg n0, kif_neg n1, kif_neg n2, kif_neg n3, kif_pos q4, F_within]; exact w), kif_neg n0, kif_neg n1, kif_neg n2, kif_neg n3]
      · exact ⟨hO.1, hO.2.1, hO.2.2.1, by show rg v 9999; rw [y3]; exact rg_nI y2 (by omega), hO.2.2.2.2⟩
      · unfold E_X11_tell
        rw [hm, kif_neg n0, G_X11_tell_16, kif_neg n1, G_X11_tell_35, kif_neg n2, G_X11_tell_52, in_3_4, show (if a < 3 then (0 : Int32) else if 4 < a then 0 else 1) = 1 by rw [q4]; decide, kif_neg z1, in_0_9999, kif_neg w]
        exact yes 4 (by omega) q4 K J _
  have c34 : (if a < 3 then (0 : Int32) else if 4 < a then 0 else 1) = 0 := by
    rcases in_01 a 3 4 with e | e
    · exact e
    · obtain ⟨y, y1, y2, y3⟩ := in_yes (lo := 3) (hi := 4) (x := a) (by omega) (by omega) (by show ¬ (if a < 3 then (0 : Int32) else if 4 < a then 0 else 1) = 0; rw [e]; exact z1)
      have c : y = 3 ∨ y = 4 := by omega
      rcases c with rfl | rfl
      · exact absurd y3 q3
      · exact absurd y3 q4
  refine bad (by unfold F_X10_mayBeTold; rw [kif_neg q0, kif_neg q1, kif_neg q2, kif_neg q3, kif_neg q4]) ?_
  unfold E_X11_tell
  rw [hm, kif_neg q0, G_X11_tell_16, kif_neg q1, G_X11_tell_35, kif_neg q2, G_X11_tell_52, in_3_4, c34, kif_pos rfl]
  exact no _ _ _

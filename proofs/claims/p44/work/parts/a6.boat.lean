/-! boat, plan -/
theorem w_add (x : Int32) (h : x.toInt + 9999 < 2147483648) (h0 : 0 ≤ x.toInt) : Int32.toInt64 x + 9999 = Int32.toInt64 (x + 9999) := by
  have e1 : (9999 : Int32).toInt = 9999 := rfl
  have e2 : (9999 : Int64).toInt = 9999 := rfl
  rw [← Int64.toInt_inj, Int64.toInt_add, Int32.toInt_toInt64, Int32.toInt_toInt64, iz_add (by rw [e1]; omega), e1, e2]
  exact Int.bmod_eq_of_le (by omega) (by omega)
theorem w_add2 (x : Int32) (h : x.toInt + 999 < 2147483648) (h0 : 0 ≤ x.toInt) : Int32.toInt64 x + 999 = Int32.toInt64 (x + 999) := by
  have e1 : (999 : Int32).toInt = 999 := rfl
  have e2 : (999 : Int64).toInt = 999 := rfl
  rw [← Int64.toInt_inj, Int64.toInt_add, Int32.toInt_toInt64, Int32.toInt_toInt64, iz_add (by rw [e1]; omega), e1, e2]
  exact Int.bmod_eq_of_le (by omega) (by omega)
theorem rg_toInt {x : Int32} {b : Nat} (h : rg x b) (hb : b < 2147483648) : x.toInt = (nn x : Int) := by
  have h2 := h.2
  have e := congrArg Int32.toInt h.1
  rw [iz_nI (by omega)] at e
  exact e
theorem mm_boat {N : Nat} (hN : N < 1000000) {I : kI} {J : kJ} (h : Inv N I J) (a v : Int32) : MM sp_X10_boat sp_X11_boat [kx_i a, kx_i v] N I J := by
  have hO := h.1.2.2.2.2.2.2.1
  have hP := h.1.2.2.2.2.2.1
  have h0 := h.1.1
  have h02 := h0.2
  have i4 : I 6 0 4 = I 41 0 0 := h.2.1.1.1 0 (by omega)
  have z1 : ¬ (1 : Int32) = 0 := by decide
  have l0 : ((0 : Int32)).toNatClampNeg = 0 := rfl
  have v0 : vp_in (0 : Int32) 2509 := vl 0 2509 (by omega) (by omega)
  have h0i := rg_toInt h0 (by omega)
  have pm : pre_X10_mayBeOfBoat a v I J := by
    unfold pre_X10_mayBeOfBoat
    rw [F_within, F_within]
    by_cases q0 : a = 0
    · rw [kif_pos q0]; trivial
    · rw [kif_neg q0]
      by_cases q1 : a = 1
      · rw [kif_pos q1]; exact in_01 _ _ _
      · rw [kif_neg q1]
        by_cases q2 : a = 2
        · rw [kif_pos q2]; exact in_01 _ _ _
        · rw [kif_neg q2]
          by_cases q3 : a = 3
          · rw [kif_pos q3]; exact in_01 _ _ _
          · rw [kif_neg q3]; trivial
  have bad : F_X10_mayBeOfBoat a v I J = 0 → (F_X11_boat a v (rfC 0 I) J = F_X11_refused (-102 : Int32) (rfC 0 I) J ∧ pre_X11_boat a v (rfC 0 I) J) → MM sp_X10_boat sp_X11_boat [kx_i a, kx_i v] N I J := by
    intro b1 b2
    have c1 := cs_X10_boat a v I J (by unfold pre_X10_boat; rw [b1, kif_pos rfl]; exact ⟨pm, (rC0 I J).2, trivial⟩)
    have c2 := cs_X11_boat a v (rfC 0 I) J b2.2
    refine MM_f c1 ?_ c2 (b2.1.trans (rM0 _ J).1) (Inv_ref' h 0 (by omega))
    unfold F_X10_boat
    rw [b1, kif_pos rfl, (rC0 I J).1]
  have good : ∀ x, x < 4 → F_X10_mayBeOfBoat a v I J = 1 → a = nI x → F_X10_boat a v I J = (I 0 0 x, kw I 0 0 x v, J) → WO (upd (I 41 0) (8 + x) v) → (∀ K : kI, K 41 0 0 = I 41 0 0 → F_X11_boat a v K J = (K 41 0 (((8 : Int32) + a)).toNatClampNeg, kw K 41 0 (((8 : Int32) + a)).toNatClampNeg v, J) ∧ (vp_in ((8 : Int32) + a) 2509 → pre_X11_boat a v K J)) → MM sp_X10_boat sp_X11_boat [kx_i a, kx_i v] N I J := by
    intro x hx b1 ha b2 b3 b4
    have hm : kkm 0 x (8 + x) := Or.inr (Or.inl ⟨rfl, rfl, hx⟩)
    have e : (8 : Int32) + a = nI (8 + x) := by rw [ha]; exact nI_add 8 x
    obtain ⟨b5, b6⟩ := b4 (kw I 0 0 x v) (kw_at _ _ (by omega))
    rw [e, nI_clamp (by omega)] at b5
    rw [e] at b6
    have c1 := cs_X10_boat a v I J (by unfold pre_X10_boat; rw [b1, kif_neg z1]; exact ⟨pm, trivial⟩)
    have c2 := cs_X11_boat a v (kw I 0 0 x v) J (b6 (vl _ 2509 (by omega) (by omega)))
    refine MM_f c1 b2 c2 ?_ (Inv_kk h v hm (WP_upd hP (by omega) (by omega)) b3)
    rw [b5, kk_val v h hm]
  by_cases q0 : a = 0
  · have n1 : ¬ a = 1 := by rw [q0]; decide
    have c23 : (if a < 2 then (0 : Int32) else if 3 < a then 0 else 1) = 0 := by rw [q0]; decide
    have em : F_X10_mayBeOfBoat a v I J = kif (v = -1) 1 (kif ((if v < I 6 0 4 then (0 : Int32) else if I 6 0 4 + 9999 < v then 0 else 1) = 0) 0 1) := by
      unfold F_X10_mayBeOfBoat
      rw [kif_pos q0, F_within]
    have ei : ∀ (K : kI) (J : kJ), K 41 0 0 = I 41 0 0 → F_X11_in (Int32.toInt64 v) (Int32.toInt64 (K 41 0 0)) ((Int32.toInt64 (K 41 0 0)) + (9999 : Int64)) K J = (if v < I 6 0 4 then (0 : Int32) else if I 6 0 4 + 9999 < v then 0 else 1) := fun K J hK => by
      rw [hK, w_add _ (by omega) (by omega), F_in32, i4]
    have wo : WO (upd (I 41 0) (8 + 0) v) := hO
    by_cases qv : v = -1
    · rw [kif_pos qv] at em
      refine good 0 (by omega) em q0 ?_ wo (fun K hK => ⟨?_, fun hv => ?_⟩)
      · unfold F_X10_boat
        rw [em, kif_neg z1, kif_pos q0]
      · unfold F_X11_boat
        rw [kif_pos q0, kif_pos qv, kif_neg z1]
      · unfold pre_X11_boat
        rw [kif_pos q0, kif_pos qv, kif_neg z1]
        exact ⟨hv, hv, trivial⟩
    · rw [kif_neg qv] at em
      by_cases w : (if v < I 6 0 4 then (0 : Int32) else if I 6 0 4 + 9999 < v then 0 else 1) = 0
      · rw [kif_pos w] at em
        have hK : (rfC 0 I) 41 0 0 = I 41 0 0 := rfC_at _ _ _ _ (by omega)
        refine bad em ⟨?_, ?_⟩
        · unfold F_X11_boat
          rw [kif_pos q0, kif_neg qv, l0, ei _ _ hK, kif_pos w, kif_neg n1, in_2_3, kif_pos c23, kif_pos rfl]
        · unfold pre_X11_boat
          rw [kif_pos q0, kif_neg qv, l0, ei _ _ hK, kif_pos w, kif_neg n1, in_2_3, kif_pos c23, kif_pos rfl]
          exact ⟨v0, v0, (rM0 _ J).2, trivial⟩
      · rw [kif_neg w] at em
        refine good 0 (by omega) em q0 ?_ wo (fun K hK => ⟨?_, fun hv => ?_⟩)
        · unfold F_X10_boat
          rw [em, kif_neg z1, kif_pos q0]
        · unfold F_X11_boat
          rw [kif_pos q0, kif_neg qv, l0, ei _ _ hK, kif_neg w, kif_neg z1]
        · unfold pre_X11_boat
          rw [kif_pos q0, kif_neg qv, l0, ei _ _ hK, kif_neg w, kif_neg z1]
          exact ⟨v0, v0, hv, hv, trivial⟩

  by_cases q1 : a = 1
  · have n0 : ¬ a = 0 := by rw [q1]; decide
    have n2 : ¬ a = 2 := by rw [q1]; decide
    have n3 : ¬ a = 3 := by rw [q1]; decide
    have c23 : (if a < 2 then (0 : Int32) else if 3 < a then 0 else 1) = 0 := by rw [q1]; decide
    have em : F_X10_mayBeOfBoat a v I J = (if v < 1 then (0 : Int32) else if 999 < v then 0 else 1) := by
      unfold F_X10_mayBeOfBoat
      rw [kif_neg n0, kif_pos q1, F_within]
    by_cases w : (if v < 1 then (0 : Int32) else if 999 < v then 0 else 1) = 0
    · refine bad (em.trans w) ⟨?_, ?_⟩
      · unfold F_X11_boat
        rw [kif_neg n0, kif_pos q1, in_1_999, kif_pos w, in_2_3, kif_pos c23, kif_pos rfl]
      · unfold pre_X11_boat
        rw [kif_neg n0, kif_pos q1, in_1_999, kif_pos w, in_2_3, kif_pos c23, kif_pos rfl]
        exact ⟨(rM0 _ J).2, trivial⟩
    · obtain ⟨y, y1, y2, y3⟩ := in_yes (lo := 1) (hi := 999) (by omega) (by omega) w
      have e1 := em.trans ((in_01 v 1 999).resolve_left w)
      refine good 1 (by omega) e1 q1 ?_ ?_ (fun K hK => ⟨?_, fun hv => ?_⟩)
      · unfold F_X10_boat
        rw [e1, kif_neg z1, kif_neg n0, kif_pos q1]
      · exact hO
      · unfold F_X11_boat
        rw [kif_neg n0, kif_pos q1, in_1_999, kif_neg w, kif_neg z1]
      · unfold pre_X11_boat
        rw [kif_neg n0, kif_pos q1, in_1_999, kif_neg w, kif_neg z1]
        exact ⟨hv, hv, trivial⟩
  by_cases q2 : a = 2
  · have n0 : ¬ a = 0 := by rw [q2]; decide
    have n1 : ¬ a = 1 := by rw [q2]; decide
    have n3 : ¬ a = 3 := by rw [q2]; decide
    have c23 : ¬ (if a < 2 then (0 : Int32) else if 3 < a then 0 else 1) = 0 := by rw [q2]; decide
    have em : F_X10_mayBeOfBoat a v I J = (if v < 0 then (0 : Int32) else if 9999 < v then 0 else 1) := by
      unfold F_X10_mayBeOfBoat
      rw [kif_neg n0, kif_neg n1, kif_pos q2, F_within]
    by_cases w : (if v < 0 then (0 : Int32) else if 9999 < v then 0 else 1) = 0
    · refine bad (em.trans w) ⟨?_, ?_⟩
      · unfold F_X11_boat
        rw [kif_neg n0, kif_neg n1, in_2_3, kif_neg c23, in_0_9999, kif_pos w, kif_pos rfl]
      · unfold pre_X11_boat
        rw [kif_neg n0, kif_neg n1, in_2_3, kif_neg c23, in_0_9999, kif_pos w, kif_pos rfl]
        exact ⟨(rM0 _ J).2, trivial⟩
    · obtain ⟨y, y1, y2, y3⟩ := in_yes (lo := 0) (hi := 9999) (by omega) (by omega) w
      have e1 := em.trans ((in_01 v 0 9999).resolve_left w)
      refine good 2 (by omega) e1 q2 ?_ ?_ (fun K hK => ⟨?_, fun hv => ?_⟩)
      · unfold F_X10_boat
        rw [e1, kif_neg z1, kif_neg n0, kif_neg n1, kif_pos q2]
      · exact ⟨hO.1, hO.2.1, hO.2.2.1, hO.2.2.2.1, hO.2.2.2.2.1, hO.2.2.2.2.2.1, by show rg v 9999; rw [y3]; exact rg_nI y2 (by omega), hO.2.2.2.2.2.2.2⟩
      · unfold F_X11_boat
        rw [kif_neg n0, kif_neg n1, in_2_3, kif_neg c23, in_0_9999, kif_neg w, kif_neg z1]
      · unfold pre_X11_boat
        rw [kif_neg n0, kif_neg n1, in_2_3, kif_neg c23, in_0_9999, kif_neg w, kif_neg z1]
        exact ⟨hv, hv, trivial⟩
  by_cases q3 : a = 3
  · have n0 : ¬ a = 0 := by rw [q3]; decide
    have n1 : ¬ a = 1 := by rw [q3]; decide
    have n2 : ¬ a = 2 := by rw [q3]; decide
    have c23 : ¬ (if a < 2 then (0 : Int32) else if 3 < a then 0 else 1) = 0 := by rw [q3]; decide
    have em : F_X10_mayBeOfBoat a v I J = (if v < 0 then (0 : Int32) else if 9999 < v then 0 else 1) := by
      unfold F_X10_mayBeOfBoat
      rw [kif_neg n0, kif_neg n1, kif_neg n2, kif_pos q3, F_within]
    by_cases w : (if v < 0 then (0 : Int32) else if 9999 < v then 0 else 1) = 0
    · refine bad (em.trans w) ⟨?_, ?_⟩
      · unfold F_X11_boat
        rw [kif_neg n0, kif_neg n1, in_2_3, kif_neg c23, in_0_9999, kif_pos w, kif_pos rfl]
      · unfold pre_X11_boat
        rw [kif_neg n0, kif_neg n1, in_2_3, kif_neg c23, in_0_9999, kif_pos w, kif_pos rfl]
        exact ⟨(rM0 _ J).2, trivial⟩
    · obtain ⟨y, y1, y2, y3⟩ := in_yes (lo := 0) (hi := 9999) (by omega) (by omega) w
      have e1 := em.trans ((in_01 v 0 9999).resolve_left w)
      refine good 3 (by omega) e1 q3 ?_ ?_ (fun K hK => ⟨?_, fun hv => ?_⟩)
      · unfold F_X10_boat
        rw [e1, kif_neg z1, kif_neg n0, kif_neg n1, kif_neg n2]
      · exact ⟨hO.1, hO.2.1, hO.2.2.1, hO.2.2.2.1, hO.2.2.2.2.1, hO.2.2.2.2.2.1, hO.2.2.2.2.2.2.1, by show rg v 9999; rw [y3]; exact rg_nI y2 (by omega)⟩
      · unfold F_X11_boat
        rw [kif_neg n0, kif_neg n1, in_2_3, kif_neg c23, in_0_9999, kif_neg w, kif_neg z1]
      · unfold pre_X11_boat
        rw [kif_neg n0, kif_neg n1, in_2_3, kif_neg c23, in_0_9999, kif_neg w, kif_neg z1]
        exact ⟨hv, hv, trivial⟩
  have c23 : (if a < 2 then (0 : Int32) else if 3 < a then 0 else 1) = 0 := by
    rcases in_01 a 2 3 with e | e
    · exact e
    · obtain ⟨y, y1, y2, y3⟩ := in_yes (lo := 2) (hi := 3) (x := a) (by omega) (by omega) (by show ¬ (if a < 2 then (0 : Int32) else if 3 < a then 0 else 1) = 0; rw [e]; exact z1)
      have c : y = 2 ∨ y = 3 := by omega
      rcases c with rfl | rfl
      · exact absurd y3 q2
      · exact absurd y3 q3
  refine bad (by unfold F_X10_mayBeOfBoat; rw [kif_neg q0, kif_neg q1, kif_neg q2, kif_neg q3]) ⟨?_, ?_⟩
  · unfold F_X11_boat
    rw [kif_neg q0, kif_neg q1, in_2_3, kif_pos c23, kif_pos rfl]
  · unfold pre_X11_boat
    rw [kif_neg q0, kif_neg q1, in_2_3, kif_pos c23, kif_pos rfl]
    exact ⟨(rM0 _ J).2, trivial⟩
theorem WO_upd {g : Nat → Int32} {x : Nat} {v : Int32} (h : WO g) (hx : 12 ≤ x) : WO (upd g x v) := by
  unfold WO
  rw [upd_app, upd_app, upd_app, upd_app, upd_app, upd_app, upd_app, if_neg (by omega), if_neg (by omega), if_neg (by omega), if_neg (by omega), if_neg (by omega), if_neg (by omega), if_neg (by omega)]
  exact h
/-- plan -/
theorem mm_plan {N : Nat} {I : kI} {J : kJ} (h : Inv N I J) (a v : Int32) : MM sp_X10_plan sp_X11_plan [kx_i a, kx_i v] N I J := by
  have hg := h.1
  have hO := hg.2.2.2.2.2.2.1
  have hP := hg.2.2.2.2.2.1
  have h13 := hg.2.2.1
  have h132 := h13.2
  have ic : I 1 0 5 = I 41 0 13 := h.2.1.1.2.2.2.2.2.2.1
  have z1 : ¬ (1 : Int32) = 0 := by decide
  have pk : pre_X10_isHourOfDay a I J := by unfold pre_X10_isHourOfDay; rw [F_within]; exact in_01 _ _ _
  have eh : F_X10_isHourOfDay a I J = (if a < 0 then (0 : Int32) else if 23 < a then 0 else 1) := by unfold F_X10_isHourOfDay; rw [F_within]
  have r13 : rg ((rfC 0 I) 41 0 13) 6 := by rw [rfC_41]; exact h13
  by_cases w : (if a < 0 then (0 : Int32) else if 23 < a then 0 else 1) = 0
  · have c1 := cs_X10_plan a v I J (by unfold pre_X10_plan; rw [eh, kif_pos w]; exact ⟨pk, (rC0 I J).2, trivial⟩)
    have c2 := cs_X11_plan a v (rfC 0 I) J (by unfold pre_X11_plan; rw [in_0_23, kif_pos w]; exact ⟨(rM0 _ J).2, trivial⟩)
    refine MM_f (v := -102) c1 ?_ c2 ?_ (Inv_ref' h 0 (by omega))
    · unfold F_X10_plan
      rw [eh, kif_pos w, (rC0 I J).1]
    · unfold F_X11_plan
      rw [in_0_23, kif_pos w, (rM0 _ J).1]
  · obtain ⟨i, _, hi, rfl⟩ := in_yes (lo := 0) (hi := 23) (by omega) (by omega) w
    have hm : kkm 37 i (85 + i) := Or.inr (Or.inr ⟨rfl, by omega, rfl⟩)
    have c85 : ((85 : Int32) + nI i).toNatClampNeg = 85 + i := ix1c (a := 85) (by omega)
    have v85 : vp_in ((85 : Int32) + nI i) 2509 := ix1v (a := 85) (by omega) (by omega)
    have vi : vp_in (nI i) 24 := vl i 24 (by omega) (by omega)
    have ci : (nI i).toNatClampNeg = i := nI_clamp (by omega)
    have eh1 : F_X10_isHourOfDay (nI i) I J = 1 := eh.trans ((in_01 (nI i) 0 23).resolve_left w)
    have ok : (v = -1 ∨ ∃ j, j < nn (I 41 0 13) ∧ v = nI j) → F_X10_isKeeperOrNone v I J = 1 → (F_X11_plan (nI i) v (kw I 37 0 i v) J = ((kw I 37 0 i v) 41 0 (85 + i), kw (kw I 37 0 i v) 41 0 (85 + i) v, J) ∧ pre_X11_plan (nI i) v (kw I 37 0 i v) J) → MM sp_X10_plan sp_X11_plan [kx_i (nI i), kx_i v] N I J := by
      intro hv b1 b2
      have c1 := cs_X10_plan (nI i) v I J (by
        unfold pre_X10_plan pre_X6_planned pre_X6_assign
        rw [eh1, kif_neg z1, b1, kif_neg z1, kif_neg z1]
        exact ⟨pk, ⟨pk, vi, trivial⟩, ⟨pk, vi, trivial⟩, trivial⟩)
      have c2 := cs_X11_plan (nI i) v (kw I 37 0 i v) J b2.2
      refine MM_f (v := I 37 0 i) c1 ?_ c2 ?_ (Inv_kk h v hm (fun x hx => ?_) (WO_upd hO (by omega)))
      · unfold F_X10_plan F_X6_planned F_X6_assign
        rw [eh1, kif_neg z1, b1, kif_neg z1, kif_neg z1, kif_neg z1, ci]
      · rw [b2.1, kk_val v h hm]
      · rw [upd_app, upd_app, if_neg (show ¬ 13 = 85 + i by omega)]
        by_cases z : 85 + x = 85 + i
        · rw [if_pos z]; exact hv
        · rw [if_neg z]; exact hP x hx
    by_cases qv : v = -1
    · refine ok (Or.inl qv) ?_ ⟨?_, ?_⟩
      · unfold F_X10_isKeeperOrNone
        rw [kif_pos qv]
      · unfold F_X11_plan
        rw [in_0_23, kif_neg w, kif_pos qv, c85]
      · unfold pre_X11_plan
        rw [in_0_23, kif_neg w, kif_pos qv]
        exact ⟨v85, v85, trivial⟩
    · have ek : F_X10_isKeeperOrNone v I J = kif (hasW (I 41 0 13) v = 0) 0 1 := by
        unfold F_X10_isKeeperOrNone
        rw [kif_neg qv, has1_W, ic]
      by_cases w2 : hasW (I 41 0 13) v = 0
      · rw [kif_pos w2] at ek
        have km := isKeeper_W v (rfC 0 I) J r13
        rw [rfC_41] at km
        have c1 := cs_X10_plan (nI i) v I J (by unfold pre_X10_plan; rw [eh1, kif_neg z1, ek, kif_pos rfl]; exact ⟨pk, (rC0 I J).2, trivial⟩)
        have c2 := cs_X11_plan (nI i) v (rfC 0 I) J (by unfold pre_X11_plan; rw [in_0_23, kif_neg w, kif_neg qv, km.1, kif_pos w2]; exact ⟨km.2, (rM0 _ J).2, trivial⟩)
        refine MM_f (v := -102) c1 ?_ c2 ?_ (Inv_ref' h 0 (by omega))
        · unfold F_X10_plan
          rw [eh1, kif_neg z1, ek, kif_pos rfl, (rC0 I J).1]
        · unfold F_X11_plan
          rw [in_0_23, kif_neg w, kif_neg qv, km.1, kif_pos w2, (rM0 _ J).1]
      · rw [kif_neg w2] at ek
        have e13 : (kw I 37 0 i v) 41 0 13 = I 41 0 13 := kw_at _ _ (by omega)
        have km := isKeeper_W v (kw I 37 0 i v) J (by rw [e13]; exact h13)
        rw [e13] at km
        refine ok (Or.inr (hasW_yes h13 (by omega) w2)) ek ⟨?_, ?_⟩
        · unfold F_X11_plan
          rw [in_0_23, kif_neg w, kif_neg qv, km.1, kif_neg w2, c85]
        · unfold pre_X11_plan
          rw [in_0_23, kif_neg w, kif_neg qv, km.1, kif_neg w2]
          exact ⟨km.2, v85, v85, trivial⟩

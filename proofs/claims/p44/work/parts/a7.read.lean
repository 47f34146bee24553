/-! what is asked: log, logged, shipOf, many, keeperOf -/
theorem in_has {x a : Int32} {b : Nat} (h : rg x b) (hb : b < 2147483647) (I : kI) (J : kJ) : F_X11_in (Int32.toInt64 a) (0 : Int64) (Int32.toInt64 (x - 1)) I J = hasW x a := by
  have e0 : (0 : Int64) = Int32.toInt64 0 := by decide
  rw [e0, F_in32, has_m1 h hb]
theorem ref_both {sC sM : kSp} {args : List kx_V} {N : Nat} {I : kI} {J : kJ} {q q' : Int32 × kI × kJ} (h : Inv N I J) (c1 : sC (kx_r 10 0 :: args) (I, J, none) (some (kx_i q.1)) (q.2.1, q.2.2, none)) (e1 : q = (-102, rfC 0 I, J)) (c2 : sM (kx_r 11 0 :: args) (rfC 0 I, J, none) (some (kx_i q'.1)) (q'.2.1, q'.2.2, none)) (e2 : q' = (-102, rfM 0 (rfC 0 I), J)) : MM sC sM args N I J := MM_f c1 e1 c2 e2 (Inv_ref' h 0 (by omega))
theorem mm_log {N : Nat} {I : kI} {J : kJ} (h : Inv N I J) (a b : Int32) : MM sp_X10_log sp_X11_log [kx_i a, kx_i b] N I J := by
  have hL := h.1.2.2.2.2.2.2.2.2.2.1
  have hL2 := hL.2
  have cL := h.2.1.2.2.1
  have z1 : ¬ (1 : Int32) = 0 := by decide
  have l15 : ((15 : Int32)).toNatClampNeg = 15 := rfl
  have v15 : vp_in (15 : Int32) 2509 := vl 15 2509 (by omega) (by omega)
  have eh : ∀ J, F_X3_has 0 a I J = hasW (I 41 0 15) a := fun J => by rw [has3_W, cL.1]
  have r15 : (rfC 0 I) 41 0 15 = I 41 0 15 := rfC_at _ _ _ _ (by omega)
  have no : (hasW (I 41 0 15) a = 0 ∨ (¬ b = 0 ∧ ¬ b = 1 ∧ ¬ b = 2 ∧ ¬ b = 3)) → MM sp_X10_log sp_X11_log [kx_i a, kx_i b] N I J := by
    intro hq
    have e3 : hasW (I 41 0 15) a ≠ 0 → (if b < 0 then (0 : Int32) else if 3 < b then 0 else 1) = 0 := fun z => by
      have hq := hq.resolve_left z
      rcases in_01 b 0 3 with e | e
      · exact e
      · obtain ⟨y, y1, y2, y3⟩ := in_yes (lo := 0) (hi := 3) (x := b) (by omega) (by omega) (by show ¬ (if b < 0 then (0 : Int32) else if 3 < b then 0 else 1) = 0; rw [e]; exact z1)
        have c : y = 0 ∨ y = 1 ∨ y = 2 ∨ y = 3 := by omega
        rcases c with rfl | rfl | rfl | rfl
        · exact absurd y3 hq.1
        · exact absurd y3 hq.2.1
        · exact absurd y3 hq.2.2.1
        · exact absurd y3 hq.2.2.2
    by_cases w : hasW (I 41 0 15) a = 0
    · have c1 := cs_X10_log a b I J (by unfold pre_X10_log; rw [eh, kif_pos w]; exact ⟨(rC0 I J).2, trivial⟩)
      have c2 := cs_X11_log a b (rfC 0 I) J (by unfold pre_X11_log; rw [l15, r15, in_has hL (by omega), kif_pos w]; exact ⟨v15, (rM0 _ J).2, trivial⟩)
      refine ref_both h c1 ?_ c2 ?_
      · unfold F_X10_log
        rw [eh, kif_pos w, (rC0 I J).1]
      · unfold F_X11_log
        rw [l15, r15, in_has hL (by omega), kif_pos w, (rM0 _ J).1]
    · have hq2 := hq.resolve_left w
      have c1 := cs_X10_log a b I J (by unfold pre_X10_log; rw [eh, kif_neg w, kif_neg hq2.1, kif_neg hq2.2.1, kif_neg hq2.2.2.1, kif_neg hq2.2.2.2]; exact ⟨(rC0 I J).2, trivial⟩)
      have c2 := cs_X11_log a b (rfC 0 I) J (by unfold pre_X11_log; rw [l15, r15, in_has hL (by omega), kif_neg w, in_0_3, kif_pos (e3 w)]; exact ⟨v15, (rM0 _ J).2, trivial⟩)
      refine ref_both h c1 ?_ c2 ?_
      · unfold F_X10_log
        rw [eh, kif_neg w, kif_neg hq2.1, kif_neg hq2.2.1, kif_neg hq2.2.2.1, kif_neg hq2.2.2.2, (rC0 I J).1]
      · unfold F_X11_log
        rw [l15, r15, in_has hL (by omega), kif_neg w, in_0_3, kif_pos (e3 w), (rM0 _ J).1]
  by_cases w : hasW (I 41 0 15) a = 0
  · exact no (Or.inl w)
  · obtain ⟨i, hi, rfl⟩ := hasW_yes hL (by omega) w
    have ci : (nI i).toNatClampNeg = i := nI_clamp (by omega)
    have ce := cL.2 i hi
    have vi : vp_in (nI i) 400 := vl i 400 (by omega) (by omega)
    have yes : ∀ x, x < 4 → b = nI x → F_X10_log (nI i) b I J = (I 41 0 (909 + 4 * i + x), I, J) → pre_X10_log (nI i) b I J → MM sp_X10_log sp_X11_log [kx_i (nI i), kx_i b] N I J := by
      intro x hx hb e1 p1
      have e3 : ¬ (if b < 0 then (0 : Int32) else if 3 < b then 0 else 1) = 0 := by
        rw [hb]
        have e : (if nI x < 0 then (0 : Int32) else if 3 < nI x then 0 else 1) = 1 := in_k (lo := 0) (hi := 3) (by omega) (by omega) (by omega)
        rw [e]
        exact z1
      have cx : (((909 : Int32) + 4 * nI i) + nI x).toNatClampNeg = 909 + 4 * i + x := ix3c (a := 909) (b := 4) (by omega)
      have vx : vp_in (((909 : Int32) + 4 * nI i) + nI x) 2509 := ix3v (a := 909) (b := 4) (by omega) (by omega)
      have c1 := cs_X10_log (nI i) b I J p1
      have c2 := cs_X11_log (nI i) b I J (by unfold pre_X11_log; rw [l15, in_has hL (by omega), kif_neg w, in_0_3, kif_neg e3, hb]; exact ⟨v15, vx, trivial⟩)
      refine MM_f c1 e1 c2 ?_ (Inv_mono h (by omega))
      unfold F_X11_log
      rw [l15, in_has hL (by omega), kif_neg w, in_0_3, kif_neg e3, hb, cx]
    have e0 : ∀ J, hasW (I 41 0 15) (nI i) = 1 := fun _ => hasW_k hL (by omega) hi
    by_cases b0 : b = 0
    · refine yes 0 (by omega) b0 ?_ ?_
      · unfold F_X10_log F_X3_hourOf
        rw [eh, kif_neg w, kif_pos b0, kif_neg w, ci, ce.1, Nat.add_zero]
      · unfold pre_X10_log pre_X3_hourOf
        rw [eh, kif_neg w, kif_pos b0, kif_neg w]
        exact ⟨⟨vi, trivial⟩, trivial⟩
    · by_cases b1 : b = 1
      · refine yes 1 (by omega) b1 ?_ ?_
        · unfold F_X10_log F_X3_sortOf
          rw [eh, kif_neg w, kif_neg b0, kif_pos b1, kif_neg w, ci, ce.2.1]
        · unfold pre_X10_log pre_X3_sortOf
          rw [eh, kif_neg w, kif_neg b0, kif_pos b1, kif_neg w]
          exact ⟨⟨vi, trivial⟩, trivial⟩
      · by_cases b2 : b = 2
        · refine yes 2 (by omega) b2 ?_ ?_
          · unfold F_X10_log F_X3_shipOfEntry
            rw [eh, kif_neg w, kif_neg b0, kif_neg b1, kif_pos b2, kif_neg w, ci, ce.2.2.1]
          · unfold pre_X10_log pre_X3_shipOfEntry
            rw [eh, kif_neg w, kif_neg b0, kif_neg b1, kif_pos b2, kif_neg w]
            exact ⟨⟨vi, trivial⟩, trivial⟩
        · by_cases b3 : b = 3
          · refine yes 3 (by omega) b3 ?_ ?_
            · unfold F_X10_log F_X3_writerOf
              rw [eh, kif_neg w, kif_neg b0, kif_neg b1, kif_neg b2, kif_pos b3, kif_neg w, ci, ce.2.2.2]
            · unfold pre_X10_log pre_X3_writerOf
              rw [eh, kif_neg w, kif_neg b0, kif_neg b1, kif_neg b2, kif_pos b3, kif_neg w]
              exact ⟨⟨vi, trivial⟩, trivial⟩
          · exact no (Or.inr ⟨b0, b1, b2, b3⟩)
theorem mm_shipOf {N : Nat} {I : kI} {J : kJ} (h : Inv N I J) (a b : Int32) : MM sp_X10_shipOf sp_X11_shipOf [kx_i a, kx_i b] N I J := by
  have h14 := h.1.2.2.2.1
  have h142 := h14.2
  obtain ⟨p, hF, hfm⟩ := h.2.1.2.1
  have hK := h.1.2.2.2.2.2.2.2.1
  have z1 : ¬ (1 : Int32) = 0 := by decide
  have ic : I 2 0 5 = I 41 0 14 := by rw [hF.2.1, ← h14.1]
  have eh : ∀ J, F_X2_has 0 a I J = hasW (I 41 0 14) a := fun J => by rw [has2_W, ic]
  have km := isShip_W a (rfC 0 I) J (by rw [rfC_41]; exact h14)
  rw [rfC_41] at km
  by_cases w : hasW (I 41 0 14) a = 0
  · have c1 := cs_X10_shipOf a b I J (by unfold pre_X10_shipOf; rw [eh, kif_pos w]; exact ⟨(rC0 I J).2, trivial⟩)
    have c2 := cs_X11_shipOf a b (rfC 0 I) J (by unfold pre_X11_shipOf; rw [km.1, kif_pos w]; exact ⟨km.2, (rM0 _ J).2, trivial⟩)
    refine ref_both h c1 ?_ c2 ?_
    · unfold F_X10_shipOf
      rw [eh, kif_pos w, (rC0 I J).1]
    · unfold F_X11_shipOf
      rw [km.1, kif_pos w, (rM0 _ J).1]
  · obtain ⟨i, hi, rfl⟩ := hasW_yes h14 (by omega) w
    have ci : (nI i).toNatClampNeg = i := nI_clamp (by omega)
    have fK := hF.2.2.1 i hi
    have k1 := (hK i hi).1.1
    have k2 := (hK i hi).2.2.1
    have e25 : I 25 0 i = I 41 0 (109 + 4 * i) := by rw [fK.1]; exact k1.symm
    have e26 : I 26 0 i = I 41 0 (109 + 4 * i + 1) := by rw [fK.2.2.2.1]; exact k2.symm
    have vi : vp_in (nI i) 200 := vl i 200 (by omega) (by omega)
    have ks := isShip_W (nI i) I J h14
    have yes : ∀ x, x < 4 → b = nI x → F_X10_shipOf (nI i) b I J = (I 41 0 (109 + 4 * i + x), I, J) → pre_X10_shipOf (nI i) b I J → MM sp_X10_shipOf sp_X11_shipOf [kx_i (nI i), kx_i b] N I J := by
      intro x hx hb e1 p1
      have e3 : ¬ (if b < 0 then (0 : Int32) else if 3 < b then 0 else 1) = 0 := by
        rw [hb]
        have e : (if nI x < 0 then (0 : Int32) else if 3 < nI x then 0 else 1) = 1 := in_k (lo := 0) (hi := 3) (by omega) (by omega) (by omega)
        rw [e]
        exact z1
      have o := ofS i x I J (by omega) (by omega)
      have c1 := cs_X10_shipOf (nI i) b I J p1
      have c2 := cs_X11_shipOf (nI i) b I J (by unfold pre_X11_shipOf; rw [ks.1, kif_neg w, in_0_3, kif_neg e3, hb]; exact ⟨ks.2, o.2, trivial⟩)
      refine MM_f c1 e1 c2 ?_ (Inv_mono h (by omega))
      unfold F_X11_shipOf
      rw [ks.1, kif_neg w, in_0_3, kif_neg e3, hb, o.1]
    by_cases b0 : b = 0
    · refine yes 0 (by omega) b0 ?_ ?_
      · unfold F_X10_shipOf F_X2_kindOf
        rw [eh, kif_neg w, kif_pos b0, kif_neg w, ci, e25, Nat.add_zero]
      · unfold pre_X10_shipOf pre_X2_kindOf
        rw [eh, kif_neg w, kif_pos b0, kif_neg w]
        exact ⟨⟨vi, trivial⟩, trivial⟩
    · by_cases b1 : b = 1
      · refine yes 1 (by omega) b1 ?_ ?_
        · unfold F_X10_shipOf F_X2_hourOf
          rw [eh, kif_neg w, kif_neg b0, kif_pos b1, kif_neg w, ci, e26]
        · unfold pre_X10_shipOf pre_X2_hourOf
          rw [eh, kif_neg w, kif_neg b0, kif_pos b1, kif_neg w]
          exact ⟨⟨vi, trivial⟩, trivial⟩
      · by_cases b2 : b = 2
        · refine yes 2 (by omega) b2 ?_ ?_
          · unfold F_X10_shipOf F_X2_fateOf
            rw [eh, kif_neg w, kif_neg b0, kif_neg b1, kif_pos b2, kif_neg w, ci, (hfm i hi).1]
          · unfold pre_X10_shipOf pre_X2_fateOf
            rw [eh, kif_neg w, kif_neg b0, kif_neg b1, kif_pos b2, kif_neg w]
            exact ⟨⟨vi, trivial⟩, trivial⟩
        · by_cases b3 : b = 3
          · refine yes 3 (by omega) b3 ?_ ?_
            · unfold F_X10_shipOf F_X2_metOf
              rw [eh, kif_neg w, kif_neg b0, kif_neg b1, kif_neg b2, kif_pos b3, kif_neg w, ci, (hfm i hi).2]
            · unfold pre_X10_shipOf pre_X2_metOf
              rw [eh, kif_neg w, kif_neg b0, kif_neg b1, kif_neg b2, kif_pos b3, kif_neg w]
              exact ⟨⟨vi, trivial⟩, trivial⟩
          · have e3 : (if b < 0 then (0 : Int32) else if 3 < b then 0 else 1) = 0 := by
              rcases in_01 b 0 3 with e | e
              · exact e
              · obtain ⟨y, y1, y2, y3⟩ := in_yes (lo := 0) (hi := 3) (x := b) (by omega) (by omega) (by show ¬ (if b < 0 then (0 : Int32) else if 3 < b then 0 else 1) = 0; rw [e]; exact z1)
                have c : y = 0 ∨ y = 1 ∨ y = 2 ∨ y = 3 := by omega
                rcases c with rfl | rfl | rfl | rfl
                · exact absurd y3 b0
                · exact absurd y3 b1
                · exact absurd y3 b2
                · exact absurd y3 b3
            have c1 := cs_X10_shipOf (nI i) b I J (by unfold pre_X10_shipOf; rw [eh, kif_neg w, kif_neg b0, kif_neg b1, kif_neg b2, kif_neg b3]; exact ⟨(rC0 I J).2, trivial⟩)
            have c2 := cs_X11_shipOf (nI i) b (rfC 0 I) J (by unfold pre_X11_shipOf; rw [km.1, kif_neg w, in_0_3, kif_pos e3]; exact ⟨km.2, (rM0 _ J).2, trivial⟩)
            refine ref_both h c1 ?_ c2 ?_
            · unfold F_X10_shipOf
              rw [eh, kif_neg w, kif_neg b0, kif_neg b1, kif_neg b2, kif_neg b3, (rC0 I J).1]
            · unfold F_X11_shipOf
              rw [km.1, kif_neg w, in_0_3, kif_pos e3, (rM0 _ J).1]

/-! says -/
theorem mm_says {N : Nat} {I : kI} {J : kJ} (h : Inv N I J) (a b : Int32) : MM sp_X10_says sp_X11_says [kx_i a, kx_i b] N I J := by
  have hs := fun I J => isShelf_p a I J
  have h14 := h.1.2.2.2.1
  have h142 := h14.2
  have hK := h.1.2.2.2.2.2.2.2.1
  obtain ⟨p, hF, hfm⟩ := h.2.1.2.1
  have z1 : ¬ (1 : Int32) = 0 := by decide
  have pk : pre_X10_isKind b I J := by unfold pre_X10_isKind; rw [F_within]; exact in_01 _ _ _
  have ek : F_X10_isKind b I J = (if b < 0 then (0 : Int32) else if 7 < b then 0 else 1) := by unfold F_X10_isKind; rw [F_within]
  by_cases w : (if a < 0 then (0 : Int32) else if 7 < a then 0 else 1) = 0
  · have c1 := cs_X10_says a b I J (-102, rfC 0 I, J) (by unfold E_X10_says; rw [F_within, kif_pos w, kif_pos (rC0 I J).2, (rC0 I J).1])
    have c2 := cs_X11_says a b (rfC 0 I) J (-102, rfM 0 (rfC 0 I), J) (by unfold E_X11_says; rw [kif_pos (hs _ _).2, (hs _ _).1, kif_pos w, kif_pos (rM0 _ J).2, (rM0 _ J).1])
    exact ref_both h c1 rfl c2 rfl
  · by_cases w2 : (if b < 0 then (0 : Int32) else if 7 < b then 0 else 1) = 0
    · have c1 := cs_X10_says a b I J (-102, rfC 0 I, J) (by unfold E_X10_says; rw [F_within, kif_neg w, kif_pos pk, ek, kif_pos w2, kif_pos (rC0 I J).2, (rC0 I J).1])
      have c2 := cs_X11_says a b (rfC 0 I) J (-102, rfM 0 (rfC 0 I), J) (by unfold E_X11_says; rw [kif_pos (hs _ _).2, (hs _ _).1, kif_neg w, in_0_7, kif_pos w2, kif_pos (rM0 _ J).2, (rM0 _ J).1])
      exact ref_both h c1 rfl c2 rfl
    · obtain ⟨s, _, hs7, rfl⟩ := in_yes (lo := 0) (hi := 7) (by omega) (by omega) w
      obtain ⟨q, _, hq7, rfl⟩ := in_yes (lo := 0) (hi := 7) (by omega) (by omega) w2
      have ci : (nI s).toNatClampNeg = s := nI_clamp (by omega)
      have vs : vp_in (nI s) 8 := vl s 8 (by omega) (by omega)
      have hS := h.2.2.2.1 s (by omega)
      have r49 : ∀ k, (rfC k I) 49 0 s = I 49 0 s := fun k => rfC_at _ _ _ _ (by omega)
      rcases sh_cases hS with ⟨e1, e2, e3⟩ | ⟨t, z, ht, hz, e1, e2, e4, e3⟩ | ⟨x, hx, e1, e2, e3⟩
      · have i4 : (if I 49 0 s < 0 then (0 : Int32) else if 4 < I 49 0 s then 0 else 1) = 0 := by rw [e1]; decide
        have ng : ¬ (0 : Int32) ≤ I 49 0 s := by rw [e1]; decide
        have em : F_X4_isEmpty s I J = 1 := by unfold F_X4_isEmpty; rw [e2, kif_pos rfl]
        have c1 := cs_X10_says (nI s) (nI q) I J (-104, rfC 2 I, J) (by unfold E_X10_says; rw [F_within, kif_neg w, kif_pos pk, ek, kif_neg w2, ci, em, kif_neg z1, kif_pos (rC2 I J).2, (rC2 I J).1])
        have c2 := cs_X11_says (nI s) (nI q) (rfC 2 I) J (-104, rfM 2 (rfC 2 I), J) (by unfold E_X11_says; rw [kif_pos (hs _ _).2, (hs _ _).1, kif_neg w, in_0_7, kif_neg w2, kif_pos vs, ci, r49, in_0_4, kif_pos i4, kif_pos vs, kif_neg ng, kif_pos (rM2 _ J).2, (rM2 _ J).1])
        exact MM_f c1 rfl c2 rfl (Inv_ref' h 2 (by omega))
      · have i4 : ¬ (if I 49 0 s < 0 then (0 : Int32) else if 4 < I 49 0 s then 0 else 1) = 0 := by
          have y : (if nI t < 0 then (0 : Int32) else if 4 < nI t then 0 else 1) = 1 := in_k (lo := 0) (hi := 4) (by omega) (by omega) (by omega)
          rw [e1, y]
          exact z1
        have em : F_X4_isEmpty s I J = 0 := by unfold F_X4_isEmpty; rw [e2, kif_neg (nI_m1' t (by omega))]
        have l10 : nI t < 10 := by show nI t < nI 10; rw [i_lt (by omega) (by omega)]; omega
        have en' : F_X4_shipNumber s I J = -1 := by unfold F_X4_shipNumber F_X4_isShip; rw [e2, kif_pos l10, kif_pos rfl]
        have c1 := cs_X10_says (nI s) (nI q) I J (-103, rfC 1 I, J) (by unfold E_X10_says; rw [F_within, kif_neg w, kif_pos pk, ek, kif_neg w2, ci, em, kif_pos rfl, en', F_has2m, kif_pos rfl, kif_pos (rC1 I J).2, (rC1 I J).1])
        have c2 := cs_X11_says (nI s) (nI q) (rfC 1 I) J (-103, rfM 1 (rfC 1 I), J) (by unfold E_X11_says; rw [kif_pos (hs _ _).2, (hs _ _).1, kif_neg w, in_0_7, kif_neg w2, kif_pos vs, ci, r49, in_0_4, kif_neg i4, kif_pos (rM1 _ J).2, (rM1 _ J).1])
        exact MM_f c1 rfl c2 rfl (Inv_ref' h 1 (by omega))
      · have i4 : (if I 49 0 s < 0 then (0 : Int32) else if 4 < I 49 0 s then 0 else 1) = 0 := by
          rw [e1, if_neg (i_nlt0 _ (by omega)), if_pos]
          show nI 4 < nI (10 + x)
          rw [i_lt (by omega) (by omega)]
          omega
        have g0 : (0 : Int32) ≤ I 49 0 s := by rw [e1]; exact Int32.not_lt.mp (i_nlt0 _ (by omega))
        have em : F_X4_isEmpty s I J = 0 := by unfold F_X4_isEmpty; rw [e2, kif_neg (nI_m1' _ (by omega))]
        have l10 : ¬ nI (10 + x) < 10 := by show ¬ nI (10 + x) < nI 10; rw [i_lt (by omega) (by omega)]; omega
        have m10 : nI (10 + x) - (10 : Int32) = nI x := by
          have y : nI (10 + x) - nI 10 = nI (10 + x - 10) := pk_sub (by omega)
          rw [show 10 + x - 10 = x by omega] at y
          exact y
        have en' : F_X4_shipNumber s I J = nI x := by unfold F_X4_shipNumber F_X4_isShip; rw [e2, kif_neg l10, kif_neg z1, m10]
        have eh : F_X2_has 0 (nI x) I J = 1 := by rw [F_has2 hF.1 hF.2.1 x (by omega), if_pos hx]
        have fk := F_kindOf2 hF.1 hF.2.1 hx J
        have fh := F_hourOf2 hF.1 hF.2.1 hx J
        have ff := F_fateOf2 hF.1 hF.2.1 hx J
        have fm := F_metOf2 hF.1 hF.2.1 hx J
        have fK := hF.2.2.1 x hx
        have k1 := hK x hx
        have ekk : I 41 0 (109 + 4 * x) = nI (gk (I 41 0) x) := k1.1.1
        have e26 : I 26 0 x = I 41 0 (109 + 4 * x + 1) := by rw [fK.2.2.2.1]; exact k1.2.2.1.symm
        rw [fK.1] at fk
        rw [e26] at fh
        rw [(hfm x hx).1] at ff
        rw [(hfm x hx).2] at fm
        have o := fun w hw K => ofS x w K J (by omega) hw
        have eu := isU_eq (gk (I 41 0) x) q fK.2.1 fK.2.2.1 hq7 I I J J
        by_cases u : F_X10_isUnder (nI (gk (I 41 0) x)) (nI q) I J = 0
        · have u1 : F_X11_isUnder (nI (gk (I 41 0) x)) (nI q) (rfC 1 I) J = 0 := by
            rw [isU_eq (gk (I 41 0) x) q fK.2.1 fK.2.2.1 hq7 _ I J J]; exact u
          have o0 := o 0 (by omega) (rfC 1 I)
          have p0 : pre_X11_ofShip (nI x) (0 : Int32) (rfC 1 I) J := o0.2
          have f0 : F_X11_ofShip (nI x) (0 : Int32) (rfC 1 I) J = nI (gk (I 41 0) x) := by
            refine o0.1.trans ?_
            rw [rfC_41, Nat.add_zero, ekk]
          have c1 := cs_X10_says (nI s) (nI q) I J (-103, rfC 1 I, J) (by unfold E_X10_says; rw [F_within, kif_neg w, kif_pos pk, ek, kif_neg w2, ci, em, kif_pos rfl, en', eh, kif_neg z1, kif_pos fk.2, fk.1, kif_pos u, kif_pos (rC1 I J).2, (rC1 I J).1])
          have c2 := cs_X11_says (nI s) (nI q) (rfC 1 I) J (-103, rfM 1 (rfC 1 I), J) (by unfold E_X11_says; rw [kif_pos (hs _ _).2, (hs _ _).1, kif_neg w, in_0_7, kif_neg w2, kif_pos vs, ci, r49, in_0_4, kif_pos i4, kif_pos vs, kif_pos g0, kif_pos vs, e1, m10, kif_pos p0, f0, kif_pos u1, kif_pos (rM1 _ J).2, (rM1 _ J).1])
          exact MM_f c1 rfl c2 rfl (Inv_ref' h 1 (by omega))
        · have u1 : ¬ F_X11_isUnder (nI (gk (I 41 0) x)) (nI q) I J = 0 := by rw [eu]; exact u
          have p0 : pre_X11_ofShip (nI x) (0 : Int32) I J := (o 0 (by omega) I).2
          have p1 : pre_X11_ofShip (nI x) (1 : Int32) I J := (o 1 (by omega) I).2
          have p2 : pre_X11_ofShip (nI x) (2 : Int32) I J := (o 2 (by omega) I).2
          have p3 : pre_X11_ofShip (nI x) (3 : Int32) I J := (o 3 (by omega) I).2
          have f0 : F_X11_ofShip (nI x) (0 : Int32) I J = nI (gk (I 41 0) x) := by
            refine (o 0 (by omega) I).1.trans ?_
            rw [Nat.add_zero, ekk]
          have f1 : F_X11_ofShip (nI x) (1 : Int32) I J = I 41 0 (109 + 4 * x + 1) := (o 1 (by omega) I).1
          have f2 : F_X11_ofShip (nI x) (2 : Int32) I J = I 41 0 (109 + 4 * x + 2) := (o 2 (by omega) I).1
          have f3 : F_X11_ofShip (nI x) (3 : Int32) I J = I 41 0 (109 + 4 * x + 3) := (o 3 (by omega) I).1
          have yes : ∀ v, E_X10_saidAs (nI q) (nI x) I J = some v → E_X11_says (nI s) (nI q) I J = some (v, I, J) → MM sp_X10_says sp_X11_says [kx_i (nI s), kx_i (nI q)] N I J := by
            intro v y1 y2
            have c1 := cs_X10_says (nI s) (nI q) I J (v, I, J) (by unfold E_X10_says; rw [F_within, kif_neg w, kif_pos pk, ek, kif_neg w2, ci, em, kif_pos rfl, en', eh, kif_neg z1, kif_pos fk.2, fk.1, kif_neg u, kbd_eq y1])
            have c2 := cs_X11_says _ _ _ _ _ y2
            exact MM_f c1 rfl c2 rfl (Inv_mono h (by omega))
          have c : q = 0 ∨ q = 1 ∨ q = 2 ∨ q = 3 ∨ q = 4 ∨ q = 5 ∨ q = 6 ∨ q = 7 := by omega
          rcases c with rfl | rfl | rfl | rfl | rfl | rfl | rfl | rfl
          · refine yes (I 41 0 (109 + 4 * x + 1)) ?_ ?_
            · unfold E_X10_saidAs
              rw [kif_pos (show nI 0 = 0 from rfl), kif_pos fh.2, fh.1]
            · unfold E_X11_says
              rw [kif_pos (hs _ _).2, (hs _ _).1, kif_neg w, in_0_7, kif_neg w2, kif_pos vs, ci, in_0_4, kif_pos i4, kif_pos vs, kif_pos g0, kif_pos vs, e1, m10, kif_pos p0, f0, kif_neg u1, kif_pos (show nI 0 = 0 from rfl), kif_pos p1, f1]
          · refine yes (lk (gk (I 41 0) x) 0 0 2 0) ?_ ?_
            · unfold E_X10_saidAs
              rw [kif_neg (show ¬ nI 1 = 0 by decide), kif_pos (show nI 1 = 1 from rfl), kif_pos fk.2, fk.1, kbd_eq (E_lacksC _ fK.2.1 fK.2.2.1 0 0 2 0 I J)]
            · unfold E_X11_says
              rw [kif_pos (hs _ _).2, (hs _ _).1, kif_neg w, in_0_7, kif_neg w2, kif_pos vs, ci, in_0_4, kif_pos i4, kif_pos vs, kif_pos g0, kif_pos vs, e1, m10, kif_pos p0, f0, kif_neg u1, kif_neg (show ¬ nI 1 = 0 by decide), kif_pos (show nI 1 = 1 from rfl), kbd_eq (E_lacksM _ fK.2.1 fK.2.2.1 0 0 2 0 I J)]
          · refine yes (lk (gk (I 41 0) x) 1 0 1 0) ?_ ?_
            · unfold E_X10_saidAs
              rw [kif_neg (show ¬ nI 2 = 0 by decide), kif_neg (show ¬ nI 2 = 1 by decide), kif_pos (show nI 2 = 2 from rfl), kif_pos fk.2, fk.1, kbd_eq (E_lacksC _ fK.2.1 fK.2.2.1 1 0 1 0 I J)]
            · unfold E_X11_says
              rw [kif_pos (hs _ _).2, (hs _ _).1, kif_neg w, in_0_7, kif_neg w2, kif_pos vs, ci, in_0_4, kif_pos i4, kif_pos vs, kif_pos g0, kif_pos vs, e1, m10, kif_pos p0, f0, kif_neg u1, kif_neg (show ¬ nI 2 = 0 by decide), kif_neg (show ¬ nI 2 = 1 by decide), kif_pos (show nI 2 = 2 from rfl), kbd_eq (E_lacksM _ fK.2.1 fK.2.2.1 1 0 1 0 I J)]
          · refine yes (I 41 0 (109 + 4 * x + 2)) ?_ ?_
            · unfold E_X10_saidAs
              rw [kif_neg (show ¬ nI 3 = 0 by decide), kif_neg (show ¬ nI 3 = 1 by decide), kif_neg (show ¬ nI 3 = 2 by decide), kif_pos (show nI 3 = 3 from rfl), kif_pos ff.2, ff.1]
            · unfold E_X11_says
              rw [kif_pos (hs _ _).2, (hs _ _).1, kif_neg w, in_0_7, kif_neg w2, kif_pos vs, ci, in_0_4, kif_pos i4, kif_pos vs, kif_pos g0, kif_pos vs, e1, m10, kif_pos p0, f0, kif_neg u1, kif_neg (show ¬ nI 3 = 0 by decide), kif_neg (show ¬ nI 3 = 1 by decide), kif_neg (show ¬ nI 3 = 2 by decide), kif_pos (show nI 3 = 3 from rfl), kif_pos p2, f2]
          · refine yes (I 41 0 (109 + 4 * x + 2)) ?_ ?_
            · unfold E_X10_saidAs
              rw [kif_neg (show ¬ nI 4 = 0 by decide), kif_neg (show ¬ nI 4 = 1 by decide), kif_neg (show ¬ nI 4 = 2 by decide), kif_neg (show ¬ nI 4 = 3 by decide), kif_pos (show nI 4 = 4 from rfl), kif_pos ff.2, ff.1]
            · unfold E_X11_says
              rw [kif_pos (hs _ _).2, (hs _ _).1, kif_neg w, in_0_7, kif_neg w2, kif_pos vs, ci, in_0_4, kif_pos i4, kif_pos vs, kif_pos g0, kif_pos vs, e1, m10, kif_pos p0, f0, kif_neg u1, kif_neg (show ¬ nI 4 = 0 by decide), kif_neg (show ¬ nI 4 = 1 by decide), kif_neg (show ¬ nI 4 = 2 by decide), kif_neg (show ¬ nI 4 = 3 by decide), kif_pos (show nI 4 = 4 from rfl), kif_pos p2, f2]
          · refine yes (I 41 0 (109 + 4 * x + 2)) ?_ ?_
            · unfold E_X10_saidAs
              rw [kif_neg (show ¬ nI 5 = 0 by decide), kif_neg (show ¬ nI 5 = 1 by decide), kif_neg (show ¬ nI 5 = 2 by decide), kif_neg (show ¬ nI 5 = 3 by decide), kif_neg (show ¬ nI 5 = 4 by decide), kif_pos (show nI 5 = 5 from rfl), kif_pos ff.2, ff.1]
            · unfold E_X11_says
              rw [kif_pos (hs _ _).2, (hs _ _).1, kif_neg w, in_0_7, kif_neg w2, kif_pos vs, ci, in_0_4, kif_pos i4, kif_pos vs, kif_pos g0, kif_pos vs, e1, m10, kif_pos p0, f0, kif_neg u1, kif_neg (show ¬ nI 5 = 0 by decide), kif_neg (show ¬ nI 5 = 1 by decide), kif_neg (show ¬ nI 5 = 2 by decide), kif_neg (show ¬ nI 5 = 3 by decide), kif_neg (show ¬ nI 5 = 4 by decide), kif_pos (show nI 5 = 5 from rfl), kif_pos p2, f2]
          · refine yes (I 41 0 (109 + 4 * x + 3)) ?_ ?_
            · unfold E_X10_saidAs
              rw [kif_neg (show ¬ nI 6 = 0 by decide), kif_neg (show ¬ nI 6 = 1 by decide), kif_neg (show ¬ nI 6 = 2 by decide), kif_neg (show ¬ nI 6 = 3 by decide), kif_neg (show ¬ nI 6 = 4 by decide), kif_neg (show ¬ nI 6 = 5 by decide), kif_pos (show nI 6 = 6 from rfl), kif_pos fm.2, fm.1]
            · unfold E_X11_says
              rw [kif_pos (hs _ _).2, (hs _ _).1, kif_neg w, in_0_7, kif_neg w2, kif_pos vs, ci, in_0_4, kif_pos i4, kif_pos vs, kif_pos g0, kif_pos vs, e1, m10, kif_pos p0, f0, kif_neg u1, kif_neg (show ¬ nI 6 = 0 by decide), kif_neg (show ¬ nI 6 = 1 by decide), kif_neg (show ¬ nI 6 = 2 by decide), kif_neg (show ¬ nI 6 = 3 by decide), kif_neg (show ¬ nI 6 = 4 by decide), kif_neg (show ¬ nI 6 = 5 by decide), kif_pos (show nI 6 = 6 from rfl), kif_pos p3, f3]
          · by_cases y : I 41 0 (109 + 4 * x + 2) = 2
            · refine yes 1 ?_ ?_
              · unfold E_X10_saidAs
                rw [kif_neg (show ¬ nI 7 = 0 by decide), kif_neg (show ¬ nI 7 = 1 by decide), kif_neg (show ¬ nI 7 = 2 by decide), kif_neg (show ¬ nI 7 = 3 by decide), kif_neg (show ¬ nI 7 = 4 by decide), kif_neg (show ¬ nI 7 = 5 by decide), kif_neg (show ¬ nI 7 = 6 by decide), kif_pos (show nI 7 = 7 from rfl), kif_pos ff.2, ff.1, kif_pos y]
              · unfold E_X11_says
                rw [kif_pos (hs _ _).2, (hs _ _).1, kif_neg w, in_0_7, kif_neg w2, kif_pos vs, ci, in_0_4, kif_pos i4, kif_pos vs, kif_pos g0, kif_pos vs, e1, m10, kif_pos p0, f0, kif_neg u1, kif_neg (show ¬ nI 7 = 0 by decide), kif_neg (show ¬ nI 7 = 1 by decide), kif_neg (show ¬ nI 7 = 2 by decide), kif_neg (show ¬ nI 7 = 3 by decide), kif_neg (show ¬ nI 7 = 4 by decide), kif_neg (show ¬ nI 7 = 5 by decide), kif_neg (show ¬ nI 7 = 6 by decide), kif_pos (show nI 7 = 7 from rfl), kif_pos p2, f2, kif_pos y]
            · refine yes 0 ?_ ?_
              · unfold E_X10_saidAs
                rw [kif_neg (show ¬ nI 7 = 0 by decide), kif_neg (show ¬ nI 7 = 1 by decide), kif_neg (show ¬ nI 7 = 2 by decide), kif_neg (show ¬ nI 7 = 3 by decide), kif_neg (show ¬ nI 7 = 4 by decide), kif_neg (show ¬ nI 7 = 5 by decide), kif_neg (show ¬ nI 7 = 6 by decide), kif_pos (show nI 7 = 7 from rfl), kif_pos ff.2, ff.1, kif_neg y]
              · unfold E_X11_says
                rw [kif_pos (hs _ _).2, (hs _ _).1, kif_neg w, in_0_7, kif_neg w2, kif_pos vs, ci, in_0_4, kif_pos i4, kif_pos vs, kif_pos g0, kif_pos vs, e1, m10, kif_pos p0, f0, kif_neg u1, kif_neg (show ¬ nI 7 = 0 by decide), kif_neg (show ¬ nI 7 = 1 by decide), kif_neg (show ¬ nI 7 = 2 by decide), kif_neg (show ¬ nI 7 = 3 by decide), kif_neg (show ¬ nI 7 = 4 by decide), kif_neg (show ¬ nI 7 = 5 by decide), kif_neg (show ¬ nI 7 = 6 by decide), kif_pos (show nI 7 = 7 from rfl), kif_pos p2, f2, kif_neg y]

/-! judge -/
theorem e2k (k : Nat) : (2 : Int32) * nI k = nI (2 * k) := pk_mul 2 k
theorem g_judge {N : Nat} {I : kI} {J : kJ} (h : Inv N I J) {s z i t : Nat} (hs : s ≤ 7) (e3 : I 4 s 1 = nI z) (hz : z ≤ 40) (hi : i < 2147483648) (ht : 2 * t ≤ z) : ∀ n k m, k + n = t → n + 1 ≤ m → ∃ v, G_X10_judge (nI i) (nI s) (nI t) m 74 (nI k) I J = some (v, I, J) ∧ G_X11_judge (nI i) (nI s) (nI t) m 85 (nI k) I J = some (v, I, J) := by
  have hS := h.2.2.2.1 s (by omega)
  have hL := h.1.2.2.2.2.2.2.2.2.2.1
  have hL2 := hL.2
  have cL := h.2.1.2.2.1
  have z1 : ¬ (1 : Int32) = 0 := by decide
  have l15 : ((15 : Int32)).toNatClampNeg = 15 := rfl
  have v15 : vp_in (15 : Int32) 2509 := vl 15 2509 (by omega) (by omega)
  have ci : (nI s).toNatClampNeg = s := nI_clamp (by omega)
  intro n
  induction n with
  | zero =>
    intro k m hk hm
    obtain ⟨m, rfl⟩ : ∃ m', m = m' + 1 := ⟨m - 1, by omega⟩
    refine ⟨-1, ?_, ?_⟩
    · rw [G_X10_judge_74, kif_pos (by rw [i_le (by omega) (by omega)]; omega)]
    · rw [G_X11_judge_85, kif_pos (by rw [i_le (by omega) (by omega)]; omega)]
  | succ n ih =>
    intro k m hk hm
    obtain ⟨m, rfl⟩ : ∃ m', m = m' + 1 := ⟨m - 1, by omega⟩
    have hn := ih (k + 1) m (by omega) (by omega)
    rw [← nI_1] at hn
    have nk : ¬ nI t ≤ nI k := by rw [i_le (by omega) (by omega)]; omega
    have hh : ∀ a J, F_X3_has 0 a I J = hasW (I 41 0 15) a := fun a J => by rw [has3_W, cL.1]
    have w2 : vp_in (((40 : Int32) * nI s) + ((2 : Int32) * nI k)) 320 := by rw [e2k, e40]; exact vl _ 320 (by omega) (by omega)
    have no : F_X10_isAsTold (nI i) (nI k) s I J = 0 → pre_X10_isAsTold (nI i) (nI k) s I J → (G_X11_judge (nI i) (nI s) (nI t) (m + 1) 85 (nI k) I J = some (nI k, I, J)) → ∃ v, G_X10_judge (nI i) (nI s) (nI t) (m + 1) 74 (nI k) I J = some (v, I, J) ∧ G_X11_judge (nI i) (nI s) (nI t) (m + 1) 85 (nI k) I J = some (v, I, J) := fun a b c => by
      refine ⟨nI k, ?_, c⟩
      rw [G_X10_judge_74, kif_neg nk, ci, kif_pos b, kif_pos a]
    by_cases hc : i + k < nn (I 41 0 15)
    · have b1 : hasW (I 41 0 15) (nI i) = 1 := hasW_k hL (by omega) (by omega)
      have b2 : hasW (I 41 0 15) (nI (i + k)) = 1 := hasW_k hL (by omega) hc
      have ce := cL.2 (i + k) hc
      have cik : (nI (i + k)).toNatClampNeg = i + k := nI_clamp (by omega)
      have ve := valEl hS (nI (2 * k)) J
      have ve1 := valEl hS (nI (2 * k + 1)) J
      rw [e3, hasW_k (rg_nI hz (by omega)) (by omega) (by rw [nn_nI (by omega)]; omega), if_neg z1, nI_clamp (by omega), hS.2.1 _ (by omega)] at ve
      rw [e3, hasW_k (rg_nI hz (by omega)) (by omega) (by rw [nn_nI (by omega)]; omega), if_neg z1, nI_clamp (by omega), hS.2.1 _ (by omega)] at ve1
      have es : F_X3_sortOf 0 (nI (i + k)) I J = I 41 0 (909 + 4 * (i + k) + 1) ∧ pre_X3_sortOf 0 (nI (i + k)) I J := by
        unfold F_X3_sortOf pre_X3_sortOf
        rw [hh, b2, kif_neg z1, kif_neg z1, cik, ce.2.1]
        exact ⟨rfl, vl _ 400 (by omega) (by omega), trivial⟩
      have eh : F_X3_shipOfEntry 0 (nI (i + k)) I J = I 41 0 (909 + 4 * (i + k) + 2) ∧ pre_X3_shipOfEntry 0 (nI (i + k)) I J := by
        unfold F_X3_shipOfEntry pre_X3_shipOfEntry
        rw [hh, b2, kif_neg z1, kif_neg z1, cik, ce.2.2.1]
        exact ⟨rfl, vl _ 400 (by omega) (by omega), trivial⟩
      have d1 : (((909 : Int32) + 4 * nI (i + k)) + 1).toNatClampNeg = 909 + 4 * (i + k) + 1 := ix3c (a := 909) (b := 4) (c := 1) (by omega)
      have x1 : vp_in (((909 : Int32) + 4 * nI (i + k)) + 1) 2509 := ix3v (a := 909) (b := 4) (c := 1) (by omega) (by omega)
      have d2 : (((909 : Int32) + 4 * nI (i + k)) + 2).toNatClampNeg = 909 + 4 * (i + k) + 2 := ix3c (a := 909) (b := 4) (c := 2) (by omega)
      have x2 : vp_in (((909 : Int32) + 4 * nI (i + k)) + 2) 2509 := ix3v (a := 909) (b := 4) (c := 2) (by omega) (by omega)
      have y1 : (((40 : Int32) * nI s) + ((2 : Int32) * nI k)).toNatClampNeg = 40 * s + 2 * k := by rw [e2k, e40, nI_clamp (by omega)]
      have e41 : (((40 : Int32) * nI s) + ((2 : Int32) * nI k)) + 1 = nI (40 * s + (2 * k + 1)) := by rw [e2k, e40, nI_1]; rfl
      have y2 : ((((40 : Int32) * nI s) + ((2 : Int32) * nI k)) + 1).toNatClampNeg = 40 * s + (2 * k + 1) := by rw [e41, nI_clamp (by omega)]
      have x3 : vp_in ((((40 : Int32) * nI s) + ((2 : Int32) * nI k)) + 1) 320 := by rw [e41]; exact vl _ 320 (by omega) (by omega)
      have nl : ¬ I 41 0 15 - nI k ≤ nI i := by
        have e : I 41 0 15 - nI k = nI (nn (I 41 0 15) - k) := by
          have q : nI (nn (I 41 0 15)) - nI k = nI (nn (I 41 0 15) - k) := pk_sub (by omega)
          rw [← hL.1] at q
          exact q
        rw [e, i_le (by omega) (by omega)]
        omega
      have e21 : (2 : Int32) * nI k + 1 = nI (2 * k + 1) := by rw [e2k, nI_1]
      have mod : ∀ R, kif ((lg_cmp (J 51 0 (40 * s + 2 * k)) (Int32.toInt64 (I 41 0 (909 + 4 * (i + k) + 1)))) = 0) (kif ((lg_cmp (J 51 0 (40 * s + (2 * k + 1))) (Int32.toInt64 (I 41 0 (909 + 4 * (i + k) + 2)))) = 0) (G_X11_judge (nI i) (nI s) (nI t) m 85 (nI k + 1) I J) (some (nI k, I, J))) (some (nI k, I, J)) = R → G_X11_judge (nI i) (nI s) (nI t) (m + 1) 85 (nI k) I J = R := fun R hR => by
        rw [G_X11_judge_85, kif_neg nk, kif_pos v15, l15, kif_neg nl, kif_pos w2, nI_add, kif_pos x1, y1, d1, kif_pos x3, kif_pos x2, y2, d2, kif_neg z1, kif_pos rfl]
        exact hR
      by_cases q1 : (lg_cmp (J 51 0 (40 * s + 2 * k)) (Int32.toInt64 (I 41 0 (909 + 4 * (i + k) + 1)))) = 0
      · by_cases q2 : (lg_cmp (J 51 0 (40 * s + (2 * k + 1))) (Int32.toInt64 (I 41 0 (909 + 4 * (i + k) + 2)))) = 0
        · obtain ⟨v, v1, v2⟩ := hn
          refine ⟨v, ?_, mod _ (by rw [kif_pos q1, kif_pos q2]; exact v2)⟩
          have pr : pre_X10_isAsTold (nI i) (nI k) s I J := by
            unfold pre_X10_isAsTold
            rw [hh, b1, kif_neg z1, hh, nI_add, b2, kif_neg z1, e21, e2k, ve.1, es.1, kif_pos q1]
            exact ⟨ve.2, es.2, ve1.2, eh.2, trivial⟩
          have ea : F_X10_isAsTold (nI i) (nI k) s I J = 1 := by
            unfold F_X10_isAsTold
            rw [hh, b1, kif_neg z1, hh, nI_add, b2, kif_neg z1, e21, e2k, ve.1, es.1, kif_pos q1, ve1.1, eh.1, kif_pos q2]
          rw [G_X10_judge_74, kif_neg nk, ci, kif_pos pr, ea, kif_neg z1]
          exact v1
        · refine no ?_ ?_ (mod _ (by rw [kif_pos q1, kif_neg q2]))
          · unfold F_X10_isAsTold
            rw [hh, b1, kif_neg z1, hh, nI_add, b2, kif_neg z1, e21, e2k, ve.1, es.1, kif_pos q1, ve1.1, eh.1, kif_neg q2]
          · unfold pre_X10_isAsTold
            rw [hh, b1, kif_neg z1, hh, nI_add, b2, kif_neg z1, e21, e2k, ve.1, es.1, kif_pos q1]
            exact ⟨ve.2, es.2, ve1.2, eh.2, trivial⟩
      · refine no ?_ ?_ (mod _ (by rw [kif_neg q1]))
        · unfold F_X10_isAsTold
          rw [hh, b1, kif_neg z1, hh, nI_add, b2, kif_neg z1, e21, e2k, ve.1, es.1, kif_neg q1]
        · unfold pre_X10_isAsTold
          rw [hh, b1, kif_neg z1, hh, nI_add, b2, kif_neg z1, e21, e2k, ve.1, es.1, kif_neg q1]
          exact ⟨ve.2, es.2, trivial⟩
    · have le : I 41 0 15 - nI k ≤ nI i := by
        have e1 := rg_toInt hL (by omega)
        have e2 : (nI k).toInt = (k : Int) := iz_nI (by omega)
        rw [Int32.le_iff_toInt_le, iz_sub (by rw [e1, e2]; omega), e1, e2, iz_nI hi]
        omega
      refine no ?_ ?_ ?_
      · unfold F_X10_isAsTold
        by_cases q : hasW (I 41 0 15) (nI i) = 0
        · rw [hh, kif_pos q]
        · obtain ⟨i', hi', ei⟩ := hasW_yes hL (by omega) q
          have ei2 := nI_inj hi (by omega) ei
          have q2 : hasW (I 41 0 15) (nI (i + k)) = 0 := by
            rcases hasW_01 (I 41 0 15) (nI (i + k)) with y | y
            · exact y
            · obtain ⟨j', hj', ej⟩ := hasW_yes hL (by omega) (by rw [y]; exact z1)
              have ej2 := nI_inj (by omega) (by omega) ej
              omega
          rw [hh, kif_neg q, hh, nI_add, kif_pos q2]
      · unfold pre_X10_isAsTold
        by_cases q : hasW (I 41 0 15) (nI i) = 0
        · rw [hh, kif_pos q]; trivial
        · obtain ⟨i', hi', ei⟩ := hasW_yes hL (by omega) q
          have ei2 := nI_inj hi (by omega) ei
          have q2 : hasW (I 41 0 15) (nI (i + k)) = 0 := by
            rcases hasW_01 (I 41 0 15) (nI (i + k)) with y | y
            · exact y
            · obtain ⟨j', hj', ej⟩ := hasW_yes hL (by omega) (by rw [y]; exact z1)
              have ej2 := nI_inj (by omega) (by omega) ej
              omega
          rw [hh, kif_neg q, hh, nI_add, kif_pos q2]; trivial
      · rw [G_X11_judge_85, kif_neg nk, kif_pos v15, l15, kif_pos le, kif_pos rfl]
theorem mm_judge {N : Nat} {I : kI} {J : kJ} (h : Inv N I J) (a b c : Int32) : MM sp_X10_judge sp_X11_judge [kx_i a, kx_i b, kx_i c] N I J := by
  have hs := fun I J => isShelf_p b I J
  have n102 : ¬ (-102 : Int32) = 0 := by decide
  have n103 : ¬ (-103 : Int32) = 0 := by decide
  have n104 : ¬ (-104 : Int32) = 0 := by decide
  by_cases a0 : a < 0
  · have c1 := cs_X10_judge a b c I J (-102, rfC 0 I, J) (by
      unfold E_X10_judge
      rw [kif_pos a0, kif_pos a0, (rC0 I J).1, kif_pos (rC0 I J).2]
      exact kif_id)
    have c2 := cs_X11_judge a b c (rfC 0 I) J (-102, rfM 0 (rfC 0 I), J) (by unfold E_X11_judge; rw [kif_pos a0, kif_pos (rM0 _ J).2, (rM0 _ J).1])
    exact ref_both h c1 rfl c2 rfl
  · obtain ⟨i, hi, rfl⟩ := ge0 (Int32.not_lt.mp a0)
    by_cases w : (if b < 0 then (0 : Int32) else if 7 < b then 0 else 1) = 0
    · have c1 := cs_X10_judge (nI i) b c I J (-102, rfC 0 I, J) (by unfold E_X10_judge; rw [F_within, kif_pos w, kif_neg a0, kif_pos (rC0 I J).2, (rC0 I J).1])
      have c2 := cs_X11_judge (nI i) b c (rfC 0 I) J (-102, rfM 0 (rfC 0 I), J) (by unfold E_X11_judge; rw [kif_neg a0, kif_pos (hs _ _).2, (hs _ _).1, kif_pos w, kif_pos (rM0 _ J).2, (rM0 _ J).1])
      exact ref_both h c1 rfl c2 rfl
    · by_cases w3 : (if c < 0 then (0 : Int32) else if 20 < c then 0 else 1) = 0
      · have c1 := cs_X10_judge (nI i) b c I J (-102, rfC 0 I, J) (by unfold E_X10_judge; rw [F_within, kif_neg w, kif_neg a0, F_within, kif_pos w3, kif_pos (rC0 I J).2, (rC0 I J).1])
        have c2 := cs_X11_judge (nI i) b c (rfC 0 I) J (-102, rfM 0 (rfC 0 I), J) (by unfold E_X11_judge; rw [kif_neg a0, kif_pos (hs _ _).2, (hs _ _).1, kif_neg w, in_0_20, kif_pos w3, kif_pos (rM0 _ J).2, (rM0 _ J).1])
        exact ref_both h c1 rfl c2 rfl
      · obtain ⟨s, _, hs7, rfl⟩ := in_yes (lo := 0) (hi := 7) (by omega) (by omega) w
        obtain ⟨t, _, ht20, rfl⟩ := in_yes (lo := 0) (hi := 20) (by omega) (by omega) w3
        have ci : (nI s).toNatClampNeg = s := nI_clamp (by omega)
        have vs : vp_in (nI s) 8 := vl s 8 (by omega) (by omega)
        have hS := h.2.2.2.1 s (by omega)
        have hc := h.1.2.2.2.1.2
        rcases sh_cases hS with ⟨e1, e2, e3⟩ | ⟨u, z, hu, hz, e1, e2, e4, e3⟩ | ⟨x, hx, e1, e2, e3⟩
        · have r49 : (rfC 2 I) 49 0 s = -1 := by rw [rfC_at _ _ _ _ (by omega), e1]
          have c1 := cs_X10_judge (nI i) (nI s) (nI t) I J (-104, rfC 2 I, J) (by unfold E_X10_judge; rw [F_within, kif_neg w, kif_neg a0, F_within, kif_neg w3, kbd_eq (against_E hs7 hS.1 e1), kif_neg n104, kif_pos (rC2 I J).2, (rC2 I J).1])
          have c2 := cs_X11_judge (nI i) (nI s) (nI t) (rfC 2 I) J (-104, rfM 2 (rfC 2 I), J) (by unfold E_X11_judge; rw [kif_neg a0, kif_pos (hs _ _).2, (hs _ _).1, kif_neg w, in_0_20, kif_neg w3, kif_pos vs, ci, r49, kif_pos (by decide), kif_pos vs, kif_neg (by decide), kif_pos (rM2 _ J).2, (rM2 _ J).1])
          exact MM_f c1 rfl c2 rfl (Inv_ref' h 2 (by omega))
        · have l4 : nI u ≤ 4 := by show nI u ≤ nI 4; rw [i_le (by omega) (by omega)]; exact hu
          have g0 : (0 : Int32) ≤ nI u := Int32.not_lt.mp (i_nlt0 u (by omega))
          have hE := hasEls s z hz 0 (2 * nI t) I J e3
          have hz2 : F_X4_hasElements s 0 (2 * nI t) I J = 0 ↔ z < 2 * t := by
            have s0 : nI z - 0 = nI z := Int32.sub_zero _
            rw [hE, s0, e2k]
            constructor
            · rintro (y | y | y | y)
              · exact absurd y (i_nlt0 _ (by omega))
              · exact absurd y (by decide)
              · have y' : nI z < nI 0 := y
                rw [i_lt (by omega) (by omega)] at y'
                omega
              · rw [i_lt (by omega) (by omega)] at y
                exact y
            · intro y
              refine Or.inr (Or.inr (Or.inr ?_))
              rw [i_lt (by omega) (by omega)]
              exact y
          by_cases q : z < 2 * t
          · have r49 : (rfC 0 I) 49 0 s = nI u := by rw [rfC_at _ _ _ _ (by omega), e1]
            have r50 : (rfC 0 I) 50 0 s = nI z := by rw [rfC_at _ _ _ _ (by omega), e4]
            have nl : ¬ (2 : Int32) * nI t ≤ nI z := by rw [e2k, i_le (by omega) (by omega)]; omega
            have c1 := cs_X10_judge (nI i) (nI s) (nI t) I J (-102, rfC 0 I, J) (by unfold E_X10_judge; rw [F_within, kif_neg w, kif_neg a0, F_within, kif_neg w3, kbd_eq (against_R hs7 hS.1 hu e1), kif_pos rfl, ci, kif_pos (hz2.mpr q), kif_pos (rC0 I J).2, (rC0 I J).1])
            have c2 := cs_X11_judge (nI i) (nI s) (nI t) (rfC 0 I) J (-102, rfM 0 (rfC 0 I), J) (by unfold E_X11_judge; rw [kif_neg a0, kif_pos (hs _ _).2, (hs _ _).1, kif_neg w, in_0_20, kif_neg w3, kif_pos vs, ci, r49, kif_pos l4, kif_pos vs, kif_pos g0, kif_pos vs, r50, kif_neg nl, kif_pos (rM0 _ J).2, (rM0 _ J).1])
            exact ref_both h c1 rfl c2 rfl
          · have yl : (2 : Int32) * nI t ≤ nI z := by rw [e2k, i_le (by omega) (by omega)]; omega
            obtain ⟨v, v1, v2⟩ := g_judge h hs7 e3 hz hi (show 2 * t ≤ z by omega) t 0 kfu (by omega) (by unfold kfu; omega)
            have c1 := cs_X10_judge (nI i) (nI s) (nI t) I J (v, I, J) (by unfold E_X10_judge; rw [F_within, kif_neg w, kif_neg a0, F_within, kif_neg w3, kbd_eq (against_R hs7 hS.1 hu e1), kif_pos rfl, ci, kif_neg (fun y => q (hz2.mp y))]; exact v1)
            have c2 := cs_X11_judge (nI i) (nI s) (nI t) I J (v, I, J) (by unfold E_X11_judge; rw [kif_neg a0, kif_pos (hs _ _).2, (hs _ _).1, kif_neg w, in_0_20, kif_neg w3, kif_pos vs, ci, e1, kif_pos l4, kif_pos vs, kif_pos g0, kif_pos vs, e4, kif_pos yl]; exact v2)
            exact MM_f c1 rfl c2 rfl (Inv_mono h (by omega))
        · have r49 : (rfC 1 I) 49 0 s = nI (10 + x) := by rw [rfC_at _ _ _ _ (by omega), e1]
          have nl : ¬ nI (10 + x) ≤ 4 := by show ¬ nI (10 + x) ≤ nI 4; rw [i_le (by omega) (by omega)]; omega
          have c1 := cs_X10_judge (nI i) (nI s) (nI t) I J (-103, rfC 1 I, J) (by unfold E_X10_judge; rw [F_within, kif_neg w, kif_neg a0, F_within, kif_neg w3, kbd_eq (against_S hs7 hS.1 (by omega) e1), kif_neg n103, kif_pos (rC1 I J).2, (rC1 I J).1])
          have c2 := cs_X11_judge (nI i) (nI s) (nI t) (rfC 1 I) J (-103, rfM 1 (rfC 1 I), J) (by unfold E_X11_judge; rw [kif_neg a0, kif_pos (hs _ _).2, (hs _ _).1, kif_neg w, in_0_20, kif_neg w3, kif_pos vs, ci, r49, kif_neg nl, kif_pos (rM1 _ J).2, (rM1 _ J).1])
          exact MM_f c1 rfl c2 rfl (Inv_ref' h 1 (by omega))

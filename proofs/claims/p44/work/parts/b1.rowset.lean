/-! row, set -/
def zL (f : Nat → Int64) (s i : Nat) : Nat → Int64 := fun x => if 40 * s ≤ x ∧ x < 40 * s + i then 0 else f x
theorem g_row (a1 a2 : Int32) (s : Nat) (hs : s < 8) (I : kI) (J : kJ) : ∀ n i m, i + n = 40 → n + 1 ≤ m → G_X11_row (nI s) a1 a2 m 55 (nI i) I (kx_uL J 51 0 (zL (J 51 0) s i)) = some (1, I, kx_uL J 51 0 (zL (J 51 0) s 40)) := by
  intro n
  induction n with
  | zero =>
    intro i m hi hm
    obtain ⟨m, rfl⟩ : ∃ m', m = m' + 1 := ⟨m - 1, by omega⟩
    obtain rfl : i = 40 := by omega
    rw [G_X11_row_55, kif_pos (by decide)]
  | succ n ih =>
    intro i m hi hm
    obtain ⟨m, rfl⟩ : ∃ m', m = m' + 1 := ⟨m - 1, by omega⟩
    have hn := ih (i + 1) m (by omega) (by omega)
    have e : vp_updL (zL (J 51 0) s i) (40 * s + i) 0 = zL (J 51 0) s (i + 1) := by
      funext x
      simp only [vp_updL, zL]
      by_cases q : x = 40 * s + i
      · rw [if_pos q, if_pos (by omega)]
      · rw [if_neg q]
        by_cases q2 : 40 * s ≤ x ∧ x < 40 * s + i
        · rw [if_pos q2, if_pos (by omega)]
        · rw [if_neg q2, if_neg (by omega)]
    rw [G_X11_row_55, kif_neg (by show ¬ nI 40 ≤ nI i; rw [i_le (by omega) (by omega)]; omega), e40, kif_pos (vl _ 320 (by omega) (by omega)), nI_clamp (by omega), kwL_uL, e, nI_1]
    exact hn
theorem zL_0 (f : Nat → Int64) (s : Nat) : zL f s 0 = f := by
  funext x
  unfold zL
  rw [if_neg (by omega)]
theorem uL_at (J : kJ) (t o : Nat) (f : Nat → Int64) {t2 o2 : Nat} (j : Nat) (h : ¬ (t2 = t ∧ o2 = o)) : kx_uL J t o f t2 o2 j = J t2 o2 j := by rw [kx_uL_app, if_neg h]
theorem uL_on (J : kJ) (t o : Nat) (f : Nat → Int64) (j : Nat) : kx_uL J t o f t o j = f j := by rw [kx_uL_app, if_pos ⟨rfl, rfl⟩]
theorem mm_row {N : Nat} {I : kI} {J : kJ} (h : Inv N I J) (a b c : Int32) : MM sp_X10_row sp_X11_row [kx_i a, kx_i b, kx_i c] N I J := by
  have hs := fun I J => isShelf_p a I J
  by_cases w : (if a < 0 then (0 : Int32) else if 7 < a then 0 else 1) = 0
  · have c1 := cs_X10_row a b c I J (-102, rfC 0 I, J) (by unfold E_X10_row; rw [F_within, kif_pos w, kif_pos (rC0 I J).2, (rC0 I J).1])
    have c2 := cs_X11_row a b c (rfC 0 I) J (-102, rfM 0 (rfC 0 I), J) (by unfold E_X11_row; rw [kif_pos (hs _ _).2, (hs _ _).1, kif_pos w, kif_pos (rM0 _ J).2, (rM0 _ J).1])
    exact ref_both h c1 rfl c2 rfl
  · by_cases w2 : (if b < 0 then (0 : Int32) else if 4 < b then 0 else 1) = 0
    · have c1 := cs_X10_row a b c I J (-102, rfC 0 I, J) (by unfold E_X10_row; rw [F_within, kif_neg w, F_within, kif_pos w2, kif_pos (rC0 I J).2, (rC0 I J).1])
      have c2 := cs_X11_row a b c (rfC 0 I) J (-102, rfM 0 (rfC 0 I), J) (by unfold E_X11_row; rw [kif_pos (hs _ _).2, (hs _ _).1, kif_neg w, in_0_4, kif_pos w2, kif_pos (rM0 _ J).2, (rM0 _ J).1])
      exact ref_both h c1 rfl c2 rfl
    · by_cases w3 : (if c < 0 then (0 : Int32) else if 40 < c then 0 else 1) = 0
      · have c1 := cs_X10_row a b c I J (-102, rfC 0 I, J) (by unfold E_X10_row; rw [F_within, kif_neg w, F_within, kif_neg w2, F_within, kif_pos w3, kif_pos (rC0 I J).2, (rC0 I J).1])
        have c2 := cs_X11_row a b c (rfC 0 I) J (-102, rfM 0 (rfC 0 I), J) (by unfold E_X11_row; rw [kif_pos (hs _ _).2, (hs _ _).1, kif_neg w, in_0_4, kif_neg w2, in_0_40, kif_pos w3, kif_pos (rM0 _ J).2, (rM0 _ J).1])
        exact ref_both h c1 rfl c2 rfl
      · obtain ⟨s, _, hs7, rfl⟩ := in_yes (lo := 0) (hi := 7) (by omega) (by omega) w
        obtain ⟨t, _, ht, rfl⟩ := in_yes (lo := 0) (hi := 4) (by omega) (by omega) w2
        obtain ⟨z, _, hz, rfl⟩ := in_yes (lo := 0) (hi := 40) (by omega) (by omega) w3
        have ci : (nI s).toNatClampNeg = s := nI_clamp (by omega)
        have vs : vp_in (nI s) 8 := vl s 8 (by omega) (by omega)
        obtain ⟨I1, hI1⟩ : ∃ I1, I1 = kw (kw I 4 s 2 (nI t)) 4 s 1 (nI z) := ⟨_, rfl⟩
        obtain ⟨J1, hJ1⟩ : ∃ J1, J1 = kx_uL J 34 s (fun k => if k < 40 then 0 else J 34 s k) := ⟨_, rfl⟩
        have c1 := cs_X10_row (nI s) (nI t) (nI z) I J (1, I1, J1) (by
          unfold E_X10_row E_X4_takeRow F_J7_fill_d0a16
          rw [F_within, kif_neg w, F_within, kif_neg w2, F_within, kif_neg w3, ci, hI1, hJ1]
          rfl)
        obtain ⟨m, hm⟩ : ∃ m, kfu = m + 41 := ⟨kfu - 41, by unfold kfu; omega⟩
        have g := g_row (nI t) (nI z) s (by omega) (kw (kw I1 49 0 s (nI t)) 50 0 s (nI z)) J1 40 0 kfu (by omega) (by omega)
        rw [zL_0, kx_uL_id] at g
        have c2 := cs_X11_row (nI s) (nI t) (nI z) I1 J1 _ (by
          unfold E_X11_row
          rw [kif_pos (hs _ _).2, (hs _ _).1, kif_neg w, in_0_4, kif_neg w2, in_0_40, kif_neg w3, kif_pos vs, kif_pos vs, ci]
          exact g)
        refine MM_f c1 rfl c2 rfl ?_
        refine Inv_sh h (fun t o j a b c => by rw [kw_at _ _ (by omega), kw_at _ _ (by omega), hI1, kw_at _ _ (by omega), kw_at _ _ (by omega)]) (fun s2 hs2 => ?_)
        have e41 : (kw (kw I1 49 0 s (nI t)) 50 0 s (nI z)) 41 0 14 = I 41 0 14 := by rw [kw_at _ _ (by omega), kw_at _ _ (by omega), hI1, kw_at _ _ (by omega), kw_at _ _ (by omega)]
        rw [e41]
        by_cases q : s2 = s
        · subst q
          have b1 : (kw (kw I1 49 0 s2 (nI t)) 50 0 s2 (nI z)) 4 s2 2 = nI t := by rw [kw_at _ _ (by omega), kw_at _ _ (by omega), hI1, kw_at _ _ (by omega), kw_app, if_pos ⟨rfl, rfl, rfl⟩]
          have b2 : (kw (kw I1 49 0 s2 (nI t)) 50 0 s2 (nI z)) 4 s2 1 = nI z := by rw [kw_at _ _ (by omega), kw_at _ _ (by omega), hI1, kw_app, if_pos ⟨rfl, rfl, rfl⟩]
          have b3 : (kw (kw I1 49 0 s2 (nI t)) 50 0 s2 (nI z)) 49 0 s2 = nI t := by rw [kw_at _ _ (by omega), kw_app, if_pos ⟨rfl, rfl, rfl⟩]
          have b4 : (kw (kw I1 49 0 s2 (nI t)) 50 0 s2 (nI z)) 50 0 s2 = nI z := by rw [kw_app, if_pos ⟨rfl, rfl, rfl⟩]
          unfold shl
          rw [b1, b2, b3, b4]
          refine ⟨rfl, fun j hj => ?_, Or.inr (Or.inl ⟨rg_nI ht (by omega), rg_nI hz (by omega), rfl⟩)⟩
          rw [uL_at _ _ _ _ _ (by omega), hJ1, uL_on, if_pos hj, uL_on]
          unfold zL
          rw [if_pos (by omega)]
        · refine shl_congr (h.2.2.2.1 s2 hs2) (Nat.le_refl _) (fun j => by rw [kw_at _ _ (by omega), kw_at _ _ (by omega), hI1, kw_at _ _ (by omega), kw_at _ _ (by omega)]) (by rw [kw_at _ _ (by omega), kw_at _ _ (by omega), hI1, kw_at _ _ (by omega), kw_at _ _ (by omega)]) (by rw [kw_at _ _ (by omega), kw_at _ _ (by omega), hI1, kw_at _ _ (by omega), kw_at _ _ (by omega)]) (fun j hj => ?_) (fun j hj => ?_)
          · rw [uL_at _ _ _ _ _ (by omega), hJ1, uL_at _ _ _ _ _ (by omega)]
          · rw [uL_on]
            unfold zL
            rw [if_neg (by omega), hJ1, uL_at _ _ _ _ _ (by omega)]
/-- how a shelf stands against a row's method -/
theorem against_E {I : kI} {J : kJ} {s : Nat} (hs : s ≤ 7) (hS : I 4 s 2 = I 49 0 s) (he : I 49 0 s = -1) : E_X10_againstRowIn (nI s) I J = some (-104) := by
  have ci : (nI s).toNatClampNeg = s := nI_clamp (by omega)
  have w : (if nI s < 0 then (0 : Int32) else if 7 < nI s then 0 else 1) = 1 := in_k (lo := 0) (hi := 7) (by omega) (by omega) hs
  unfold E_X10_againstRowIn F_X4_isShip F_X4_isEmpty
  rw [F_within, w, kif_neg (by decide), ci, hS, he, kif_pos (show (-1 : Int32) < 10 by decide), kif_pos rfl, kif_pos rfl, kif_neg (by decide)]
theorem against_R {I : kI} {J : kJ} {s t : Nat} (hs : s ≤ 7) (hS : I 4 s 2 = I 49 0 s) (ht : t ≤ 4) (he : I 49 0 s = nI t) : E_X10_againstRowIn (nI s) I J = some 0 := by
  have ci : (nI s).toNatClampNeg = s := nI_clamp (by omega)
  have w : (if nI s < 0 then (0 : Int32) else if 7 < nI s then 0 else 1) = 1 := in_k (lo := 0) (hi := 7) (by omega) (by omega) hs
  have l : nI t < 10 := by show nI t < nI 10; rw [i_lt (by omega) (by omega)]; omega
  have z1 : ¬ (1 : Int32) = 0 := by decide
  unfold E_X10_againstRowIn F_X4_isShip F_X4_isEmpty
  rw [F_within, w, kif_neg z1, ci, hS, he, kif_pos l, kif_pos rfl, kif_neg (nI_m1' t (by omega)), kif_pos rfl]
theorem against_S {I : kI} {J : kJ} {s x : Nat} (hs : s ≤ 7) (hS : I 4 s 2 = I 49 0 s) (hx : x < 1000) (he : I 49 0 s = nI (10 + x)) : E_X10_againstRowIn (nI s) I J = some (-103) := by
  have ci : (nI s).toNatClampNeg = s := nI_clamp (by omega)
  have w : (if nI s < 0 then (0 : Int32) else if 7 < nI s then 0 else 1) = 1 := in_k (lo := 0) (hi := 7) (by omega) (by omega) hs
  have l : ¬ nI (10 + x) < 10 := by show ¬ nI (10 + x) < nI 10; rw [i_lt (by omega) (by omega)]; omega
  have z1 : ¬ (1 : Int32) = 0 := by decide
  unfold E_X10_againstRowIn F_X4_isShip F_X4_isEmpty
  rw [F_within, w, kif_neg z1, ci, hS, he, kif_neg l, kif_neg z1]
theorem against_no {I : kI} {J : kJ} {a : Int32} (w : (if a < 0 then (0 : Int32) else if 7 < a then 0 else 1) = 0) : E_X10_againstRowIn a I J = some (-102) := by
  unfold E_X10_againstRowIn
  rw [F_within, kif_pos w]
theorem wL_at (J : kJ) (t o i : Nat) (v : Int64) {t2 o2 j : Nat} (h : ¬ (t2 = t ∧ o2 = o ∧ j = i)) : kwL J t o i v t2 o2 j = J t2 o2 j := by rw [kwL_app, if_neg h]
theorem wL_on (J : kJ) (t o i : Nat) (v : Int64) : kwL J t o i v t o i = v := by rw [kwL_app, if_pos ⟨rfl, rfl, rfl⟩]
theorem mm_set {N : Nat} {I : kI} {J : kJ} (h : Inv N I J) (a b : Int32) (v : Int64) : MM sp_X10_set sp_X11_set [kx_i a, kx_i b, kx_l v] N I J := by
  have hs := fun I J => isShelf_p a I J
  have n102 : ¬ (-102 : Int32) = 0 := by decide
  have n103 : ¬ (-103 : Int32) = 0 := by decide
  have n104 : ¬ (-104 : Int32) = 0 := by decide
  by_cases w : (if a < 0 then (0 : Int32) else if 7 < a then 0 else 1) = 0
  · have c1 := cs_X10_set a b v I J (-102, rfC 0 I, J) (by unfold E_X10_set; rw [kbd_eq (against_no w), kif_neg n102, kif_pos (rC0 I J).2, (rC0 I J).1])
    have c2 := cs_X11_set a b v (rfC 0 I) J (by unfold pre_X11_set; rw [(hs _ _).1, kif_pos w]; exact ⟨(hs _ _).2, (rM0 _ J).2, trivial⟩)
    refine ref_both h c1 rfl c2 ?_
    unfold F_X11_set
    rw [(hs _ _).1, kif_pos w, (rM0 _ J).1]
  · obtain ⟨s, _, hs7, rfl⟩ := in_yes (lo := 0) (hi := 7) (by omega) (by omega) w
    have ci : (nI s).toNatClampNeg = s := nI_clamp (by omega)
    have vs : vp_in (nI s) 8 := vl s 8 (by omega) (by omega)
    have hS := h.2.2.2.1 s (by omega)
    have hc := h.1.2.2.2.1.2
    rcases sh_cases hS with ⟨e1, e2, e3⟩ | ⟨t, z, ht, hz, e1, e2, e4, e3⟩ | ⟨x, hx, e1, e2, e3⟩
    · have r49 : (rfC 2 I) 49 0 s = -1 := by rw [rfC_at _ _ _ _ (by omega), e1]
      have c1 := cs_X10_set (nI s) b v I J (-104, rfC 2 I, J) (by unfold E_X10_set; rw [kbd_eq (against_E hs7 hS.1 e1), kif_neg n104, kif_pos (rC2 I J).2, (rC2 I J).1])
      have c2 := cs_X11_set (nI s) b v (rfC 2 I) J (by unfold pre_X11_set; rw [(hs _ _).1, kif_neg w, ci, r49, kif_pos (by decide), kif_neg (by decide)]; exact ⟨(hs _ _).2, vs, vs, (rM2 _ J).2, trivial⟩)
      refine MM_f c1 rfl c2 ?_ (Inv_ref' h 2 (by omega))
      unfold F_X11_set
      rw [(hs _ _).1, kif_neg w, ci, r49, kif_pos (by decide), kif_neg (by decide), (rM2 _ J).1]
    · have l4 : nI t ≤ 4 := by show nI t ≤ nI 4; rw [i_le (by omega) (by omega)]; exact ht
      have g0 : (0 : Int32) ≤ nI t := Int32.not_lt.mp (i_nlt0 t (by omega))
      have rz : rg (nI z) 40 := rg_nI hz (by omega)
      have hh := hasEl hS b J
      rw [e3] at hh
      by_cases q : hasW (nI z) b = 0
      · have r49 : (rfC 0 I) 49 0 s = nI t := by rw [rfC_at _ _ _ _ (by omega), e1]
        have r50 : (rfC 0 I) 50 0 s = nI z := by rw [rfC_at _ _ _ _ (by omega), e4]
        have c1 := cs_X10_set (nI s) b v I J (-102, rfC 0 I, J) (by unfold E_X10_set; rw [kbd_eq (against_R hs7 hS.1 ht e1), kif_pos rfl, F_within, kif_neg w, ci, kif_pos (pHasEl hS b J), hh, kif_pos q, kif_pos (rC0 I J).2, (rC0 I J).1])
        have c2 := cs_X11_set (nI s) b v (rfC 0 I) J (by unfold pre_X11_set; rw [(hs _ _).1, kif_neg w, ci, r49, kif_pos l4, kif_pos g0, r50, in_has rz (by omega), kif_pos q]; exact ⟨(hs _ _).2, vs, vs, vs, (rM0 _ J).2, trivial⟩)
        refine ref_both h c1 rfl c2 ?_
        unfold F_X11_set
        rw [(hs _ _).1, kif_neg w, ci, r49, kif_pos l4, kif_pos g0, r50, in_has rz (by omega), kif_pos q, (rM0 _ J).1]
      · obtain ⟨j, hj, rfl⟩ := hasW_yes rz (by omega) q
        rw [nn_nI (by omega)] at hj
        have cj : (nI j).toNatClampNeg = j := nI_clamp (by omega)
        have vj : vp_in (nI j) 40 := vl j 40 (by omega) (by omega)
        obtain ⟨f, hf⟩ : ∃ f, f = F_X11_lowest (nI t) v I J := ⟨_, rfl⟩
        have ef : F_X4_fitted s v I J = f := by
          rw [hf]
          unfold F_X4_fitted F_X11_lowest
          rw [e2]
          by_cases t0 : nI t = 0
          · rw [kif_pos t0, kif_pos t0]
          · rw [kif_neg t0, kif_neg t0]
            by_cases t1 : nI t = 1
            · rw [kif_pos t1, kif_pos t1]
            · rw [kif_neg t1, kif_neg t1]
              by_cases t2 : nI t = 2
              · rw [kif_pos t2, kif_pos t2]
              · rw [kif_neg t2, kif_neg t2]
                by_cases t3 : nI t = 3
                · rw [kif_pos t3, kif_pos t3]
                · have c : t = 4 := by
                    have a0 : ¬ t = 0 := fun q => t0 (by rw [q]; rfl)
                    have a1 : ¬ t = 1 := fun q => t1 (by rw [q]; rfl)
                    have a2 : ¬ t = 2 := fun q => t2 (by rw [q]; rfl)
                    have a3 : ¬ t = 3 := fun q => t3 (by rw [q]; rfl)
                    omega
                  rw [kif_neg t3, kif_neg t3, kif_pos (show nI t = 4 by rw [c]; rfl)]
        have pp : pre_X4_put s (nI j) v I J := by
          unfold pre_X4_put
          rw [hh, kif_neg q]
          exact ⟨pHasEl hS _ J, vj, trivial⟩
        have ep : F_X4_put s (nI j) v I J = (I, kwL J 34 s j f) := by
          unfold F_X4_put
          rw [hh, kif_neg q, cj, ef]
        have c1 := cs_X10_set (nI s) (nI j) v I J (1, I, kwL J 34 s j f) (by unfold E_X10_set; rw [kbd_eq (against_R hs7 hS.1 ht e1), kif_pos rfl, F_within, kif_neg w, ci, kif_pos (pHasEl hS _ J), hh, kif_neg q, kif_pos pp, ep])
        have c2 := cs_X11_set (nI s) (nI j) v I (kwL J 34 s j f) (by unfold pre_X11_set; rw [(hs _ _).1, kif_neg w, ci, e1, kif_pos l4, kif_pos g0, e4, in_has rz (by omega), kif_neg q, e40]; exact ⟨(hs _ _).2, vs, vs, vs, vs, vl _ 320 (by omega) (by omega), trivial⟩)
        refine MM_f (I2 := I) (J2 := kwL (kwL J 34 s j f) 51 0 (40 * s + j) f) c1 rfl c2 ?_ ?_
        · unfold F_X11_set
          rw [(hs _ _).1, kif_neg w, ci, e1, kif_pos l4, kif_pos g0, e4, in_has rz (by omega), kif_neg q, e40, nI_clamp (by omega), hf]
          rfl
        · refine Inv_sh h (fun _ _ _ _ _ _ => rfl) (fun s2 hs2 => ?_)
          have z := h.2.2.2.1 s2 hs2
          unfold shl at z ⊢
          refine ⟨z.1, fun j2 hj2 => ?_, z.2.2⟩
          rw [wL_at _ _ _ _ _ (by omega)]
          by_cases qq : s2 = s ∧ j2 = j
          · rw [qq.1, qq.2, wL_on, wL_on]
          · rw [wL_at _ _ _ _ _ (by omega), wL_at _ _ _ _ _ (by omega), wL_at _ _ _ _ _ (by omega)]
            exact z.2.1 j2 hj2
    · have l4 : ¬ nI (10 + x) ≤ 4 := by show ¬ nI (10 + x) ≤ nI 4; rw [i_le (by omega) (by omega)]; omega
      have r49 : (rfC 1 I) 49 0 s = nI (10 + x) := by rw [rfC_at _ _ _ _ (by omega), e1]
      have c1 := cs_X10_set (nI s) b v I J (-103, rfC 1 I, J) (by unfold E_X10_set; rw [kbd_eq (against_S hs7 hS.1 (by omega) e1), kif_neg n103, kif_pos (rC1 I J).2, (rC1 I J).1])
      have c2 := cs_X11_set (nI s) b v (rfC 1 I) J (by unfold pre_X11_set; rw [(hs _ _).1, kif_neg w, ci, r49, kif_neg l4]; exact ⟨(hs _ _).2, vs, (rM1 _ J).2, trivial⟩)
      refine MM_f c1 rfl c2 ?_ (Inv_ref' h 1 (by omega))
      unfold F_X11_set
      rw [(hs _ _).1, kif_neg w, ci, r49, kif_neg l4, (rM1 _ J).1]

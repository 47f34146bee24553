/-! the reference's hour: what else it changes; its array -/
def oth (I I' : kI) : Prop := ∀ t o j, ¬ (t = 41 ∧ o = 0) → ¬ (t = 11 ∧ o = 0 ∧ (j = 5 ∨ j = 6 ∨ j = 7)) → I' t o j = I t o j
theorem oth_rf (I : kI) : oth I I := fun _ _ _ _ _ => rfl
theorem oth_tr {I I' I'' : kI} (h1 : oth I I') (h2 : oth I' I'') : oth I I'' := fun t o j a b => (h2 t o j a b).trans (h1 t o j a b)
theorem oth_uA (I : kI) (f : Nat → Int32) : oth I (kx_uA I 41 0 f) := fun t o j h _ => by rw [kx_uA_app, if_neg h]
theorem oth_kw (I : kI) (j : Nat) (v : Int32) : oth I (kw I 41 0 j v) := fun t o j2 h _ => kw_at _ _ (fun q => h ⟨q.1, q.2.1⟩)
theorem oth_k11 (I : kI) {j : Nat} (v : Int32) (hj : j = 5 ∨ j = 6 ∨ j = 7) : oth I (kw I 11 0 j v) := fun t o j2 _ h => kw_at _ _ (fun q => h ⟨q.1, q.2.1, by rw [q.2.2]; exact hj⟩)
theorem oth_kif {I A B : kI} {P : Prop} (hA : oth I A) (hB : oth I B) : oth I (kif P A B) := by
  by_cases h : P
  · rw [kif_pos h]; exact hA
  · rw [kif_neg h]; exact hB
theorem oth_lgI (x w4 : Int32) (I : kI) : oth I (lgI x w4 I) := oth_uA _ _
theorem oth_mid (I : kI) (kd : Nat → Nat) (c k : Nat) (v1 d t w a w4 : Int32) : oth I (midX I kd c k v1 d t w a w4) := by
  unfold midX hend
  refine oth_tr ?_ (oth_tr (oth_tr (oth_k11 _ _ (by omega)) (oth_k11 _ _ (by omega))) (oth_kw _ _ _))
  have h1 : oth I (plX I d t) := oth_uA _ _
  generalize plX I d t = P at *
  have h2 : oth I (coX (sgM w t P) P) := oth_tr h1 (oth_kw _ _ _)
  generalize sgM w t P = s at *
  have h3 : oth I (lgA t d w4 (coX s P)) := oth_tr h2 (oth_kif (oth_lgI _ _ _) (oth_rf _))
  have h4 : oth I (lgB s w4 (lgA t d w4 (coX s P))) := oth_tr h3 (oth_kif (oth_rf _) (oth_lgI _ _ _))
  have h5 : oth I (lgC a d w4 (lgB s w4 (lgA t d w4 (coX s P)))) := oth_tr h4 (oth_kif (oth_lgI _ _ _) (oth_rf _))
  refine oth_tr h5 ?_
  generalize (lgC a d w4 (lgB s w4 (lgA t d w4 (coX s P)))) = Z at *
  unfold sbX bmX
  generalize spG (Z 41 0) kd c k d s w (whM t w4) = G
  have hG : oth Z (kx_uA Z 41 0 G) := oth_uA _ _
  refine oth_kif (oth_tr hG ?_) (oth_tr hG (oth_k11 _ _ (by omega)))
  exact oth_tr (oth_k11 _ 1 (show 7 = 5 ∨ 7 = 6 ∨ 7 = 7 by omega)) (oth_uA _ _)
theorem mid_11 (I : kI) (kd : Nat → Nat) (c k : Nat) (v1 d t w a w4 : Int32) (haw : ¬ a = 0 → w4.toNatClampNeg < 6) : midX I kd c k v1 d t w a w4 11 0 5 = d ∧ midX I kd c k v1 d t w a w4 11 0 6 = t ∧ midX I kd c k v1 d t w a w4 11 0 7 = kif (boM (aU (I 41 0) kd c k d t w a w4) v1 d w) 1 0 := by
  unfold midX hend
  refine ⟨?_, ?_, ?_⟩
  · rw [kw_at _ _ (by omega), kw_at _ _ (by omega), kw_app, if_pos ⟨rfl, rfl, rfl⟩]
  · rw [kw_at _ _ (by omega), kw_app, if_pos ⟨rfl, rfl, rfl⟩]
  · rw [kw_at _ _ (by omega), kw_at _ _ (by omega), kw_at _ _ (by omega)]
    have hp : plX I d t 41 0 = plG (fun _ _ => I 41 0) d t := kx_uA_eq _ _ _ _
    have hp5 : plX I d t 41 0 5 = I 41 0 5 := by rw [hp, plG_ne _ _ _ (by omega) (by omega) (by omega) (by omega) (by omega)]
    have hs : sgM w t (plX I d t) = aS (I 41 0) w t := by
      unfold sgM aS
      rw [hp5]
    have hq : ∀ s, coX s (plX I d t) 41 0 = upd (plG (fun _ _ => I 41 0) d t) 5 (I 41 0 5 - (if s = 0 then 0 else 1)) := fun s => by
      unfold coX
      rw [kw_self, hp5, hp]
    have hL6 : ∀ x, upd (plG (fun _ _ => I 41 0) d t) 5 x 6 = aL (I 41 0) d t := fun x => rfl
    have he : (lgC a d w4 (lgB (aS (I 41 0) w t) w4 (lgA t d w4 (coX (aS (I 41 0) w t) (plX I d t))))) 41 0 = aE (I 41 0) d t w a w4 := by
      rw [lgC_41, lgB_41, lgA_41, hq]
      unfold aE
      rw [logL_append, logL_append, hL6]
      unfold aP
      by_cases ha : a = 0
      · have ee : ∀ x, eC x a d = [] := fun x => by unfold eC; rw [if_neg (fun q => q.1 ha)]
        rw [ee, ee]
      · have h6 := haw ha
        rw [logL_lt _ (by omega) (by omega), logL_lt _ (by omega) (by omega), upd_app, if_neg (show ¬ 61 + 4 * w4.toNatClampNeg = 5 by omega), plG_ne _ _ _ (by omega) (by omega) (by omega) (by omega) (by omega)]
    rw [hs]
    unfold sbX aU
    rw [he]
    by_cases hb : boM (spG (aE (I 41 0) d t w a w4) kd c k d (aS (I 41 0) w t) w (whM t w4)) v1 d w
    · rw [kif_pos hb, kif_pos hb]
      unfold bmX
      rw [kx_uA_app, if_neg (by omega), kw_app, if_pos ⟨rfl, rfl, rfl⟩]
    · rw [kif_neg hb, kif_neg hb, kw_app, if_pos ⟨rfl, rfl, rfl⟩]
/-! the watch -/
def aD (g : Nat → Int32) (h : Nat) : Int32 := if nI (h % 24) < g 1 then 1 else if nI (h % 24) < g 2 then 0 else 1
def aW (g : Nat → Int32) (h : Nat) : Int32 := g (85 + h % 24)
def aR (g : Nat → Int32) (W : Int32) : Prop := g (61 + 4 * W.toNatClampNeg + 1) < 12 - 3 * g (61 + 4 * W.toNatClampNeg)
noncomputable def aT (g : Nat → Int32) (W : Int32) : Int32 := kif (W < 0) 0 (kif (aR g W) 1 0)
noncomputable def aA (g : Nat → Int32) (W : Int32) : Int32 := kif (W < 0) 0 (kif (aR g W) 0 1)
noncomputable def aG (g : Nat → Int32) (W : Int32) : Nat → Int32 := kif (W < 0) g (fun j => if j = 20 then g 20 + aA g W else if j = 61 + 4 * W.toNatClampNeg + (if aT g W = 0 then 3 else 2) then g j + 1 else g j)
noncomputable def hG (g : Nat → Int32) (kd : Nat → Nat) (c k h : Nat) (w : Int32) : Nat → Int32 := aM (aG g (aW g h)) kd c k (nI h) (aD g h) (aT g (aW g h)) w (aA g (aW g h)) (aW g h)
theorem stX_41 (I : kI) (i b : Nat) (a : Int32) (hi : i < 6) (hb : b ≤ 3) : stX I i b a 41 0 = fun j => if j = 20 then I 41 0 20 + a else if j = 61 + 4 * i + b then I 41 0 j + 1 else I 41 0 j := by
  funext j
  unfold stX
  rw [kw_app, kw_app]
  by_cases h : j = 20
  · rw [if_pos ⟨rfl, rfl, h⟩, if_pos h]
  · rw [if_neg (fun q => h q.2.2), if_neg h]
    by_cases h2 : j = 61 + 4 * i + b
    · rw [if_pos ⟨rfl, rfl, h2⟩, if_pos h2, h2]
    · rw [if_neg (fun q => h2 q.2.2), if_neg h2]
/-- the reference's hour: its array, its marks, and nothing else -/
def hP (I I' : kI) (kd : Nat → Nat) (c k h : Nat) (w : Int32) : Prop := I' 41 0 = hG (I 41 0) kd c k h w ∧ oth I I' ∧ I' 11 0 5 = aD (I 41 0) h ∧ I' 11 0 6 = aT (I 41 0) (aW (I 41 0) h) ∧ I' 11 0 7 = kif (boM (aU (aG (I 41 0) (aW (I 41 0) h)) kd c k (aD (I 41 0) h) (aT (I 41 0) (aW (I 41 0) h)) w (aA (I 41 0) (aW (I 41 0) h)) (aW (I 41 0) h)) (nI h) (aD (I 41 0) h) w) 1 0
theorem hmX_hP (I : kI) (kd : Nat → Nat) (c k h : Nat) (w : Int32) (hk : k ≤ 6) (hpl : I 41 0 (85 + h % 24) = -1 ∨ ∃ i, i < k ∧ I 41 0 (85 + h % 24) = nI i) : hP I (hmX I kd c k h w) kd c k h w := by
  have hD : mD I h = aD (I 41 0) h := rfl
  have m1 : ((-1 : Int32)).toNatClampNeg = 0 := rfl
  unfold hP hmX hG
  rcases hpl with q | ⟨i, hi, q⟩
  · have n1 : (-1 : Int32) < 0 := by decide
    have eW : aW (I 41 0) h = -1 := q
    have eT : aT (I 41 0) (-1) = 0 := by unfold aT; rw [kif_pos n1]
    have eA' : aA (I 41 0) (-1) = 0 := by unfold aA; rw [kif_pos n1]
    have eG : aG (I 41 0) (-1) = I 41 0 := by unfold aG; rw [kif_pos n1]
    rw [q, kif_pos n1, eW, eT, eA', eG, hD]
    have e := mid_11 I kd c k (nI h) (aD (I 41 0) h) 0 w 0 (-1) (fun z => absurd rfl z)
    exact ⟨midX_41 I kd c k _ _ _ _ _ _ (fun z => absurd rfl z), oth_mid _ _ _ _ _ _ _ _ _ _, e.1, e.2.1, e.2.2⟩
  · have n0 : ¬ nI i < 0 := i_nlt0 i (by omega)
    have ci : (nI i).toNatClampNeg = i := nI_clamp (by omega)
    have eW : aW (I 41 0) h = nI i := q
    rw [q, kif_neg n0, eW, hD, ci]
    by_cases qa : I 41 0 (61 + 4 * i + 1) < 12 - 3 * I 41 0 (61 + 4 * i)
    · have hR : aR (I 41 0) (nI i) := by unfold aR; rw [ci]; exact qa
      have eT : aT (I 41 0) (nI i) = 1 := by unfold aT; rw [kif_neg n0, kif_pos hR]
      have eA' : aA (I 41 0) (nI i) = 0 := by unfold aA; rw [kif_neg n0, kif_pos hR]
      have eG : aG (I 41 0) (nI i) = stX I i 2 0 41 0 := by
        rw [stX_41 _ _ _ _ (by omega) (by omega)]
        unfold aG
        rw [kif_neg n0, eT, eA', if_neg (by decide), ci]
      rw [kif_pos qa, eT, eA', eG]
      have e := mid_11 (stX I i 2 0) kd c k (nI h) (aD (I 41 0) h) 1 w 0 (nI i) (fun z => absurd rfl z)
      exact ⟨midX_41 _ kd c k _ _ _ _ _ _ (fun z => absurd rfl z), oth_tr (oth_tr (oth_kw _ _ _) (oth_kw _ _ _)) (oth_mid _ _ _ _ _ _ _ _ _ _), e.1, e.2.1, e.2.2⟩
    · have hR : ¬ aR (I 41 0) (nI i) := by unfold aR; rw [ci]; exact qa
      have eT : aT (I 41 0) (nI i) = 0 := by unfold aT; rw [kif_neg n0, kif_neg hR]
      have eA' : aA (I 41 0) (nI i) = 1 := by unfold aA; rw [kif_neg n0, kif_neg hR]
      have eG : aG (I 41 0) (nI i) = stX I i 3 1 41 0 := by
        rw [stX_41 _ _ _ _ (by omega) (by omega)]
        unfold aG
        rw [kif_neg n0, eT, eA', if_pos rfl, ci]
      rw [kif_neg qa, eT, eA', eG]
      have e := mid_11 (stX I i 3 1) kd c k (nI h) (aD (I 41 0) h) 0 w 1 (nI i) (fun _ => by rw [ci]; omega)
      exact ⟨midX_41 _ kd c k _ _ _ _ _ _ (fun _ => by rw [ci]; omega), oth_tr (oth_tr (oth_kw _ _ _) (oth_kw _ _ _)) (oth_mid _ _ _ _ _ _ _ _ _ _), e.1, e.2.1, e.2.2⟩

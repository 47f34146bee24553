/-! image, back -/
theorem WG_ext {g g' : Nat → Int32} {N : Nat} (h : WG g N) (hq : ∀ j, j < 2509 → g' j = g j) : WG g' N := by
  obtain ⟨h0, h12, h13, h14, hS, hP, hO, hK, hF, hL⟩ := h
  have a12 := h12.2
  have a14 := h14.2
  have a15 := hL.1.2
  refine ⟨by rw [hq _ (by omega)]; exact h0, by rw [hq _ (by omega)]; exact h12, by rw [hq _ (by omega)]; exact h13, by rw [hq _ (by omega)]; exact h14, ?_, ?_, ?_, ?_, ?_, ?_⟩
  · unfold WS
    rw [hq 12 (by omega)]
    intro i hi
    rw [hq _ (by omega), hq _ (by omega)]
    exact hS i hi
  · unfold WP
    rw [hq 13 (by omega)]
    intro i hi
    rw [hq _ (by omega)]
    exact hP i hi
  · unfold WO
    rw [hq 3 (by omega), hq 4 (by omega), hq 5 (by omega), hq 6 (by omega), hq 7 (by omega), hq 10 (by omega), hq 11 (by omega)]
    exact hO
  · unfold WK
    rw [hq 14 (by omega)]
    intro s hs
    rw [hq _ (by omega), hq _ (by omega)]
    exact hK s hs
  · unfold WF
    rw [hq 14 (by omega), hq 0 (by omega)]
    intro s hs
    rw [hq _ (by omega), hq _ (by omega), hq _ (by omega)]
    exact hF s hs
  · unfold WLb
    rw [hq 15 (by omega), hq 0 (by omega)]
    refine ⟨hL.1, fun e he => ?_⟩
    rw [hq _ (by omega), hq _ (by omega)]
    exact hL.2 e he
theorem CW_ext {I : kI} {o : Nat} {g g' : Nat → Int32} {N : Nat} (hg : WG g N) (h : CW I o g) (hq : ∀ j, j < 2509 → g' j = g j) : CW I o g' := by
  have a12 := hg.2.1.2
  have a13 := hg.2.2.1.2
  have a14 := hg.2.2.2.1.2
  have a15 := hg.2.2.2.2.2.2.2.2.2.1.2
  obtain ⟨⟨s1, s2, s3, s4, s5, s6, s7, s8, s9⟩, ⟨p, hF, hfm⟩, hL, u1, u2, u3⟩ := h
  have e12 : g' 12 = g 12 := hq _ (by omega)
  have e13 : g' 13 = g 13 := hq _ (by omega)
  have e14 : g' 14 = g 14 := hq _ (by omega)
  have e15 : g' 15 = g 15 := hq _ (by omega)
  have hkd : ∀ s, s < 200 → gk g' s = gk g s ∧ gh g' s = gh g s := fun s hs => by
    unfold gk gh
    rw [hq _ (by omega), hq _ (by omega)]
    exact ⟨rfl, rfl⟩
  refine ⟨⟨fun j hj => by rw [hq _ (by omega)]; exact s1 j hj, fun j hj => by rw [hq _ (by omega)]; exact s2 j hj, by rw [hq _ (by omega)]; exact s3, by rw [e12]; exact s4, ?_, ?_, by rw [e13]; exact s7, ?_, fun i hi => by rw [hq _ (by omega)]; exact s9 i hi⟩, ⟨p, ?_, ?_⟩, ⟨by rw [e15]; exact hL.1, ?_⟩, by rw [hq _ (by omega)]; exact u1, by rw [hq _ (by omega)]; exact u2, by rw [hq _ (by omega)]; exact u3⟩
  · rw [s5, e12]
    refine congrArg nI (lsum_congr _ _ (fun x _ hx => ?_))
    show nn _ = nn _
    rw [hq _ (by omega)]
  · rw [e12]
    intro r hr
    rw [hq _ (by omega), hq _ (by omega)]
    exact s6 r hr
  · rw [e13]
    intro i hi
    rw [hq _ (by omega), hq _ (by omega), hq _ (by omega), hq _ (by omega)]
    exact s8 i hi
  · rw [e14]
    obtain ⟨f1, f2, f3, f4, f5, f6⟩ := hF
    refine ⟨f1, f2, fun s hs => ?_, f4, f5, fun a b hab hb => ?_⟩
    · rw [(hkd s (by omega)).1, (hkd s (by omega)).2]; exact f3 s hs
    · have y1 := (f4 a (by omega)).2
      have y2 := (f4 b hb).2
      unfold bf
      rw [(hkd (p a) (by omega)).1, (hkd (p a) (by omega)).2, (hkd (p b) (by omega)).1, (hkd (p b) (by omega)).2]
      exact f6 a b hab hb
  · rw [e14]
    intro s hs
    rw [hq _ (by omega), hq _ (by omega)]
    exact hfm s hs
  · rw [e15]
    intro e he
    rw [hq _ (by omega), hq _ (by omega), hq _ (by omega), hq _ (by omega)]
    exact hL.2 e he
theorem b_cwt {t j : Nat} (h : bS t j ∨ bW t j) : cwt t := by
  unfold bS bW at h
  unfold cwt
  omega
theorem mm_image {N : Nat} {I : kI} {J : kJ} (h : Inv N I J) : MM sp_X10_image sp_X11_image [] N I J := by
  have hg := h.1
  have e6 : I 6 0 10 = I 41 0 6 := h.2.1.1.1 6 (by omega)
  obtain ⟨I1, b1, f1, s1⟩ := E_become9 1 0 (by omega) I J (by rw [e6]; exact rg_01 hg.2.2.2.2.2.2.1.2.2.2.2.1)
  have c1 := cs_X10_image I J (1, kw I1 10 0 7 1, J) (by unfold E_X10_image; rw [kbd_eq b1])
  obtain ⟨K, hK⟩ : ∃ K, K = kw I1 10 0 7 1 := ⟨_, rfl⟩
  rw [← hK] at c1
  have kn : ∀ t o j, ¬ (o = 1 ∧ cwt t) → ¬ (t = 10 ∧ j = 7) → K t o j = I t o j := fun t o j q1 q2 => by
    rw [hK, kw_at _ _ (by omega), f1 _ _ _ (fun z => q1 ⟨z.1, b_cwt z.2⟩)]
  have k1 : ∀ t j, bS t j ∨ bW t j → K t 1 j = I t 0 j := fun t j q => by
    have := b_cwt q
    unfold cwt at this
    rw [hK, kw_at _ _ (by omega), s1 _ _ q]
  obtain ⟨L, hL⟩ : ∃ L, L = kw (kx_uA K 41 2 (fun k => if k < 2509 then K 41 0 k else K 41 2 k)) 11 0 3 1 := ⟨_, rfl⟩
  have c2 := cs_X11_image K J (1, L, J) (by
    unfold E_X11_image F_X11_copies
    rw [kif_pos (show pre_X11_copies 0 2 K J from by show (0 : Nat) ≠ 2; omega), hL])
  have ln : ∀ t o j, ¬ (t = 41 ∧ o = 2) → ¬ (t = 11 ∧ j = 3) → L t o j = K t o j := fun t o j q1 q2 => by
    rw [hL, kw_at _ _ (by omega), kx_uA_app, if_neg q1]
  have k41 : ∀ o, K 41 o = I 41 o := fun o => funext fun j => kn _ _ _ (by unfold cwt; omega) (by omega)
  have l410 : L 41 0 = I 41 0 := funext fun j => by rw [ln _ _ _ (by omega) (by omega), k41]
  have l412 : ∀ j, j < 2509 → L 41 2 j = I 41 0 j := fun j hj => by
    rw [hL, kw_at _ _ (by omega), kx_uA_app, if_pos ⟨rfl, rfl⟩, if_pos hj, k41]
  refine MM_f c1 rfl c2 rfl ?_
  show Inv (N + 200) L J
  obtain ⟨h1, h2, h3, h4, h5, h6, h7⟩ := Inv_mono h (Nat.le_add_right N 200)
  have ls : ∀ t o j, ¬ (t = 41 ∧ o = 2) → ¬ (t = 11 ∧ j = 3) → ¬ (o = 1 ∧ cwt t) → ¬ (t = 10 ∧ j = 7) → L t o j = I t o j := fun t o j q1 q2 q3 q4 => by rw [ln _ _ _ q1 q2, kn _ _ _ q3 q4]
  unfold cwt at ls
  refine ⟨by rw [l410]; exact h1, ?_, ⟨?_, Or.inr ⟨?_, WG_ext h1 l412, ?_⟩⟩, fun s hs => ?_, ?_, fun j hj => ?_, fun j hj => ?_⟩
  · rw [l410]
    exact CW_congr h2 (fun t j a => by unfold cwt at a; exact ls _ _ _ (by omega) (by omega) (by omega) (by omega))
  · rw [ln _ _ _ (by omega) (by omega), hK, kw_app, if_pos ⟨rfl, rfl, rfl⟩, hL, kw_app, if_pos ⟨rfl, rfl, rfl⟩]
  · rw [hL, kw_app, if_pos ⟨rfl, rfl, rfl⟩]
  · refine CW_ext h1 (CW_become h1 h2 (fun t j q => ?_)) l412
    have := b_cwt q
    unfold cwt at this
    rw [ln _ _ _ (by omega) (by omega), k1 _ _ q]
  · have z := h4 s hs
    unfold shl at z ⊢
    rw [ls _ _ _ (by omega) (by omega) (by omega) (by omega), ls _ _ _ (by omega) (by omega) (by omega) (by omega), ls _ _ _ (by omega) (by omega) (by omega) (by omega), ls _ _ _ (by omega) (by omega) (by omega) (by omega), l410]
    exact z
  · unfold IT
    rw [ls _ _ _ (by omega) (by omega) (by omega) (by omega), ls _ _ _ (by omega) (by omega) (by omega) (by omega)]
    refine ⟨h5.1, h5.2.1, fun j hj => ?_⟩
    rw [ls _ _ _ (by omega) (by omega) (by omega) (by omega), ls _ _ _ (by omega) (by omega) (by omega) (by omega)]
    exact h5.2.2 j hj
  · rw [ls _ _ _ (by omega) (by omega) (by omega) (by omega), ls _ _ _ (by omega) (by omega) (by omega) (by omega)]; exact h6 j hj
  · rw [ls _ _ _ (by omega) (by omega) (by omega) (by omega)]; exact h7 j hj
/-- shelves with ships that aren't -/
def bkB (c : Nat) (v : Int32) : Prop := ¬ v < 10 ∧ hasW (nI c) (v - 10) = 0
noncomputable def bkC (I : kI) (c i : Nat) : kI := fun t o j => kif (t = 4 ∧ o < i ∧ (j = 1 ∨ j = 2) ∧ bkB c (I 4 o 2)) (if j = 2 then -1 else 0) (I t o j)
noncomputable def bkM (I : kI) (c i : Nat) : kI := fun t o j => kif (t = 49 ∧ o = 0 ∧ j < i ∧ ¬ I 49 0 j < 10 + nI c) (-1) (I t o j)
theorem bkC_0 (I : kI) (c : Nat) : bkC I c 0 = I := kI_ext fun t o j => by unfold bkC; rw [kif_neg (by omega)]
theorem bkM_0 (I : kI) (c : Nat) : bkM I c 0 = I := kI_ext fun t o j => by unfold bkM; rw [kif_neg (by omega)]
theorem g_backC {I : kI} {J : kJ} {c : Nat} (hc : c ≤ 200) (h2 : I 2 0 5 = nI c) : ∀ n i m, i + n = 8 → n + 1 ≤ m → G_X10_back m 27 (nI i) (bkC I c i) J = some (1, bkC I c 8, J) := by
  intro n
  induction n with
  | zero =>
    intro i m hi hm
    obtain ⟨m, rfl⟩ : ∃ m', m = m' + 1 := ⟨m - 1, by omega⟩
    obtain rfl : i = 8 := by omega
    rw [G_X10_back_27, kif_pos (by decide)]
  | succ n ih =>
    intro i m hi hm
    obtain ⟨m, rfl⟩ : ∃ m', m = m' + 1 := ⟨m - 1, by omega⟩
    have z1 : ¬ (1 : Int32) = 0 := by decide
    have w : (if nI i < 0 then (0 : Int32) else if 7 < nI i then 0 else 1) = 1 := in_k (lo := 0) (hi := 7) (by omega) (by omega) (by omega)
    have ci : (nI i).toNatClampNeg = i := nI_clamp (by omega)
    have e2 : bkC I c i 4 i 2 = I 4 i 2 := by unfold bkC; rw [kif_neg (by omega)]
    have e5 : bkC I c i 2 0 5 = nI c := by unfold bkC; rw [kif_neg (by omega)]; exact h2
    have hn := ih (i + 1) m (by omega) (by omega)
    rw [← nI_1] at hn
    have stay : ¬ bkB c (I 4 i 2) → bkC I c (i + 1) = bkC I c i := fun q => kI_ext fun t o j => by
      unfold bkC
      by_cases y : t = 4 ∧ o < i ∧ (j = 1 ∨ j = 2) ∧ bkB c (I 4 o 2)
      · rw [kif_pos y, kif_pos ⟨y.1, by omega, y.2.2⟩]
      · rw [kif_neg y, kif_neg]
        rintro ⟨y1, y2, y3, y4⟩
        by_cases oi : o = i
        · rw [oi] at y4; exact q y4
        · exact y ⟨y1, by omega, y3, y4⟩
    have go : bkB c (I 4 i 2) → kw (kw (bkC I c i) 4 i 2 (-1)) 4 i 1 0 = bkC I c (i + 1) := fun q => kI_ext fun t o j => by
      rw [kw_app, kw_app]
      unfold bkC
      by_cases a : t = 4 ∧ o = i ∧ j = 1
      · obtain ⟨rfl, rfl, rfl⟩ := a
        rw [if_pos ⟨rfl, rfl, rfl⟩, kif_pos ⟨rfl, by omega, Or.inl rfl, q⟩, if_neg (by omega)]
      · rw [if_neg a]
        by_cases b : t = 4 ∧ o = i ∧ j = 2
        · obtain ⟨rfl, rfl, rfl⟩ := b
          rw [if_pos ⟨rfl, rfl, rfl⟩, kif_pos ⟨rfl, by omega, Or.inr rfl, q⟩, if_pos rfl]
        · rw [if_neg b]
          by_cases y : t = 4 ∧ o < i ∧ (j = 1 ∨ j = 2) ∧ bkB c (I 4 o 2)
          · rw [kif_pos y, kif_pos ⟨y.1, by omega, y.2.2⟩]
          · rw [kif_neg y, kif_neg]
            rintro ⟨y1, y2, y3, y4⟩
            by_cases oi : o = i
            · rcases y3 with y3 | y3
              · exact a ⟨y1, oi, y3⟩
              · exact b ⟨y1, oi, y3⟩
            · exact y ⟨y1, by omega, y3, y4⟩
    rw [G_X10_back_27, kif_neg (by show ¬ nI 8 ≤ nI i; rw [i_le (by omega) (by omega)]; omega), F_within, w, kif_neg z1, ci]
    unfold F_X4_isShip F_X4_shipNumber F_X4_isShip F_X4_takeNothing
    rw [e2, has2_W, e5]
    by_cases q1 : I 4 i 2 < 10
    · rw [kif_pos q1, kif_pos rfl, ← stay (fun z => z.1 q1)]
      exact hn
    · rw [kif_neg q1, kif_neg z1, kif_neg z1]
      by_cases q2 : hasW (nI c) (I 4 i 2 - 10) = 0
      · rw [kif_pos q2, go ⟨q1, q2⟩]
        exact hn
      · rw [kif_neg q2, ← stay (fun z => q2 z.2)]
        exact hn
theorem g_backM {I : kI} {J : kJ} {c : Nat} (h14 : I 41 0 14 = nI c) : ∀ n i m, i + n = 8 → n + 1 ≤ m → G_X11_back m 27 (nI i) (bkM I c i) J = some (1, bkM I c 8, J) := by
  intro n
  induction n with
  | zero =>
    intro i m hi hm
    obtain ⟨m, rfl⟩ : ∃ m', m = m' + 1 := ⟨m - 1, by omega⟩
    obtain rfl : i = 8 := by omega
    rw [G_X11_back_27, kif_pos (by decide)]
  | succ n ih =>
    intro i m hi hm
    obtain ⟨m, rfl⟩ : ∃ m', m = m' + 1 := ⟨m - 1, by omega⟩
    have vi : vp_in (nI i) 8 := vl i 8 (by omega) (by omega)
    have ci : (nI i).toNatClampNeg = i := nI_clamp (by omega)
    have l14 : ((14 : Int32)).toNatClampNeg = 14 := rfl
    have v14 : vp_in (14 : Int32) 2509 := vl 14 2509 (by omega) (by omega)
    have e49 : bkM I c i 49 0 i = I 49 0 i := by unfold bkM; rw [kif_neg (by omega)]
    have e14 : bkM I c i 41 0 14 = nI c := by unfold bkM; rw [kif_neg (by omega)]; exact h14
    have hn := ih (i + 1) m (by omega) (by omega)
    rw [← nI_1] at hn
    rw [G_X11_back_27, kif_neg (by show ¬ nI 8 ≤ nI i; rw [i_le (by omega) (by omega)]; omega), kif_pos vi, kif_pos v14, l14, ci, e49, e14]
    by_cases q : I 49 0 i < 10 + nI c
    · have st : kw (bkM I c i) 49 0 i (I 49 0 i) = bkM I c (i + 1) := kI_ext fun t o j => by
        rw [kw_app]
        unfold bkM
        by_cases a : t = 49 ∧ o = 0 ∧ j = i
        · obtain ⟨rfl, rfl, rfl⟩ := a
          rw [if_pos ⟨rfl, rfl, rfl⟩, kif_neg (fun z => z.2.2.2 q)]
        · rw [if_neg a]
          refine kif_prop ⟨fun z => ⟨z.1, z.2.1, by omega, z.2.2.2⟩, fun z => ⟨z.1, z.2.1, ?_, z.2.2.2⟩⟩
          by_cases ji : j = i
          · exact absurd ⟨z.1, z.2.1, ji⟩ a
          · omega
      rw [kif_pos q, kif_pos vi, kif_pos vi, st]
      exact hn
    · have st : kw (bkM I c i) 49 0 i (-1) = bkM I c (i + 1) := kI_ext fun t o j => by
        rw [kw_app]
        unfold bkM
        by_cases a : t = 49 ∧ o = 0 ∧ j = i
        · obtain ⟨rfl, rfl, rfl⟩ := a
          rw [if_pos ⟨rfl, rfl, rfl⟩, kif_pos ⟨rfl, rfl, by omega, q⟩]
        · rw [if_neg a]
          refine kif_prop ⟨fun z => ⟨z.1, z.2.1, by omega, z.2.2.2⟩, fun z => ⟨z.1, z.2.1, ?_, z.2.2.2⟩⟩
          by_cases ji : j = i
          · exact absurd ⟨z.1, z.2.1, ji⟩ a
          · omega
      rw [kif_neg q, kif_pos vi, st]
      exact hn
theorem mm_back {N : Nat} {I : kI} {J : kJ} (h : Inv N I J) : MM sp_X10_back sp_X11_back [] N I J := by
  obtain ⟨k1, k2⟩ := h.2.2.1
  rcases k2 with e | ⟨e, hg2, hc2⟩
  · have c1 := cs_X10_back I J (-105, rfC 3 I, J) (by unfold E_X10_back; rw [k1, e, kif_pos rfl, kif_pos (rC3 I J).2, (rC3 I J).1])
    have c2 := cs_X11_back (rfC 3 I) J (-105, rfM 3 (rfC 3 I), J) (by unfold E_X11_back; rw [rfC_at _ _ _ _ (by omega), e, kif_pos rfl, kif_pos (rM3 _ J).2, (rM3 _ J).1])
    exact MM_f c1 rfl c2 rfl (Inv_ref' h 3 (by omega))
  · have z1 : ¬ (1 : Int32) = 0 := by decide
    have h14 := hg2.2.2.2.1
    have h142 := h14.2
    have e6 : I 6 1 10 = I 41 2 6 := hc2.1.1 6 (by omega)
    obtain ⟨I1, b1, f1, s1⟩ := E_become9 0 1 (by omega) I J (by rw [e6]; exact rg_01 hg2.2.2.2.2.2.2.1.2.2.2.2.1)
    have i1n : ∀ t o j, ¬ (o = 0 ∧ cwt t) → I1 t o j = I t o j := fun t o j q => f1 _ _ _ (fun z => q ⟨z.1, b_cwt z.2⟩)
    have hc1 : CW I1 0 (I 41 2) := CW_become hg2 hc2 s1
    have h25 : I1 2 0 5 = nI (nn (I 41 2 14)) := by
      obtain ⟨p, hF, _⟩ := hc1.2.1
      exact hF.2.1
    have gc := g_backC (I := I1) (J := J) h142 h25 8 0 kfu (by omega) (by unfold kfu; omega)
    rw [bkC_0] at gc
    have c1 := cs_X10_back I J _ (by unfold E_X10_back; rw [k1, e, kif_neg z1, kbd_eq b1]; exact gc)
    obtain ⟨K, hK⟩ : ∃ K, K = bkC I1 (nn (I 41 2 14)) 8 := ⟨_, rfl⟩
    rw [← hK] at c1
    have kn : ∀ t o j, ¬ t = 4 → K t o j = I1 t o j := fun t o j q => by rw [hK]; unfold bkC; rw [kif_neg (fun z => q z.1)]
    obtain ⟨L, hL⟩ : ∃ L, L = kx_uA K 41 0 (fun k => if k < 2509 then K 41 2 k else K 41 0 k) := ⟨_, rfl⟩
    have l14 : L 41 0 14 = nI (nn (I 41 2 14)) := by
      rw [hL, kx_uA_app, if_pos ⟨rfl, rfl⟩, if_pos (by omega), kn _ _ _ (by omega), i1n _ _ _ (by unfold cwt; omega)]
      exact h14.1
    have gm := g_backM (I := L) (J := J) l14 8 0 kfu (by omega) (by unfold kfu; omega)
    rw [bkM_0] at gm
    have k113 : K 11 0 3 = 1 := by rw [kn _ _ _ (by omega), i1n _ _ _ (by unfold cwt; omega), e]
    have c2 := cs_X11_back K J _ (by
      unfold E_X11_back F_X11_copies
      rw [k113, kif_neg z1, kif_pos (show pre_X11_copies 2 0 K J from by show (2 : Nat) ≠ 0; omega), ← hL]
      exact gm)
    obtain ⟨M, hM⟩ : ∃ M, M = bkM L (nn (I 41 2 14)) 8 := ⟨_, rfl⟩
    rw [← hM] at c2
    refine MM_f c1 rfl c2 rfl ?_
    show Inv (N + 200) M J
    have mn : ∀ t o j, ¬ t = 49 → M t o j = L t o j := fun t o j q => by rw [hM]; unfold bkM; rw [kif_neg (fun z => q z.1)]
    have ln : ∀ t o j, ¬ (t = 41 ∧ o = 0) → L t o j = K t o j := fun t o j q => by rw [hL, kx_uA_app, if_neg q]
    obtain ⟨h1, h2, h3, h4, h5, h6, h7⟩ := Inv_mono h (Nat.le_add_right N 200)
    have all : ∀ t o j, ¬ t = 49 → ¬ (t = 41 ∧ o = 0) → ¬ t = 4 → ¬ (o = 0 ∧ cwt t) → M t o j = I t o j := fun t o j q1 q2 q3 q4 => by rw [mn _ _ _ q1, ln _ _ _ q2, kn _ _ _ q3, i1n _ _ _ q4]
    have m412 : M 41 2 = I 41 2 := funext fun j => all _ _ _ (by omega) (by omega) (by omega) (by unfold cwt; omega)
    have m410 : ∀ j, j < 2509 → M 41 0 j = I 41 2 j := fun j hj => by
      rw [mn _ _ _ (by omega), hL, kx_uA_app, if_pos ⟨rfl, rfl⟩, if_pos hj, kn _ _ _ (by omega), i1n _ _ _ (by unfold cwt; omega)]
    refine ⟨WG_ext (WG_mono hg2 (by omega)) m410, ?_, ⟨?_, Or.inr ⟨?_, by rw [m412]; exact WG_mono hg2 (by omega), ?_⟩⟩, fun s hs => ?_, ?_, fun j hj => ?_, fun j hj => ?_⟩
    · refine CW_ext hg2 (CW_congr hc1 (fun t j a => ?_)) m410
      unfold cwt at a
      rw [mn _ _ _ (by omega), ln _ _ _ (by omega), kn _ _ _ (by omega)]
    · rw [all _ _ _ (by omega) (by omega) (by omega) (by unfold cwt; omega), all _ _ _ (by omega) (by omega) (by omega) (by unfold cwt; omega), k1]
    · rw [all _ _ _ (by omega) (by omega) (by omega) (by unfold cwt; omega), e]
    · rw [m412]
      exact CW_congr hc2 (fun t j a => by unfold cwt at a; exact all _ _ _ (by omega) (by omega) (by omega) (by omega))
    · have z := h4 s hs
      have m14 : M 41 0 14 = I 41 2 14 := m410 14 (by omega)
      rw [m14]
      have a42 : I1 4 s 2 = I 4 s 2 := i1n _ _ _ (by unfold cwt; omega)
      have a41 : I1 4 s 1 = I 4 s 1 := i1n _ _ _ (by unfold cwt; omega)
      have l49 : L 49 0 s = I 49 0 s := by rw [ln _ _ _ (by omega), kn _ _ _ (by omega), i1n _ _ _ (by unfold cwt; omega)]
      have m50 : M 50 0 s = I 50 0 s := all _ _ _ (by omega) (by omega) (by omega) (by unfold cwt; omega)
      have m42 : M 4 s 2 = kif (bkB (nn (I 41 2 14)) (I 4 s 2)) (-1) (I 4 s 2) := by
        rw [mn _ _ _ (by omega), ln _ _ _ (by omega), hK]
        unfold bkC
        rw [a42]
        by_cases q : bkB (nn (I 41 2 14)) (I 4 s 2)
        · rw [kif_pos q, kif_pos ⟨rfl, hs, Or.inr rfl, q⟩, if_pos rfl]
        · rw [kif_neg q, kif_neg (fun y => q y.2.2.2)]
      have m41 : M 4 s 1 = kif (bkB (nn (I 41 2 14)) (I 4 s 2)) 0 (I 4 s 1) := by
        rw [mn _ _ _ (by omega), ln _ _ _ (by omega), hK]
        unfold bkC
        rw [a42, a41]
        by_cases q : bkB (nn (I 41 2 14)) (I 4 s 2)
        · rw [kif_pos q, kif_pos ⟨rfl, hs, Or.inl rfl, q⟩, if_neg (by omega)]
        · rw [kif_neg q, kif_neg (fun y => q y.2.2.2)]
      have m49 : M 49 0 s = kif (¬ I 49 0 s < 10 + nI (nn (I 41 2 14))) (-1) (I 49 0 s) := by
        rw [hM]
        unfold bkM
        rw [l49]
        by_cases q : ¬ I 49 0 s < 10 + nI (nn (I 41 2 14))
        · rw [kif_pos q, kif_pos ⟨rfl, rfl, hs, q⟩]
        · rw [kif_neg q, kif_neg (fun y => q y.2.2.2)]
      have ten : (10 : Int32) + nI (nn (I 41 2 14)) = nI (10 + nn (I 41 2 14)) := nI_add 10 _
      have hcn := h1.2.2.2.1.2
      have zz := z
      unfold shl
      rw [m42, m41, m49, m50, ten]
      rcases sh_cases z with ⟨e1, e2, e3⟩ | ⟨t, y, ht, hy, e1, e2, e4, e3⟩ | ⟨x, hx, e1, e2, e3⟩
      · have nB : ¬ bkB (nn (I 41 2 14)) (I 4 s 2) := fun q => q.1 (by rw [e2]; decide)
        have nT : ¬ ¬ I 49 0 s < nI (10 + nn (I 41 2 14)) := fun q => q (by
          rw [e1, Int32.lt_iff_toInt_lt, iz_nI (by omega)]
          have : (-1 : Int32).toInt = -1 := rfl
          omega)
        rw [kif_neg nB, kif_neg nB, kif_neg nT]
        exact ⟨z.1, z.2.1, Or.inl ⟨e1, e3⟩⟩
      · have l10 : nI t < 10 := by show nI t < nI 10; rw [i_lt (by omega) (by omega)]; omega
        have nB : ¬ bkB (nn (I 41 2 14)) (I 4 s 2) := fun q => q.1 (by rw [e2]; exact l10)
        have nT : ¬ ¬ I 49 0 s < nI (10 + nn (I 41 2 14)) := fun q => q (by rw [e1, i_lt (by omega) (by omega)]; omega)
        rw [kif_neg nB, kif_neg nB, kif_neg nT]
        refine ⟨z.1, z.2.1, Or.inr (Or.inl ⟨?_, ?_, ?_⟩)⟩
        · rw [e1]; exact rg_nI ht (by omega)
        · rw [e4]; exact rg_nI hy (by omega)
        · rw [e3, e4]
      · have n10 : ¬ nI (10 + x) < 10 := by show ¬ nI (10 + x) < nI 10; rw [i_lt (by omega) (by omega)]; omega
        have m10 : nI (10 + x) - (10 : Int32) = nI x := by
          have y : nI (10 + x) - nI 10 = nI (10 + x - 10) := pk_sub (by omega)
          rw [show 10 + x - 10 = x by omega] at y
          exact y
        rw [e1, e2]
        by_cases q : x < nn (I 41 2 14)
        · have hw : ¬ hasW (nI (nn (I 41 2 14))) (nI x) = 0 := by
            rw [hasW_k (rg_nI h142 (by omega)) (by omega) (by rw [nn_nI (by omega)]; exact q)]
            decide
          have nB : ¬ bkB (nn (I 41 2 14)) (nI (10 + x)) := fun y => hw (by have := y.2; rw [m10] at this; exact this)
          have nT : ¬ ¬ nI (10 + x) < nI (10 + nn (I 41 2 14)) := fun y => y (by rw [i_lt (by omega) (by omega)]; omega)
          rw [kif_neg nB, kif_neg nB, kif_neg nT]
          exact ⟨rfl, z.2.1, Or.inr (Or.inr ⟨x, q, rfl, e3⟩)⟩
        · have hw : hasW (nI (nn (I 41 2 14))) (nI x) = 0 := by
            rcases hasW_01 (nI (nn (I 41 2 14))) (nI x) with y | y
            · exact y
            · obtain ⟨j, hj, ej⟩ := hasW_yes (rg_nI (b := 200) h142 (by omega)) (by omega) (by rw [y]; exact z1)
              rw [nn_nI (by omega)] at hj
              have := nI_inj (by omega) (by omega) ej
              omega
          have hB : bkB (nn (I 41 2 14)) (nI (10 + x)) := ⟨n10, by rw [m10]; exact hw⟩
          rw [kif_pos hB, kif_pos hB, kif_pos (show ¬ nI (10 + x) < nI (10 + nn (I 41 2 14)) by rw [i_lt (by omega) (by omega)]; omega)]
          exact ⟨rfl, z.2.1, Or.inl ⟨rfl, rfl⟩⟩
    · unfold IT
      rw [all _ _ _ (by omega) (by omega) (by omega) (by unfold cwt; omega), all _ _ _ (by omega) (by omega) (by omega) (by unfold cwt; omega)]
      refine ⟨h5.1, h5.2.1, fun j hj => ?_⟩
      rw [all _ _ _ (by omega) (by omega) (by omega) (by unfold cwt; omega), all _ _ _ (by omega) (by omega) (by omega) (by unfold cwt; omega)]
      exact h5.2.2 j hj
    · rw [all _ _ _ (by omega) (by omega) (by omega) (by unfold cwt; omega), all _ _ _ (by omega) (by omega) (by omega) (by unfold cwt; omega)]; exact h6 j hj
    · rw [all _ _ _ (by omega) (by omega) (by omega) (by unfold cwt; omega)]; exact h7 j hj

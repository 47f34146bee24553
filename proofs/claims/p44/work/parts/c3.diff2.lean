/-! difference -/
noncomputable def dvl (g : Nat → Int32) (b : Int32) (e : Nat) : Int32 := kif (b = 0) (g (909 + 4 * e)) (kif (b = 1) (sa g e) (g (909 + 4 * e + 3)))
theorem g_diff {N : Nat} (hN : N < 1000000) {I : kI} {J : kJ} (h : Inv N I J) (a b : Int32) : ∀ n i k m, i + n = nn (I 41 0 15) → k ≤ i → n + 1 ≤ m → (G_X9_entryOfDifference 0 a m 4 (nI k) (nI i) I J = some (-1) ∧ ∀ K : kI, K 41 0 = I 41 0 → G_X11_difference a b m 28 (nI k) (nI i) K J = some (-102, rfM 0 K, J)) ∨ (∃ e x, e < nn (I 41 0 15) ∧ x ≤ 400 ∧ a = nI x ∧ G_X9_entryOfDifference 0 a m 4 (nI k) (nI i) I J = some (nI e) ∧ ∀ K : kI, K 41 0 = I 41 0 → G_X11_difference a b m 28 (nI k) (nI i) K J = some (dvl (I 41 0) b e, K, J)) := by
  have hg := h.1
  have hc := h.2.1
  have hL := hg.2.2.2.2.2.2.2.2.2.1
  have hL2 := hL.2
  have cL := hc.2.2.1
  have l15 : ((15 : Int32)).toNatClampNeg = 15 := rfl
  have v15 : vp_in (15 : Int32) 2509 := vl 15 2509 (by omega) (by omega)
  intro n
  induction n with
  | zero =>
    intro i k m hi hk hm
    obtain ⟨m, rfl⟩ : ∃ m', m = m' + 1 := ⟨m - 1, by omega⟩
    have le : I 41 0 15 ≤ nI i := by rw [hL.1, i_le (by omega) (by omega)]; omega
    refine Or.inl ⟨?_, fun K hK => ?_⟩
    · rw [G_X9_entryOfDifference_4, cL.1, kif_pos le]
    · rw [G_X11_difference_28, kif_pos v15, l15, hK, kif_pos le, kif_pos (rM0 _ _).2, (rM0 _ _).1]
  | succ n ih =>
    intro i k m hi hk hm
    obtain ⟨m, rfl⟩ : ∃ m', m = m' + 1 := ⟨m - 1, by omega⟩
    have nle : ¬ I 41 0 15 ≤ nI i := by rw [hL.1, i_le (by omega) (by omega)]; omega
    have he : i < nn (I 41 0 15) := by omega
    have eC := C_against hN hg hc J he
    have eM : ∀ K : kI, K 41 0 = I 41 0 → E_X11_shipAgainst (nI i) K J = some (sa (I 41 0) i) := fun K hK => by
      have e := R_against (I := K) hN (by rw [hK]; exact hg) J (e := i) (by rw [hK]; exact he)
      rw [hK] at e
      exact e
    rcases sa_v hg i with ⟨y1, y2⟩ | ⟨y1, y2⟩
    · rcases ih (i + 1) k m (by omega) (by omega) (by omega) with ⟨p1, p2⟩ | ⟨e, x, q1, q2, q3, q4, q5⟩
      · refine Or.inl ⟨?_, fun K hK => ?_⟩
        · rw [G_X9_entryOfDifference_4, cL.1, kif_neg nle, kbd_eq eC, kif_pos y1, nI_1]
          exact p1
        · rw [G_X11_difference_28, kif_pos v15, l15, hK, kif_neg nle, kbd_eq (eM K hK), kif_pos y2, nI_1]
          exact p2 K hK
      · refine Or.inr ⟨e, x, q1, q2, q3, ?_, fun K hK => ?_⟩
        · rw [G_X9_entryOfDifference_4, cL.1, kif_neg nle, kbd_eq eC, kif_pos y1, nI_1]
          exact q4
        · rw [G_X11_difference_28, kif_pos v15, l15, hK, kif_neg nle, kbd_eq (eM K hK), kif_pos y2, nI_1]
          exact q5 K hK
    · by_cases qa : nI k = a
      · refine Or.inr ⟨i, k, he, by omega, qa.symm, ?_, fun K hK => ?_⟩
        · rw [G_X9_entryOfDifference_4, cL.1, kif_neg nle, kbd_eq eC, kif_neg y1, kif_pos qa]
        · have d0 : ((909 : Int32) + 4 * nI i).toNatClampNeg = 909 + 4 * i := ix2c (a := 909) (b := 4) (by omega)
          have w0 : vp_in ((909 : Int32) + 4 * nI i) 2509 := ix2v (a := 909) (b := 4) (by omega) (by omega)
          have d3 : ((909 : Int32) + 4 * nI i + 3).toNatClampNeg = 909 + 4 * i + 3 := ix3c (a := 909) (b := 4) (c := 3) (by omega)
          have w3 : vp_in ((909 : Int32) + 4 * nI i + 3) 2509 := ix3v (a := 909) (b := 4) (c := 3) (by omega) (by omega)
          rw [G_X11_difference_28, kif_pos v15, l15, hK, kif_neg nle, kbd_eq (eM K hK), kif_neg y2, kif_pos qa, kif_pos w0, d0, kif_pos w3, d3]
          unfold dvl
          by_cases b0 : b = 0
          · rw [kif_pos b0, kif_pos b0]
          · rw [kif_neg b0, kif_neg b0]
            by_cases b1 : b = 1
            · rw [kif_pos b1, kif_pos b1]
            · rw [kif_neg b1, kif_neg b1]
      · rcases ih (i + 1) (k + 1) m (by omega) (by omega) (by omega) with ⟨p1, p2⟩ | ⟨e, x, q1, q2, q3, q4, q5⟩
        · refine Or.inl ⟨?_, fun K hK => ?_⟩
          · rw [G_X9_entryOfDifference_4, cL.1, kif_neg nle, kbd_eq eC, kif_neg y1, kif_neg qa, nI_1, nI_1]
            exact p1
          · rw [G_X11_difference_28, kif_pos v15, l15, hK, kif_neg nle, kbd_eq (eM K hK), kif_neg y2, kif_neg qa, nI_1, nI_1]
            exact p2 K hK
        · refine Or.inr ⟨e, x, q1, q2, q3, ?_, fun K hK => ?_⟩
          · rw [G_X9_entryOfDifference_4, cL.1, kif_neg nle, kbd_eq eC, kif_neg y1, kif_neg qa, nI_1, nI_1]
            exact q4
          · rw [G_X11_difference_28, kif_pos v15, l15, hK, kif_neg nle, kbd_eq (eM K hK), kif_neg y2, kif_neg qa, nI_1, nI_1]
            exact q5 K hK
theorem mm_difference {N : Nat} (hN : N < 1000000) {I : kI} {J : kJ} (h : Inv N I J) (a b : Int32) : MM sp_X10_difference sp_X11_difference [kx_i a, kx_i b] N I J := by
  have hg := h.1
  have hc := h.2.1
  have hL := hg.2.2.2.2.2.2.2.2.2.1
  have hL2 := hL.2
  have cL := hc.2.2.1
  have z1 : ¬ (1 : Int32) = 0 := by decide
  have k41 := rfC_41 0 I 0
  have fin : ∀ v, E_X10_difference a b I J = some (v, I, J) → E_X11_difference a b I J = some (v, I, J) → MM sp_X10_difference sp_X11_difference [kx_i a, kx_i b] N I J := fun v y1 y2 => by
    have c1 := cs_X10_difference _ _ _ _ _ y1
    have c2 := cs_X11_difference _ _ _ _ _ y2
    exact MM_f c1 rfl c2 rfl (Inv_mono h (by omega))
  have ref : E_X10_difference a b I J = some (-102, rfC 0 I, J) → E_X11_difference a b (rfC 0 I) J = some (-102, rfM 0 (rfC 0 I), J) → MM sp_X10_difference sp_X11_difference [kx_i a, kx_i b] N I J := fun y1 y2 => by
    have c1 := cs_X10_difference _ _ _ _ _ y1
    have c2 := cs_X11_difference _ _ _ _ _ y2
    exact ref_both h c1 rfl c2 rfl
  have hm1 : ∀ J, F_X3_has 0 (-1) I J = 0 := fun J => by
    rw [has3_W]
    unfold hasW
    rw [if_pos (by decide)]
  have d02 : (¬ b = 0 ∧ ¬ b = 1 ∧ ¬ b = 2) → (if b < 0 then (0 : Int32) else if 2 < b then 0 else 1) = 0 := fun q => by
    rcases in_01 b 0 2 with e | e
    · exact e
    · obtain ⟨y, y1, y2, y3⟩ := in_yes (lo := 0) (hi := 2) (x := b) (by omega) (by omega) (by show ¬ (if b < 0 then (0 : Int32) else if 2 < b then 0 else 1) = 0; rw [e]; exact z1)
      have c : y = 0 ∨ y = 1 ∨ y = 2 := by omega
      rcases c with rfl | rfl | rfl
      · exact absurd y3 q.1
      · exact absurd y3 q.2.1
      · exact absurd y3 q.2.2
  have t02 : ∀ x, x ≤ 2 → b = nI x → ¬ (if b < 0 then (0 : Int32) else if 2 < b then 0 else 1) = 0 := fun x hx hb => by
    rw [hb]
    have e : (if nI x < 0 then (0 : Int32) else if 2 < nI x then 0 else 1) = 1 := in_k (lo := 0) (hi := 2) (by omega) (by omega) (by omega)
    rw [e]
    exact z1
  rcases g_diff hN h a b (nn (I 41 0 15)) 0 0 kfu (by omega) (by omega) (by unfold kfu; omega) with ⟨p1, p2⟩ | ⟨e, x, q1, q2, q3, q4, q5⟩
  · refine ref ?_ ?_
    · unfold E_X10_difference
      rw [kbd_eq (show E_X9_entryOfDifference 0 a I J = some (-1) from p1), hm1, kif_pos rfl, kif_pos (rC0 _ _).2, (rC0 _ _).1]
    · unfold E_X11_difference
      by_cases w : (if b < 0 then (0 : Int32) else if 2 < b then 0 else 1) = 0
      · rw [in_0_2, kif_pos w, kif_pos (rM0 _ _).2, (rM0 _ _).1]
      · rw [in_0_2, kif_neg w]
        by_cases a0 : 0 ≤ a
        · rw [kif_pos a0]
          exact p2 _ k41
        · rw [kif_neg a0, kif_pos (rM0 _ _).2, (rM0 _ _).1]
  · have a0 : 0 ≤ a := by rw [q3]; exact Int32.not_lt.mp (i_nlt0 x (by omega))
    have eh : F_X3_has 0 (nI e) I J = 1 := by rw [has3_W, cL.1]; exact hasW_k hL (by omega) q1
    have ci : (nI e).toNatClampNeg = e := nI_clamp (by omega)
    have ce := cL.2 e q1
    have eE : E_X9_entryOfDifference 0 a I J = some (nI e) := q4
    have q5' := q5 I rfl
    by_cases b0 : b = 0
    · refine fin (I 41 0 (909 + 4 * e)) ?_ ?_
      · unfold E_X10_difference
        rw [kbd_eq eE, eh, kif_neg z1, kif_pos b0]
        unfold F_X3_hourOf pre_X3_hourOf
        rw [eh, kif_neg z1, kif_neg z1, ci, ce.1, kif_pos ⟨vl e 400 (by omega) (by omega), trivial⟩]
      · unfold E_X11_difference
        rw [in_0_2, kif_neg (t02 0 (by omega) b0), kif_pos a0]
        refine q5'.trans ?_
        unfold dvl
        rw [kif_pos b0]
    · by_cases b1 : b = 1
      · refine fin (sa (I 41 0) e) ?_ ?_
        · unfold E_X10_difference
          rw [kbd_eq eE, eh, kif_neg z1, kif_neg b0, kif_pos b1, kbd_eq (C_against hN hg hc J q1)]
        · unfold E_X11_difference
          rw [in_0_2, kif_neg (t02 1 (by omega) b1), kif_pos a0]
          refine q5'.trans ?_
          unfold dvl
          rw [kif_neg b0, kif_pos b1]
      · by_cases b2 : b = 2
        · refine fin (I 41 0 (909 + 4 * e + 3)) ?_ ?_
          · unfold E_X10_difference
            rw [kbd_eq eE, eh, kif_neg z1, kif_neg b0, kif_neg b1, kif_pos b2]
            unfold F_X3_writerOf pre_X3_writerOf
            rw [eh, kif_neg z1, kif_neg z1, ci, ce.2.2.2, kif_pos ⟨vl e 400 (by omega) (by omega), trivial⟩]
          · unfold E_X11_difference
            rw [in_0_2, kif_neg (t02 2 (by omega) b2), kif_pos a0]
            refine q5'.trans ?_
            unfold dvl
            rw [kif_neg b0, kif_neg b1]
        · refine ref ?_ ?_
          · unfold E_X10_difference
            rw [kbd_eq eE, eh, kif_neg z1, kif_neg b0, kif_neg b1, kif_neg b2, kif_pos (rC0 _ _).2, (rC0 _ _).1]
          · unfold E_X11_difference
            rw [in_0_2, kif_pos (d02 ⟨b0, b1, b2⟩), kif_pos (rM0 _ _).2, (rM0 _ _).1]

/-! status -/
theorem cntS {I : kI} {J : kJ} (h : IS I J) (hc : nn (I 41 0 14) ≤ 200) : ∀ n i acc m, i + n = 8 → n + 1 ≤ m → ∃ v, G_X10_countFullShelves m 4 acc (nI i) I J = some v ∧ G_X11_held m 4 acc (nI i) I J = some v := by
  intro n
  induction n with
  | zero =>
    intro i acc m hi hm
    obtain ⟨m, rfl⟩ : ∃ m', m = m' + 1 := ⟨m - 1, by omega⟩
    obtain rfl : i = 8 := by omega
    refine ⟨acc, ?_, ?_⟩
    · rw [G_X10_countFullShelves_4, kif_pos (by decide)]
    · rw [G_X11_held_4, kif_pos (by decide)]
  | succ n ih =>
    intro i acc m hi hm
    obtain ⟨m, rfl⟩ : ∃ m', m = m' + 1 := ⟨m - 1, by omega⟩
    have z1 : ¬ (1 : Int32) = 0 := by decide
    have n8 : ¬ (8 : Int32) ≤ nI i := by show ¬ nI 8 ≤ nI i; rw [i_le (by omega) (by omega)]; omega
    have ci : (nI i).toNatClampNeg = i := nI_clamp (by omega)
    have vi : vp_in (nI i) 8 := vl i 8 (by omega) (by omega)
    have w : (if nI i < 0 then (0 : Int32) else if 7 < nI i then 0 else 1) = 1 := in_k (lo := 0) (hi := 7) (by omega) (by omega) (by omega)
    have hn := fun acc => ih (i + 1) acc m (by omega) (by omega)
    rw [← nI_1] at hn
    have a0 : acc + 0 = acc := Int32.add_zero _
    have full : (I 4 i 2 = I 49 0 i ∧ ¬ I 49 0 i < 0 ∧ ¬ I 49 0 i = -1) → ∃ v, G_X10_countFullShelves (m + 1) 4 acc (nI i) I J = some v ∧ G_X11_held (m + 1) 4 acc (nI i) I J = some v := fun q => by
      obtain ⟨v, v1, v2⟩ := hn (acc + 1)
      refine ⟨v, ?_, ?_⟩
      · rw [G_X10_countFullShelves_4, kif_neg n8, F_within, w, kif_neg z1, ci]
        unfold F_X4_isEmpty
        rw [q.1, kif_neg q.2.2, kif_pos rfl]
        exact v1
      · rw [G_X11_held_4, kif_neg n8, kif_pos vi, ci, kif_neg q.2.1]
        exact v2
    rcases sh_cases (h i (by omega)) with ⟨e1, e2, e3⟩ | ⟨t, z, ht, hz, e1, e2, e4, e3⟩ | ⟨x, hx, e1, e2, e3⟩
    · obtain ⟨v, v1, v2⟩ := hn acc
      refine ⟨v, ?_, ?_⟩
      · rw [G_X10_countFullShelves_4, kif_neg n8, F_within, w, kif_neg z1, ci]
        unfold F_X4_isEmpty
        rw [e2, kif_pos rfl, kif_neg z1]
        exact v1
      · rw [G_X11_held_4, kif_neg n8, kif_pos vi, ci, e1, kif_pos (by decide), a0]
        exact v2
    · exact full ⟨by rw [e1, e2], by rw [e1]; exact i_nlt0 t (by omega), by rw [e1]; exact nI_m1' t (by omega)⟩
    · exact full ⟨by rw [e1, e2], by rw [e1]; exact i_nlt0 _ (by omega), by rw [e1]; exact nI_m1' _ (by omega)⟩
theorem mm_status {N : Nat} {I : kI} {J : kJ} (h : Inv N I J) (a : Int32) : MM sp_X10_status sp_X11_status [kx_i a] N I J := by
  have hg := h.1
  have hcS := h.2.1.1
  obtain ⟨p, hF, hfm⟩ := h.2.1.2.1
  have z1 : ¬ (1 : Int32) = 0 := by decide
  have hR := h.2.2.2.2.2.1
  have hC := h.2.2.2.2.2.2
  obtain ⟨m, hm⟩ : ∃ m, kfu = m + 1 := ⟨kfu - 1, by unfold kfu; omega⟩
  have fin : ∀ v, E_X10_status a I J = some v → E_X11_status a I J = some v → MM sp_X10_status sp_X11_status [kx_i a] N I J := fun v e1 e2 => by
    have c1 := cs_X10_status _ _ _ _ e1
    have c2 := cs_X11_status _ _ _ _ e2
    exact MM_i c1 c2 (Inv_mono h (by omega))
  have told : ∀ x g, x < 12 → a = nI x → tolds x = nI g → g < 20 → E_X11_status a I J = some (I 41 0 g) := fun x g hx ha hg hg2 => by
    have t : (if nI x < 0 then (0 : Int32) else if 11 < nI x then 0 else 1) = 1 := in_k (lo := 0) (hi := 11) (by omega) (by omega) (by omega)
    have e : I 52 0 x = nI g := (hC x hx).trans hg
    unfold E_X11_status
    rw [ha, in_0_11, t, kif_neg z1, kif_pos (vl x 12 hx (by omega)), nI_clamp (by omega), e, kif_pos (vl g 2509 (by omega) (by omega)), nI_clamp (by omega)]

  by_cases q0 : a = 0
  · have e : I 6 0 4 = I 41 0 0 := hcS.1 0 (by omega)
    refine fin (I 41 0 0) ?_ (told 0 0 (by omega) q0 rfl (by omega))
    unfold E_X10_status
    rw [kif_pos q0, e]
  by_cases q1 : a = 1
  · have e : I 6 0 8 = I 41 0 4 := hcS.1 4 (by omega)
    refine fin (I 41 0 4) ?_ (told 1 4 (by omega) q1 rfl (by omega))
    unfold E_X10_status
    rw [kif_neg q0, kif_pos q1, e]
  by_cases q2 : a = 2
  · have e : I 6 0 9 = I 41 0 5 := hcS.1 5 (by omega)
    refine fin (I 41 0 5) ?_ (told 2 5 (by omega) q2 rfl (by omega))
    unfold E_X10_status
    rw [kif_neg q0, kif_neg q1, kif_pos q2, e]
  by_cases q3 : a = 3
  · have e : I 6 0 10 = I 41 0 6 := hcS.1 6 (by omega)
    refine fin (I 41 0 6) ?_ (told 3 6 (by omega) q3 rfl (by omega))
    unfold E_X10_status
    rcases rg_01 hg.2.2.2.2.2.2.1.2.2.2.2.1 with y | y
    · rw [kif_neg q0, kif_neg q1, kif_neg q2, kif_pos q3, e, y, kif_pos rfl, hm, G_X10_status_131]
    · rw [kif_neg q0, kif_neg q1, kif_neg q2, kif_pos q3, e, y, kif_neg z1, hm, G_X10_status_131]
  by_cases q4 : a = 4
  · have e : I 6 0 11 = I 41 0 7 := hcS.1 7 (by omega)
    refine fin (I 41 0 7) ?_ (told 4 7 (by omega) q4 rfl (by omega))
    unfold E_X10_status
    rw [kif_neg q0, kif_neg q1, kif_neg q2, kif_neg q3, kif_pos q4, e]
  by_cases q5 : a = 5
  · have e : I 1 0 5 = I 41 0 13 := hcS.2.2.2.2.2.2.1
    refine fin (I 41 0 13) ?_ (told 5 13 (by omega) q5 rfl (by omega))
    unfold E_X10_status
    rw [kif_neg q0, kif_neg q1, kif_neg q2, kif_neg q3, kif_neg q4, kif_pos q5, e]
  by_cases q6 : a = 6
  · have e : I 2 0 5 = I 41 0 14 := (by rw [hF.2.1, ← hg.2.2.2.1.1])
    refine fin (I 41 0 14) ?_ (told 6 14 (by omega) q6 rfl (by omega))
    unfold E_X10_status
    rw [kif_neg q0, kif_neg q1, kif_neg q2, kif_neg q3, kif_neg q4, kif_neg q5, kif_pos q6, e]
  by_cases q7 : a = 7
  · have e : I 3 0 4 = I 41 0 15 := h.2.1.2.2.1.1
    refine fin (I 41 0 15) ?_ (told 7 15 (by omega) q7 rfl (by omega))
    unfold E_X10_status
    rw [kif_neg q0, kif_neg q1, kif_neg q2, kif_neg q3, kif_neg q4, kif_neg q5, kif_neg q6, kif_pos q7, e]
  by_cases q8 : a = 8
  · have e : I 9 0 3 = I 41 0 16 := h.2.1.2.2.2.1
    refine fin (I 41 0 16) ?_ (told 8 16 (by omega) q8 rfl (by omega))
    unfold E_X10_status
    rw [kif_neg q0, kif_neg q1, kif_neg q2, kif_neg q3, kif_neg q4, kif_neg q5, kif_neg q6, kif_neg q7, kif_pos q8, e]
  by_cases q9 : a = 9
  · have e : I 0 0 0 = I 41 0 8 := hcS.2.1 0 (by omega)
    refine fin (I 41 0 8) ?_ (told 9 8 (by omega) q9 rfl (by omega))
    unfold E_X10_status
    rw [kif_neg q0, kif_neg q1, kif_neg q2, kif_neg q3, kif_neg q4, kif_neg q5, kif_neg q6, kif_neg q7, kif_neg q8, kif_pos q9, e]
  by_cases q10 : a = 10
  · have e : I 5 0 2 = I 41 0 12 := hcS.2.2.2.1
    refine fin (I 41 0 12) ?_ (told 10 12 (by omega) q10 rfl (by omega))
    unfold E_X10_status
    rw [kif_neg q0, kif_neg q1, kif_neg q2, kif_neg q3, kif_neg q4, kif_neg q5, kif_neg q6, kif_neg q7, kif_neg q8, kif_neg q9, kif_pos q10, e]
  by_cases q11 : a = 11
  · have e : I 0 0 4 = I 41 0 18 := hcS.2.2.1
    refine fin (I 41 0 18) ?_ (told 11 18 (by omega) q11 rfl (by omega))
    unfold E_X10_status
    rw [kif_neg q0, kif_neg q1, kif_neg q2, kif_neg q3, kif_neg q4, kif_neg q5, kif_neg q6, kif_neg q7, kif_neg q8, kif_neg q9, kif_neg q10, kif_pos q11, e]
  have n11 : (if a < 0 then (0 : Int32) else if 11 < a then 0 else 1) = 0 := by
    rcases in_01 a 0 11 with e | e
    · exact e
    · obtain ⟨y, y1, y2, y3⟩ := in_yes (lo := 0) (hi := 11) (x := a) (by omega) (by omega) (by show ¬ (if a < 0 then (0 : Int32) else if 11 < a then 0 else 1) = 0; rw [e]; exact z1)
      have c : y = 0 ∨ y = 1 ∨ y = 2 ∨ y = 3 ∨ y = 4 ∨ y = 5 ∨ y = 6 ∨ y = 7 ∨ y = 8 ∨ y = 9 ∨ y = 10 ∨ y = 11 := by omega
      rcases c with rfl | rfl | rfl | rfl | rfl | rfl | rfl | rfl | rfl | rfl | rfl | rfl
      · exact absurd y3 q0
      · exact absurd y3 q1
      · exact absurd y3 q2
      · exact absurd y3 q3
      · exact absurd y3 q4
      · exact absurd y3 q5
      · exact absurd y3 q6
      · exact absurd y3 q7
      · exact absurd y3 q8
      · exact absurd y3 q9
      · exact absurd y3 q10
      · exact absurd y3 q11
  have t1216 : ∀ x, 12 ≤ x → x ≤ 16 → (if nI x < 12 then (0 : Int32) else if 16 < nI x then 0 else 1) = 1 := fun x h1 h2 => in_k (lo := 12) (hi := 16) (by omega) h1 h2
  have sub : ∀ x, 12 ≤ x → nI x - (12 : Int32) = nI (x - 12) := fun x hx => pk_sub (b := 12) hx
  have mref : ∀ x, 12 ≤ x → x ≤ 16 → a = nI x → E_X11_status a I J = some (I 42 0 (x - 12)) := fun x h1 h2 ha => by
    unfold E_X11_status
    rw [in_0_11, n11, kif_pos rfl, in_12_16, ha, t1216 x h1 h2, kif_neg z1, sub x h1, kif_pos (vl _ 5 (by omega) (by omega)), nI_clamp (by omega)]
  by_cases q12 : a = 12
  · have w : (if a < 12 then (0 : Int32) else if 16 < a then 0 else 1) = 1 := by rw [q12]; exact t1216 12 (by omega) (by omega)
    have s : a - (12 : Int32) = nI 0 := by rw [q12]; decide
    refine fin (I 42 0 0) ?_ (mref 12 (by omega) (by omega) q12)
    unfold E_X10_status
    rw [kif_neg q0, kif_neg q1, kif_neg q2, kif_neg q3, kif_neg q4, kif_neg q5, kif_neg q6, kif_neg q7, kif_neg q8, kif_neg q9, kif_neg q10, kif_neg q11, kif_pos q12, F_within, w, kif_neg z1, s, kif_pos (vl 0 5 (by omega) (by omega)), hm, G_X10_status_244, nI_clamp (by omega), hR 0 (by omega)]
  by_cases q13 : a = 13
  · have w : (if a < 12 then (0 : Int32) else if 16 < a then 0 else 1) = 1 := by rw [q13]; exact t1216 13 (by omega) (by omega)
    have s : a - (12 : Int32) = nI 1 := by rw [q13]; decide
    refine fin (I 42 0 1) ?_ (mref 13 (by omega) (by omega) q13)
    unfold E_X10_status
    rw [kif_neg q0, kif_neg q1, kif_neg q2, kif_neg q3, kif_neg q4, kif_neg q5, kif_neg q6, kif_neg q7, kif_neg q8, kif_neg q9, kif_neg q10, kif_neg q11, kif_neg q12, kif_pos q13, F_within, w, kif_neg z1, s, kif_pos (vl 1 5 (by omega) (by omega)), hm, G_X10_status_244, nI_clamp (by omega), hR 1 (by omega)]
  by_cases q14 : a = 14
  · have w : (if a < 12 then (0 : Int32) else if 16 < a then 0 else 1) = 1 := by rw [q14]; exact t1216 14 (by omega) (by omega)
    have s : a - (12 : Int32) = nI 2 := by rw [q14]; decide
    refine fin (I 42 0 2) ?_ (mref 14 (by omega) (by omega) q14)
    unfold E_X10_status
    rw [kif_neg q0, kif_neg q1, kif_neg q2, kif_neg q3, kif_neg q4, kif_neg q5, kif_neg q6, kif_neg q7, kif_neg q8, kif_neg q9, kif_neg q10, kif_neg q11, kif_neg q12, kif_neg q13, kif_pos q14, F_within, w, kif_neg z1, s, kif_pos (vl 2 5 (by omega) (by omega)), hm, G_X10_status_244, nI_clamp (by omega), hR 2 (by omega)]
  by_cases q15 : a = 15
  · have w : (if a < 12 then (0 : Int32) else if 16 < a then 0 else 1) = 1 := by rw [q15]; exact t1216 15 (by omega) (by omega)
    have s : a - (12 : Int32) = nI 3 := by rw [q15]; decide
    refine fin (I 42 0 3) ?_ (mref 15 (by omega) (by omega) q15)
    unfold E_X10_status
    rw [kif_neg q0, kif_neg q1, kif_neg q2, kif_neg q3, kif_neg q4, kif_neg q5, kif_neg q6, kif_neg q7, kif_neg q8, kif_neg q9, kif_neg q10, kif_neg q11, kif_neg q12, kif_neg q13, kif_neg q14, kif_pos q15, F_within, w, kif_neg z1, s, kif_pos (vl 3 5 (by omega) (by omega)), hm, G_X10_status_244, nI_clamp (by omega), hR 3 (by omega)]
  by_cases q16 : a = 16
  · have w : (if a < 12 then (0 : Int32) else if 16 < a then 0 else 1) = 1 := by rw [q16]; exact t1216 16 (by omega) (by omega)
    have s : a - (12 : Int32) = nI 4 := by rw [q16]; decide
    refine fin (I 42 0 4) ?_ (mref 16 (by omega) (by omega) q16)
    unfold E_X10_status
    rw [kif_neg q0, kif_neg q1, kif_neg q2, kif_neg q3, kif_neg q4, kif_neg q5, kif_neg q6, kif_neg q7, kif_neg q8, kif_neg q9, kif_neg q10, kif_neg q11, kif_neg q12, kif_neg q13, kif_neg q14, kif_neg q15, kif_pos q16, F_within, w, kif_neg z1, s, kif_pos (vl 4 5 (by omega) (by omega)), hm, G_X10_status_244, nI_clamp (by omega), hR 4 (by omega)]
  have n16 : (if a < 12 then (0 : Int32) else if 16 < a then 0 else 1) = 0 := by
    rcases in_01 a 12 16 with e | e
    · exact e
    · obtain ⟨y, y1, y2, y3⟩ := in_yes (lo := 12) (hi := 16) (x := a) (by omega) (by omega) (by show ¬ (if a < 12 then (0 : Int32) else if 16 < a then 0 else 1) = 0; rw [e]; exact z1)
      have c : y = 12 ∨ y = 13 ∨ y = 14 ∨ y = 15 ∨ y = 16 := by omega
      rcases c with rfl | rfl | rfl | rfl | rfl
      · exact absurd y3 q12
      · exact absurd y3 q13
      · exact absurd y3 q14
      · exact absurd y3 q15
      · exact absurd y3 q16
  by_cases q17 : a = 17
  · refine fin (I 11 0 9) ?_ ?_
    · unfold E_X10_status
      rw [kif_neg q0, kif_neg q1, kif_neg q2, kif_neg q3, kif_neg q4, kif_neg q5, kif_neg q6, kif_neg q7, kif_neg q8, kif_neg q9, kif_neg q10, kif_neg q11, kif_neg q12, kif_neg q13, kif_neg q14, kif_neg q15, kif_neg q16, kif_pos q17, h.2.2.2.2.1.1]
    · unfold E_X11_status
      rw [in_0_11, n11, kif_pos rfl, in_12_16, n16, kif_pos rfl, kif_pos q17]
  by_cases q18 : a = 18
  · refine fin (I 41 0 19) ?_ ?_
    · unfold E_X10_status
      rw [kif_neg q0, kif_neg q1, kif_neg q2, kif_neg q3, kif_neg q4, kif_neg q5, kif_neg q6, kif_neg q7, kif_neg q8, kif_neg q9, kif_neg q10, kif_neg q11, kif_neg q12, kif_neg q13, kif_neg q14, kif_neg q15, kif_neg q16, kif_neg q17, kif_pos q18, h.2.1.2.2.2.2.2]
    · unfold E_X11_status
      rw [in_0_11, n11, kif_pos rfl, in_12_16, n16, kif_pos rfl, kif_neg q17, kif_pos q18, kif_pos (show vp_in (19 : Int32) 2509 from vl 19 2509 (by omega) (by omega)), show ((19 : Int32)).toNatClampNeg = 19 from rfl]
  by_cases q19 : a = 19
  · obtain ⟨v, v1, v2⟩ := cntS h.2.2.2.1 hg.2.2.2.1.2 8 0 0 kfu (by omega) (by unfold kfu; omega)
    refine fin v ?_ ?_
    · unfold E_X10_status
      rw [kif_neg q0, kif_neg q1, kif_neg q2, kif_neg q3, kif_neg q4, kif_neg q5, kif_neg q6, kif_neg q7, kif_neg q8, kif_neg q9, kif_neg q10, kif_neg q11, kif_neg q12, kif_neg q13, kif_neg q14, kif_neg q15, kif_neg q16, kif_neg q17, kif_neg q18, kif_pos q19, kbd_eq (show E_X10_countFullShelves I J = some v from v1)]
    · unfold E_X11_status
      rw [in_0_11, n11, kif_pos rfl, in_12_16, n16, kif_pos rfl, kif_neg q17, kif_neg q18, kif_pos q19, kbd_eq (show E_X11_held I J = some v from v2)]
  refine fin (-1) ?_ ?_
  · unfold E_X10_status
    rw [kif_neg q0, kif_neg q1, kif_neg q2, kif_neg q3, kif_neg q4, kif_neg q5, kif_neg q6, kif_neg q7, kif_neg q8, kif_neg q9, kif_neg q10, kif_neg q11, kif_neg q12, kif_neg q13, kif_neg q14, kif_neg q15, kif_neg q16, kif_neg q17, kif_neg q18, kif_neg q19, F_within, n16, kif_pos rfl, hm, G_X10_status_244]
  · unfold E_X11_status
    rw [in_0_11, n11, kif_pos rfl, in_12_16, n16, kif_pos rfl, kif_neg q17, kif_neg q18, kif_neg q19]

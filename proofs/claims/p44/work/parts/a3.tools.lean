/-! tools for the methods -/
theorem in_0_255 (a : Int32) (I : kI) (J : kJ) : F_X11_in (Int32.toInt64 a) (0 : Int64) (255 : Int64) I J = if a < 0 then 0 else if 255 < a then 0 else 1 := by
  have e1 : (0 : Int64) = Int32.toInt64 0 := by decide
  have e2 : (255 : Int64) = Int32.toInt64 255 := by decide
  rw [e1, e2]
  exact F_in32 a 0 255 I J
theorem in_0_6 (a : Int32) (I : kI) (J : kJ) : F_X11_in (Int32.toInt64 a) (0 : Int64) (6 : Int64) I J = if a < 0 then 0 else if 6 < a then 0 else 1 := by
  have e1 : (0 : Int64) = Int32.toInt64 0 := by decide
  have e2 : (6 : Int64) = Int32.toInt64 6 := by decide
  rw [e1, e2]
  exact F_in32 a 0 6 I J
theorem in_0_7 (a : Int32) (I : kI) (J : kJ) : F_X11_in (Int32.toInt64 a) (0 : Int64) (7 : Int64) I J = if a < 0 then 0 else if 7 < a then 0 else 1 := by
  have e1 : (0 : Int64) = Int32.toInt64 0 := by decide
  have e2 : (7 : Int64) = Int32.toInt64 7 := by decide
  rw [e1, e2]
  exact F_in32 a 0 7 I J
theorem in_0_2 (a : Int32) (I : kI) (J : kJ) : F_X11_in (Int32.toInt64 a) (0 : Int64) (2 : Int64) I J = if a < 0 then 0 else if 2 < a then 0 else 1 := by
  have e1 : (0 : Int64) = Int32.toInt64 0 := by decide
  have e2 : (2 : Int64) = Int32.toInt64 2 := by decide
  rw [e1, e2]
  exact F_in32 a 0 2 I J
theorem in_0_3 (a : Int32) (I : kI) (J : kJ) : F_X11_in (Int32.toInt64 a) (0 : Int64) (3 : Int64) I J = if a < 0 then 0 else if 3 < a then 0 else 1 := by
  have e1 : (0 : Int64) = Int32.toInt64 0 := by decide
  have e2 : (3 : Int64) = Int32.toInt64 3 := by decide
  rw [e1, e2]
  exact F_in32 a 0 3 I J
theorem in_0_5 (a : Int32) (I : kI) (J : kJ) : F_X11_in (Int32.toInt64 a) (0 : Int64) (5 : Int64) I J = if a < 0 then 0 else if 5 < a then 0 else 1 := by
  have e1 : (0 : Int64) = Int32.toInt64 0 := by decide
  have e2 : (5 : Int64) = Int32.toInt64 5 := by decide
  rw [e1, e2]
  exact F_in32 a 0 5 I J
theorem in_0_12 (a : Int32) (I : kI) (J : kJ) : F_X11_in (Int32.toInt64 a) (0 : Int64) (12 : Int64) I J = if a < 0 then 0 else if 12 < a then 0 else 1 := by
  have e1 : (0 : Int64) = Int32.toInt64 0 := by decide
  have e2 : (12 : Int64) = Int32.toInt64 12 := by decide
  rw [e1, e2]
  exact F_in32 a 0 12 I J
theorem in_13_24 (a : Int32) (I : kI) (J : kJ) : F_X11_in (Int32.toInt64 a) (13 : Int64) (24 : Int64) I J = if a < 13 then 0 else if 24 < a then 0 else 1 := by
  have e1 : (13 : Int64) = Int32.toInt64 13 := by decide
  have e2 : (24 : Int64) = Int32.toInt64 24 := by decide
  rw [e1, e2]
  exact F_in32 a 13 24 I J
theorem in_1_4 (a : Int32) (I : kI) (J : kJ) : F_X11_in (Int32.toInt64 a) (1 : Int64) (4 : Int64) I J = if a < 1 then 0 else if 4 < a then 0 else 1 := by
  have e1 : (1 : Int64) = Int32.toInt64 1 := by decide
  have e2 : (4 : Int64) = Int32.toInt64 4 := by decide
  rw [e1, e2]
  exact F_in32 a 1 4 I J
theorem in_3_4 (a : Int32) (I : kI) (J : kJ) : F_X11_in (Int32.toInt64 a) (3 : Int64) (4 : Int64) I J = if a < 3 then 0 else if 4 < a then 0 else 1 := by
  have e1 : (3 : Int64) = Int32.toInt64 3 := by decide
  have e2 : (4 : Int64) = Int32.toInt64 4 := by decide
  rw [e1, e2]
  exact F_in32 a 3 4 I J
theorem in_0_9999 (a : Int32) (I : kI) (J : kJ) : F_X11_in (Int32.toInt64 a) (0 : Int64) (9999 : Int64) I J = if a < 0 then 0 else if 9999 < a then 0 else 1 := by
  have e1 : (0 : Int64) = Int32.toInt64 0 := by decide
  have e2 : (9999 : Int64) = Int32.toInt64 9999 := by decide
  rw [e1, e2]
  exact F_in32 a 0 9999 I J
theorem in_1_999 (a : Int32) (I : kI) (J : kJ) : F_X11_in (Int32.toInt64 a) (1 : Int64) (999 : Int64) I J = if a < 1 then 0 else if 999 < a then 0 else 1 := by
  have e1 : (1 : Int64) = Int32.toInt64 1 := by decide
  have e2 : (999 : Int64) = Int32.toInt64 999 := by decide
  rw [e1, e2]
  exact F_in32 a 1 999 I J
theorem in_2_3 (a : Int32) (I : kI) (J : kJ) : F_X11_in (Int32.toInt64 a) (2 : Int64) (3 : Int64) I J = if a < 2 then 0 else if 3 < a then 0 else 1 := by
  have e1 : (2 : Int64) = Int32.toInt64 2 := by decide
  have e2 : (3 : Int64) = Int32.toInt64 3 := by decide
  rw [e1, e2]
  exact F_in32 a 2 3 I J
theorem in_0_23 (a : Int32) (I : kI) (J : kJ) : F_X11_in (Int32.toInt64 a) (0 : Int64) (23 : Int64) I J = if a < 0 then 0 else if 23 < a then 0 else 1 := by
  have e1 : (0 : Int64) = Int32.toInt64 0 := by decide
  have e2 : (23 : Int64) = Int32.toInt64 23 := by decide
  rw [e1, e2]
  exact F_in32 a 0 23 I J
theorem in_0_200 (a : Int32) (I : kI) (J : kJ) : F_X11_in (Int32.toInt64 a) (0 : Int64) (200 : Int64) I J = if a < 0 then 0 else if 200 < a then 0 else 1 := by
  have e1 : (0 : Int64) = Int32.toInt64 0 := by decide
  have e2 : (200 : Int64) = Int32.toInt64 200 := by decide
  rw [e1, e2]
  exact F_in32 a 0 200 I J
theorem in_1_60 (a : Int32) (I : kI) (J : kJ) : F_X11_in (Int32.toInt64 a) (1 : Int64) (60 : Int64) I J = if a < 1 then 0 else if 60 < a then 0 else 1 := by
  have e1 : (1 : Int64) = Int32.toInt64 1 := by decide
  have e2 : (60 : Int64) = Int32.toInt64 60 := by decide
  rw [e1, e2]
  exact F_in32 a 1 60 I J
theorem in_3_7 (a : Int32) (I : kI) (J : kJ) : F_X11_in (Int32.toInt64 a) (3 : Int64) (7 : Int64) I J = if a < 3 then 0 else if 7 < a then 0 else 1 := by
  have e1 : (3 : Int64) = Int32.toInt64 3 := by decide
  have e2 : (7 : Int64) = Int32.toInt64 7 := by decide
  rw [e1, e2]
  exact F_in32 a 3 7 I J
theorem in_0_20 (a : Int32) (I : kI) (J : kJ) : F_X11_in (Int32.toInt64 a) (0 : Int64) (20 : Int64) I J = if a < 0 then 0 else if 20 < a then 0 else 1 := by
  have e1 : (0 : Int64) = Int32.toInt64 0 := by decide
  have e2 : (20 : Int64) = Int32.toInt64 20 := by decide
  rw [e1, e2]
  exact F_in32 a 0 20 I J
theorem in_0_40 (a : Int32) (I : kI) (J : kJ) : F_X11_in (Int32.toInt64 a) (0 : Int64) (40 : Int64) I J = if a < 0 then 0 else if 40 < a then 0 else 1 := by
  have e1 : (0 : Int64) = Int32.toInt64 0 := by decide
  have e2 : (40 : Int64) = Int32.toInt64 40 := by decide
  rw [e1, e2]
  exact F_in32 a 0 40 I J
theorem in_0_4 (a : Int32) (I : kI) (J : kJ) : F_X11_in (Int32.toInt64 a) (0 : Int64) (4 : Int64) I J = if a < 0 then 0 else if 4 < a then 0 else 1 := by
  have e1 : (0 : Int64) = Int32.toInt64 0 := by decide
  have e2 : (4 : Int64) = Int32.toInt64 4 := by decide
  rw [e1, e2]
  exact F_in32 a 0 4 I J
theorem in_0_11 (a : Int32) (I : kI) (J : kJ) : F_X11_in (Int32.toInt64 a) (0 : Int64) (11 : Int64) I J = if a < 0 then 0 else if 11 < a then 0 else 1 := by
  have e1 : (0 : Int64) = Int32.toInt64 0 := by decide
  have e2 : (11 : Int64) = Int32.toInt64 11 := by decide
  rw [e1, e2]
  exact F_in32 a 0 11 I J
theorem in_12_16 (a : Int32) (I : kI) (J : kJ) : F_X11_in (Int32.toInt64 a) (12 : Int64) (16 : Int64) I J = if a < 12 then 0 else if 16 < a then 0 else 1 := by
  have e1 : (12 : Int64) = Int32.toInt64 12 := by decide
  have e2 : (16 : Int64) = Int32.toInt64 16 := by decide
  rw [e1, e2]
  exact F_in32 a 12 16 I J
theorem in_48_57 (a : Int32) (I : kI) (J : kJ) : F_X11_in (Int32.toInt64 a) (48 : Int64) (57 : Int64) I J = if a < 48 then 0 else if 57 < a then 0 else 1 := by
  have e1 : (48 : Int64) = Int32.toInt64 48 := by decide
  have e2 : (57 : Int64) = Int32.toInt64 57 := by decide
  rw [e1, e2]
  exact F_in32 a 48 57 I J
def hasW (x a : Int32) : Int32 := if a < 0 then 0 else if x ≤ a then 0 else 1
theorem hasW_01 (x a : Int32) : hasW x a = 0 ∨ hasW x a = 1 := by
  unfold hasW
  split
  · exact Or.inl rfl
  · split
    · exact Or.inl rfl
    · exact Or.inr rfl
theorem has_m1 {x a : Int32} {b : Nat} (h : rg x b) (hb : b < 2147483647) : (if a < 0 then (0 : Int32) else if x - 1 < a then 0 else 1) = hasW x a := by
  unfold hasW
  by_cases q : a < 0
  · rw [if_pos q, if_pos q]
  · rw [if_neg q, if_neg q]
    have h1 := h.2
    have hx : x.toInt = (nn x : Int) := by
      have e := congrArg Int32.toInt h.1
      rw [iz_nI (by omega)] at e
      exact e
    have e1 : (1 : Int32).toInt = 1 := rfl
    have e : (x - 1).toInt = x.toInt - 1 := by rw [iz_sub (by rw [e1, hx]; omega), e1]
    have i : (x - 1 < a) ↔ (x ≤ a) := by
      rw [Int32.lt_iff_toInt_lt, Int32.le_iff_toInt_le, e]
      omega
    simp only [i]
theorem hasW_yes {x a : Int32} {b : Nat} (h : rg x b) (hb : b < 2147483648) (q : ¬ hasW x a = 0) : ∃ j, j < nn x ∧ a = nI j := by
  unfold hasW at q
  by_cases q1 : a < 0
  · rw [if_pos q1] at q; exact absurd rfl q
  · rw [if_neg q1] at q
    by_cases q2 : x ≤ a
    · rw [if_pos q2] at q; exact absurd rfl q
    · rw [h.1] at q2
      have := h.2
      obtain ⟨j, h1, h2⟩ := iz_ofNN q1 q2 (by omega)
      exact ⟨j, h1, h2⟩
theorem hasW_k {x : Int32} {b j : Nat} (h : rg x b) (hb : b < 2147483648) (hj : j < nn x) : hasW x (nI j) = 1 := by
  have := h.2
  unfold hasW
  rw [if_neg (i_nlt0 j (by omega)), if_neg]
  rw [h.1, i_le (by omega) (by omega)]
  omega
theorem has1_W (o : Nat) (a : Int32) (I : kI) (J : kJ) : F_X1_has o a I J = hasW (I 1 o 5) a := by
  unfold F_X1_has hasW
  simp only [kif_eq]
theorem has2_W (o : Nat) (a : Int32) (I : kI) (J : kJ) : F_X2_has o a I J = hasW (I 2 o 5) a := by
  unfold F_X2_has hasW
  simp only [kif_eq]
theorem has3_W (o : Nat) (a : Int32) (I : kI) (J : kJ) : F_X3_has o a I J = hasW (I 3 o 4) a := by
  unfold F_X3_has hasW
  simp only [kif_eq]
theorem isKeeper_W (a : Int32) (I : kI) (J : kJ) (h : rg (I 41 0 13) 6) : F_X11_isKeeper a I J = hasW (I 41 0 13) a ∧ pre_X11_isKeeper a I J := by
  have l13 : ((13 : Int32)).toNatClampNeg = 13 := rfl
  have v13 : vp_in (13 : Int32) 2509 := vl 13 2509 (by omega) (by omega)
  have e0 : (0 : Int64) = Int32.toInt64 0 := by decide
  have e : F_X11_in (Int32.toInt64 a) (0 : Int64) (Int32.toInt64 (I 41 0 13 - 1)) I J = hasW (I 41 0 13) a := by
    rw [e0, F_in32, has_m1 h (by omega)]
  unfold F_X11_isKeeper pre_X11_isKeeper
  rw [l13, e]
  exact ⟨rfl, v13, hasW_01 _ _⟩
theorem isShip_W (a : Int32) (I : kI) (J : kJ) (h : rg (I 41 0 14) 200) : F_X11_isShip a I J = hasW (I 41 0 14) a ∧ pre_X11_isShip a I J := by
  have l13 : ((14 : Int32)).toNatClampNeg = 14 := rfl
  have v13 : vp_in (14 : Int32) 2509 := vl 14 2509 (by omega) (by omega)
  have e0 : (0 : Int64) = Int32.toInt64 0 := by decide
  have e : F_X11_in (Int32.toInt64 a) (0 : Int64) (Int32.toInt64 (I 41 0 14 - 1)) I J = hasW (I 41 0 14) a := by
    rw [e0, F_in32, has_m1 h (by omega)]
  unfold F_X11_isShip pre_X11_isShip
  rw [l13, e]
  exact ⟨rfl, v13, hasW_01 _ _⟩
/-! single numbers change -/
theorem WG_sc {g g' : Nat → Int32} {N : Nat} (h : WG g N) (hq : ∀ j, 12 ≤ j → ¬ (16 ≤ j ∧ j < 20) → ¬ (85 ≤ j ∧ j < 109) → g' j = g j) (h0 : g' 0 = g 0) (hP : WP g') (hO : WO g') : WG g' N := by
  obtain ⟨h1, h12, h13, h14, hS, _, _, hK, hF, hL⟩ := h
  refine ⟨by rw [h0]; exact h1, by rw [hq _ (by omega) (by omega) (by omega)]; exact h12, by rw [hq _ (by omega) (by omega) (by omega)]; exact h13, by rw [hq _ (by omega) (by omega) (by omega)]; exact h14, ?_, hP, hO, ?_, ?_, ?_⟩
  · have a := h12.2
    unfold WS
    rw [hq 12 (by omega) (by omega) (by omega)]
    intro i hi
    rw [hq _ (by omega) (by omega) (by omega), hq _ (by omega) (by omega) (by omega)]
    exact hS i hi
  · unfold WK
    rw [hq 14 (by omega) (by omega) (by omega)]
    intro i hi
    rw [hq _ (by omega) (by omega) (by omega), hq _ (by omega) (by omega) (by omega)]
    exact hK i hi
  · unfold WF
    rw [hq 14 (by omega) (by omega) (by omega), h0]
    intro i hi
    rw [hq _ (by omega) (by omega) (by omega), hq _ (by omega) (by omega) (by omega), hq _ (by omega) (by omega) (by omega)]
    exact hF i hi
  · rw [h0]
    exact WLb_LQ hL (fun j hj => hq j (by omega) (by omega) (by omega))
theorem CW_sc {I I' : kI} {o : Nat} {g g' : Nat → Int32} {N : Nat} (hg : WG g N) (h : CW I o g) (hI : ∀ t j, cwt t → ¬ t = 0 → ¬ t = 6 → ¬ t = 9 → ¬ t = 37 → I' t o j = I t o j) (hq : ∀ j, 12 ≤ j → ¬ (16 ≤ j ∧ j < 20) → ¬ (85 ≤ j ∧ j < 109) → g' j = g j) (h6 : ∀ j, j < 8 → I' 6 o (4 + j) = g' j) (h0 : ∀ j, j < 4 → I' 0 o j = g' (8 + j)) (h04 : I' 0 o 4 = g' 18) (h37 : ∀ i, i < 24 → I' 37 o i = g' (85 + i)) (h93 : I' 9 o 3 = g' 16) (h94 : I' 9 o 4 = g' 17) (h95 : I' 9 o 5 = g' 19) : CW I' o g' := by
  have h122 := hg.2.1.2
  have h132 := hg.2.2.1.2
  obtain ⟨⟨_, _, _, s4, s5, s6, s7, s8, _⟩, ⟨p, hF, hfm⟩, hL, _, _, _⟩ := h
  unfold cwt at hI
  have c12 : g' 12 = g 12 := hq _ (by omega) (by omega) (by omega)
  have c13 : g' 13 = g 13 := hq _ (by omega) (by omega) (by omega)
  have c14 : g' 14 = g 14 := hq _ (by omega) (by omega) (by omega)
  have c15 : g' 15 = g 15 := hq _ (by omega) (by omega) (by omega)
  have hgk : gk g' = gk g := funext fun s => by unfold gk; rw [hq _ (by omega) (by omega) (by omega)]
  have hgh : gh g' = gh g := funext fun s => by unfold gh; rw [hq _ (by omega) (by omega) (by omega)]
  refine ⟨⟨h6, h0, h04, ?_, ?_, ?_, ?_, ?_, h37⟩, ⟨p, ?_, ?_⟩, ⟨?_, ?_⟩, h93, h94, h95⟩
  · rw [hI _ _ (by omega) (by omega) (by omega) (by omega) (by omega), c12]; exact s4
  · rw [hI _ _ (by omega) (by omega) (by omega) (by omega) (by omega), c12, s5]
    refine congrArg nI (lsum_congr _ _ (fun x _ hx => ?_))
    show nn _ = nn _
    rw [hq _ (by omega) (by omega) (by omega)]
  · rw [c12]
    intro r hr
    rw [hI _ _ (by omega) (by omega) (by omega) (by omega) (by omega), hI _ _ (by omega) (by omega) (by omega) (by omega) (by omega), hq _ (by omega) (by omega) (by omega), hq _ (by omega) (by omega) (by omega)]
    exact s6 r hr
  · rw [hI _ _ (by omega) (by omega) (by omega) (by omega) (by omega), c13]; exact s7
  · rw [c13]
    intro i hi
    rw [hI _ _ (by omega) (by omega) (by omega) (by omega) (by omega), hI _ _ (by omega) (by omega) (by omega) (by omega) (by omega), hI _ _ (by omega) (by omega) (by omega) (by omega) (by omega), hI _ _ (by omega) (by omega) (by omega) (by omega) (by omega), hI _ _ (by omega) (by omega) (by omega) (by omega) (by omega), hq _ (by omega) (by omega) (by omega), hq _ (by omega) (by omega) (by omega), hq _ (by omega) (by omega) (by omega), hq _ (by omega) (by omega) (by omega)]
    exact s8 i hi
  · rw [c14, hgk, hgh]
    exact FL_congr hF (hI _ _ (by omega) (by omega) (by omega) (by omega) (by omega)) (fun _ => hI _ _ (by omega) (by omega) (by omega) (by omega) (by omega)) (fun _ => hI _ _ (by omega) (by omega) (by omega) (by omega) (by omega)) (fun _ => hI _ _ (by omega) (by omega) (by omega) (by omega) (by omega))
  · rw [c14]
    intro s hs
    rw [hI _ _ (by omega) (by omega) (by omega) (by omega) (by omega), hI _ _ (by omega) (by omega) (by omega) (by omega) (by omega), hq _ (by omega) (by omega) (by omega), hq _ (by omega) (by omega) (by omega)]
    exact hfm s hs
  · rw [hI _ _ (by omega) (by omega) (by omega) (by omega) (by omega), c15]; exact hL.1
  · rw [c15]
    intro e he
    rw [hI _ _ (by omega) (by omega) (by omega) (by omega) (by omega), hI _ _ (by omega) (by omega) (by omega) (by omega) (by omega), hI _ _ (by omega) (by omega) (by omega) (by omega) (by omega), hI _ _ (by omega) (by omega) (by omega) (by omega) (by omega), hq _ (by omega) (by omega) (by omega), hq _ (by omega) (by omega) (by omega), hq _ (by omega) (by omega) (by omega), hq _ (by omega) (by omega) (by omega)]
    exact hL.2 e he
def sam1 (I I' : kI) : Prop := (∀ t j, cwt t → I' t 1 j = I t 1 j) ∧ (∀ s j, I' 4 s j = I 4 s j) ∧ (∀ t j, (t = 7 ∨ t = 38 ∨ t = 40 ∨ t = 42 ∨ t = 43 ∨ t = 49 ∨ t = 50 ∨ t = 52) → I' t 0 j = I t 0 j) ∧ I' 10 0 7 = I 10 0 7 ∧ I' 11 0 3 = I 11 0 3 ∧ I' 11 0 9 = I 11 0 9 ∧ I' 41 2 = I 41 2
theorem Inv_w {N N' : Nat} {I I' : kI} {J : kJ} (h : Inv N I J) (q : sam1 I I') (hN : N ≤ N') (hg : WG (I' 41 0) N') (hc : CW I' 0 (I' 41 0)) (h14 : nn (I 41 0 14) ≤ nn (I' 41 0 14)) : Inv N' I' J := by
  obtain ⟨h1, h2, ⟨h3, h4⟩, h5, ⟨h6, h7, h8⟩, h9, h10⟩ := Inv_mono h hN
  obtain ⟨q1, q2, q3, q4, q5, q6, q8⟩ := q
  refine ⟨hg, hc, ⟨by rw [q4, q5, h3], ?_⟩, fun s hs => ?_, ⟨by rw [q3 _ _ (by omega), q6, h6], by rw [q6]; exact h7, fun j hj => ?_⟩, fun j hj => ?_, fun j hj => ?_⟩
  · rw [q5, q8]
    rcases h4 with e | e
    · exact Or.inl e
    · exact Or.inr ⟨e.1, e.2.1, CW_congr e.2.2 (fun t j a => q1 t j a)⟩
  · have e := h5 s hs
    unfold shl at e ⊢
    rw [q2, q2, q3 49 _ (by omega), q3 50 _ (by omega)]
    refine ⟨e.1, e.2.1, e.2.2.imp id (Or.imp id ?_)⟩
    rintro ⟨x, hx, e1, e2⟩
    exact ⟨x, by omega, e1, e2⟩
  · rw [q6] at hj
    rw [q3 38 _ (by omega), q3 43 _ (by omega)]
    exact h8 j hj
  · rw [q3 40 _ (by omega), q3 42 _ (by omega)]; exact h9 j hj
  · rw [q3 52 _ (by omega)]; exact h10 j hj
/-- one number of the class's world and one of the array -/
theorem kk_at (I : kI) {t s x : Nat} (v w : Int32) {t2 o2 j2 : Nat} (h1 : ¬ (t2 = t ∧ o2 = 0 ∧ j2 = s)) (h2 : ¬ (t2 = 41 ∧ o2 = 0 ∧ j2 = x)) : kw (kw I t 0 s v) 41 0 x w t2 o2 j2 = I t2 o2 j2 := by
  rw [kw_at _ _ h2, kw_at _ _ h1]
theorem kk_41 (I : kI) {t s x : Nat} (v w : Int32) (ht : ¬ t = 41) : kw (kw I t 0 s v) 41 0 x w 41 0 = upd (I 41 0) x w := by
  rw [kw_self]
  refine congrArg (fun f => upd f x w) (funext fun j => kw_at _ _ (by omega))
theorem kk_sam (I : kI) {t s x : Nat} (v w : Int32) (ht : t = 0 ∨ t = 6 ∨ t = 9 ∨ t = 37) : sam1 I (kw (kw I t 0 s v) 41 0 x w) := by
  refine ⟨fun t2 j h => kk_at _ _ _ (by omega) (by omega), fun s2 j => kk_at _ _ _ (by omega) (by omega), fun t2 j h => kk_at _ _ _ (by omega) (by omega), kk_at _ _ _ (by omega) (by omega), kk_at _ _ _ (by omega) (by omega), kk_at _ _ _ (by omega) (by omega), funext fun j => kk_at _ _ _ (by omega) (by omega)⟩

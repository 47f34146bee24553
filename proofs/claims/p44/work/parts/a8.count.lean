/-! logged, many, keeperOf -/
theorem g_logged (a : Int32) (I : kI) (J : kJ) (h : rg (I 41 0 15) 400) : ∀ n i acc m, i + n = nn (I 41 0 15) → n + 1 ≤ m → G_X11_logged a m 23 acc (nI i) I J = some (ls (fun e => if a = 0 ∨ I 41 0 (909 + 4 * e + 1) = a then 1 else 0) i n acc, I, J) := by
  have h2 := h.2
  have l15 : ((15 : Int32)).toNatClampNeg = 15 := rfl
  have v15 : vp_in (15 : Int32) 2509 := vl 15 2509 (by omega) (by omega)
  intro n
  induction n with
  | zero =>
    intro i acc m hi hm
    obtain ⟨m, rfl⟩ : ∃ m', m = m' + 1 := ⟨m - 1, by omega⟩
    rw [G_X11_logged_23, kif_pos v15, l15, kif_pos, ls]
    rw [h.1, i_le (by omega) (by omega)]
    omega
  | succ n ih =>
    intro i acc m hi hm
    obtain ⟨m, rfl⟩ : ∃ m', m = m' + 1 := ⟨m - 1, by omega⟩
    have c1 : (((909 : Int32) + 4 * nI i) + 1).toNatClampNeg = 909 + 4 * i + 1 := ix3c (a := 909) (b := 4) (c := 1) (by omega)
    have v1 : vp_in (((909 : Int32) + 4 * nI i) + 1) 2509 := ix3v (a := 909) (b := 4) (c := 1) (by omega) (by omega)
    have hn := fun acc => ih (i + 1) acc m (by omega) (by omega)
    rw [← nI_1] at hn
    rw [G_X11_logged_23, kif_pos v15, l15, kif_neg (by rw [h.1, i_le (by omega) (by omega)]; omega), ls]
    by_cases a0 : a = 0
    · rw [kif_pos a0, if_pos (Or.inl a0)]
      exact hn _
    · rw [kif_neg a0, kif_pos v1, c1]
      by_cases q : I 41 0 (909 + 4 * i + 1) = a
      · rw [kif_pos q, if_pos (Or.inr q)]
        exact hn _
      · rw [kif_neg q, if_neg (fun z => z.elim a0 q)]
        exact hn _
theorem ls_ones : ∀ n i (acc : Nat), ls (fun _ => (1 : Int32)) i n (nI acc) = nI (acc + n) := by
  intro n
  induction n with
  | zero => intro i acc; rfl
  | succ n ih => intro i acc; rw [ls, nI_1, ih]; congr 1; omega
theorem mm_logged {N : Nat} {I : kI} {J : kJ} (h : Inv N I J) (a : Int32) : MM sp_X10_logged sp_X11_logged [kx_i a] N I J := by
  have hL := h.1.2.2.2.2.2.2.2.2.2.1
  have hL2 := hL.2
  have cL := h.2.1.2.2.1
  by_cases w : (if a < 0 then (0 : Int32) else if 6 < a then 0 else 1) = 0
  · have c1 := cs_X10_logged a I J (-102, rfC 0 I, J) (by unfold E_X10_logged; rw [F_within, kif_pos w, kif_pos (rC0 I J).2, (rC0 I J).1])
    have c2 := cs_X11_logged a (rfC 0 I) J (-102, rfM 0 (rfC 0 I), J) (by unfold E_X11_logged; rw [in_0_6, kif_pos w, kif_pos (rM0 _ J).2, (rM0 _ J).1])
    exact ref_both h c1 rfl c2 rfl
  · have e2 := g_logged a I J hL (nn (I 41 0 15)) 0 0 kfu (by omega) (by unfold kfu; omega)
    have c2 := cs_X11_logged a I J _ (by unfold E_X11_logged; rw [in_0_6, kif_neg w]; exact e2)
    by_cases a0 : a = 0
    · have c1 := cs_X10_logged a I J (I 3 0 4, I, J) (by unfold E_X10_logged; rw [F_within, kif_neg w, kif_pos a0])
      refine MM_f c1 rfl c2 ?_ (Inv_mono h (by omega))
      have e : (fun e => if a = 0 ∨ I 41 0 (909 + 4 * e + 1) = a then (1 : Int32) else 0) = fun _ => 1 := funext fun e => if_pos (Or.inl a0)
      have o := ls_ones (nn (I 41 0 15)) 0 0
      rw [Nat.zero_add] at o
      have o2 : ls (fun _ => (1 : Int32)) 0 (nn (I 41 0 15)) 0 = nI (nn (I 41 0 15)) := o
      rw [e, o2, cL.1, ← hL.1]
    · have c1 := cs_X10_logged a I J (F_X3_countOf 0 a I J, I, J) (by unfold E_X10_logged; rw [F_within, kif_neg w, kif_neg a0, kif_pos]; exact ⟨_, hL2, by rw [cL.1]; exact hL.1⟩)
      refine MM_f c1 rfl c2 ?_ (Inv_mono h (by omega))
      unfold F_X3_countOf
      rw [cL.1]
      refine congrArg (fun x => (x, I, J)) (ls_congr _ _ _ (fun e _ he => ?_))
      replace he : e < 0 + nn (I 41 0 15) := he
      rw [(cL.2 e (by omega)).2.1]
      by_cases q : I 41 0 (909 + 4 * e + 1) = a
      · rw [if_pos q, if_pos (Or.inr q)]
      · rw [if_neg q, if_neg (fun z => z.elim a0 q)]
theorem isU_eq (k q : Nat) (h3 : 3 ≤ k) (h7 : k ≤ 7) (hq : q ≤ 7) (I I' : kI) (J J' : kJ) : F_X11_isUnder (nI k) (nI q) I J = F_X10_isUnder (nI k) (nI q) I' J' := by
  unfold F_X10_isUnder
  rw [uLp_uK _ h3 h7]
  unfold F_X11_isUnder
  rw [m_small k h3 h7]
  simp only [kif_eq]
  have e : k = 3 ∨ k = 4 ∨ k = 5 ∨ k = 6 ∨ k = 7 := by omega
  have e2 : q = 0 ∨ q = 1 ∨ q = 2 ∨ q = 3 ∨ q = 4 ∨ q = 5 ∨ q = 6 ∨ q = 7 := by omega
  rcases e with rfl | rfl | rfl | rfl | rfl <;> rcases e2 with rfl | rfl | rfl | rfl | rfl | rfl | rfl | rfl <;> decide
theorem g_many (a b : Int32) (I : kI) (J : kJ) (h : rg (I 41 0 14) 200) : ∀ n i acc m, i + n = nn (I 41 0 14) → n + 1 ≤ m → G_X11_many a b m 36 acc (nI i) I J = some (ls (fun s => if ¬ F_X11_isUnder (I 41 0 (109 + 4 * s)) a I J = 0 ∧ I 41 0 (109 + 4 * s + 2) = b then 1 else 0) i n acc, I, J) := by
  have h2 := h.2
  have l15 : ((14 : Int32)).toNatClampNeg = 14 := rfl
  have v15 : vp_in (14 : Int32) 2509 := vl 14 2509 (by omega) (by omega)
  intro n
  induction n with
  | zero =>
    intro i acc m hi hm
    obtain ⟨m, rfl⟩ : ∃ m', m = m' + 1 := ⟨m - 1, by omega⟩
    rw [G_X11_many_36, kif_pos v15, l15, kif_pos, ls]
    rw [h.1, i_le (by omega) (by omega)]
    omega
  | succ n ih =>
    intro i acc m hi hm
    obtain ⟨m, rfl⟩ : ∃ m', m = m' + 1 := ⟨m - 1, by omega⟩
    have o0 := ofS i 0 I J (by omega) (by omega)
    have o2 := ofS i 2 I J (by omega) (by omega)
    have p0 : pre_X11_ofShip (nI i) (0 : Int32) I J := o0.2
    have p2 : pre_X11_ofShip (nI i) (2 : Int32) I J := o2.2
    have f0 : F_X11_ofShip (nI i) (0 : Int32) I J = I 41 0 (109 + 4 * i) := o0.1
    have f2 : F_X11_ofShip (nI i) (2 : Int32) I J = I 41 0 (109 + 4 * i + 2) := o2.1
    have hn := fun acc => ih (i + 1) acc m (by omega) (by omega)
    rw [← nI_1] at hn
    rw [G_X11_many_36, kif_pos v15, l15, kif_neg (by rw [h.1, i_le (by omega) (by omega)]; omega), kif_pos p0, f0, ls]
    by_cases u : F_X11_isUnder (I 41 0 (109 + 4 * i)) a I J = 0
    · rw [kif_pos u, if_neg (fun z => z.1 u)]
      exact hn _
    · rw [kif_neg u, kif_pos p2, f2]
      by_cases q : I 41 0 (109 + 4 * i + 2) = b
      · rw [kif_pos q, if_pos ⟨u, q⟩]
        exact hn _
      · rw [kif_neg q, if_neg (fun z => q z.2)]
        exact hn _
theorem mm_many {N : Nat} {I : kI} {J : kJ} (h : Inv N I J) (a b : Int32) : MM sp_X10_many sp_X11_many [kx_i a, kx_i b] N I J := by
  have h14 := h.1.2.2.2.1
  have h142 := h14.2
  have hK := h.1.2.2.2.2.2.2.2.1
  obtain ⟨p, hF, hfm⟩ := h.2.1.2.1
  have ic : I 2 0 5 = I 41 0 14 := by rw [hF.2.1, ← h14.1]
  have pk : pre_X10_isKind a I J := by unfold pre_X10_isKind; rw [F_within]; exact in_01 _ _ _
  have ek : F_X10_isKind a I J = (if a < 0 then (0 : Int32) else if 7 < a then 0 else 1) := by unfold F_X10_isKind; rw [F_within]
  by_cases w : (if a < 0 then (0 : Int32) else if 7 < a then 0 else 1) = 0
  · have c1 := cs_X10_many a b I J (-102, rfC 0 I, J) (by unfold E_X10_many; rw [kif_pos pk, ek, kif_pos w, kif_pos (rC0 I J).2, (rC0 I J).1])
    have c2 := cs_X11_many a b (rfC 0 I) J (-102, rfM 0 (rfC 0 I), J) (by unfold E_X11_many; rw [in_0_7, kif_pos w, kif_pos (rM0 _ J).2, (rM0 _ J).1])
    exact ref_both h c1 rfl c2 rfl
  · by_cases w2 : (if b < 0 then (0 : Int32) else if 2 < b then 0 else 1) = 0
    · have c1 := cs_X10_many a b I J (-102, rfC 0 I, J) (by unfold E_X10_many; rw [kif_pos pk, ek, kif_neg w, F_within, kif_pos w2, kif_pos (rC0 I J).2, (rC0 I J).1])
      have c2 := cs_X11_many a b (rfC 0 I) J (-102, rfM 0 (rfC 0 I), J) (by unfold E_X11_many; rw [in_0_7, kif_neg w, in_0_2, kif_pos w2, kif_pos (rM0 _ J).2, (rM0 _ J).1])
      exact ref_both h c1 rfl c2 rfl
    · obtain ⟨k, _, hk, rfl⟩ := in_yes (lo := 0) (hi := 7) (by omega) (by omega) w
      have e2 := g_many (nI k) b I J h14 (nn (I 41 0 14)) 0 0 kfu (by omega) (by unfold kfu; omega)
      have c2 := cs_X11_many (nI k) b I J _ (by unfold E_X11_many; rw [in_0_7, kif_neg w, in_0_2, kif_neg w2]; exact e2)
      have c1 := cs_X10_many (nI k) b I J (F_X2_countFates 0 (nI k) b I J, I, J) (by unfold E_X10_many; rw [kif_pos pk, ek, kif_neg w, F_within, kif_neg w2, kif_pos]; exact ⟨_, h142, by rw [ic]; exact h14.1⟩)
      refine MM_f c1 rfl c2 ?_ (Inv_mono h (by omega))
      unfold F_X2_countFates
      rw [ic]
      refine congrArg (fun x => (x, I, J)) (ls_congr _ _ _ (fun s _ hs => ?_))
      replace hs : s < 0 + nn (I 41 0 14) := hs
      have ks := hK s (by omega)
      have e25 : I 25 0 s = I 41 0 (109 + 4 * s) := by rw [(hF.2.2.1 s (by omega)).1]; exact ks.1.1.symm
      have eu := isU_eq (nn (I 41 0 (109 + 4 * s))) k ks.2.1 ks.1.2 hk I I J J
      rw [← ks.1.1] at eu
      rw [eu, (hfm s (by omega)).1, e25]
      unfold F_X10_isUnder
      by_cases q1 : uLp (nI k) 8 (I 41 0 (109 + 4 * s)) = 0
      · rw [if_neg (fun z => z.1 q1), if_neg (fun z => z.2 q1)]
      · by_cases q2 : I 41 0 (109 + 4 * s + 2) = b
        · rw [if_pos ⟨q1, q2⟩, if_pos ⟨q2, q1⟩]
        · rw [if_neg (fun z => q2 z.2), if_neg (fun z => q2 z.1)]
theorem g_hoursOf (a : Int32) (I : kI) (J : kJ) : ∀ n i acc m, i + n = 24 → n + 1 ≤ m → G_X11_hoursOf a m 4 acc (nI i) I J = some (ls (fun x => if I 41 0 (85 + x) = a then 1 else 0) i n acc) := by
  intro n
  induction n with
  | zero =>
    intro i acc m hi hm
    obtain ⟨m, rfl⟩ : ∃ m', m = m' + 1 := ⟨m - 1, by omega⟩
    obtain rfl : i = 24 := by omega
    rw [G_X11_hoursOf_4, kif_pos (by decide), ls]
  | succ n ih =>
    intro i acc m hi hm
    obtain ⟨m, rfl⟩ : ∃ m', m = m' + 1 := ⟨m - 1, by omega⟩
    have c1 : ((85 : Int32) + nI i).toNatClampNeg = 85 + i := ix1c (a := 85) (by omega)
    have v1 : vp_in ((85 : Int32) + nI i) 2509 := ix1v (a := 85) (by omega) (by omega)
    have hn := fun acc => ih (i + 1) acc m (by omega) (by omega)
    rw [← nI_1] at hn
    rw [G_X11_hoursOf_4, kif_neg (by show ¬ nI 24 ≤ nI i; rw [i_le (by omega) (by omega)]; omega), kif_pos v1, c1, ls]
    by_cases q : I 41 0 (85 + i) = a
    · rw [kif_pos q, if_pos q]
      exact hn _
    · rw [kif_neg q, if_neg q]
      exact hn _
theorem ofK (i w : Nat) (I : kI) (J : kJ) (hi : i < 6) (hw : w ≤ 3) : F_X11_ofKeeper (nI i) (nI w) I J = I 41 0 (61 + 4 * i + w) ∧ pre_X11_ofKeeper (nI i) (nI w) I J := by
  have hcl : ((61 : Int32) + 4 * nI i + nI w).toNatClampNeg = 61 + 4 * i + w := ix3c (a := 61) (b := 4) (c := w) (by omega)
  have hv : vp_in ((61 : Int32) + 4 * nI i + nI w) 2509 := ix3v (a := 61) (b := 4) (c := w) (by omega) (by omega)
  unfold F_X11_ofKeeper pre_X11_ofKeeper
  rw [hcl]
  exact ⟨rfl, hv, trivial⟩
theorem mm_keeperOf {N : Nat} {I : kI} {J : kJ} (h : Inv N I J) (a b : Int32) : MM sp_X10_keeperOf sp_X11_keeperOf [kx_i a, kx_i b] N I J := by
  have h13 := h.1.2.2.1
  have h132 := h13.2
  have cS := h.2.1.1
  have ic : I 1 0 5 = I 41 0 13 := cS.2.2.2.2.2.2.1
  have z1 : ¬ (1 : Int32) = 0 := by decide
  have eh : ∀ J, F_X1_has 0 a I J = hasW (I 41 0 13) a := fun J => by rw [has1_W, ic]
  have km := isKeeper_W a (rfC 0 I) J (by rw [rfC_41]; exact h13)
  rw [rfC_41] at km
  by_cases w : hasW (I 41 0 13) a = 0
  · have c1 := cs_X10_keeperOf a b I J (-102, rfC 0 I, J) (by unfold E_X10_keeperOf; rw [eh, kif_pos w, kif_pos (rC0 I J).2, (rC0 I J).1])
    have c2 := cs_X11_keeperOf a b (rfC 0 I) J (-102, rfM 0 (rfC 0 I), J) (by unfold E_X11_keeperOf; rw [km.1, kif_pos km.2, kif_pos w, kif_pos (rM0 _ J).2, (rM0 _ J).1])
    exact ref_both h c1 rfl c2 rfl
  · obtain ⟨i, hi, rfl⟩ := hasW_yes h13 (by omega) w
    have ci : (nI i).toNatClampNeg = i := nI_clamp (by omega)
    have vi : vp_in (nI i) 6 := vl i 6 (by omega) (by omega)
    have ck := cS.2.2.2.2.2.2.2.1 i hi
    have ks := isKeeper_W (nI i) I J h13
    have t5 : ∀ x, x ≤ 5 → b = nI x → ¬ (if b < 0 then (0 : Int32) else if 5 < b then 0 else 1) = 0 := fun x hx hb => by
      rw [hb]
      have e : (if nI x < 0 then (0 : Int32) else if 5 < nI x then 0 else 1) = 1 := in_k (lo := 0) (hi := 5) (by omega) (by omega) (by omega)
      rw [e]
      exact z1
    have yes : ∀ v, E_X10_keeperOf (nI i) b I J = some (v, I, J) → E_X11_keeperOf (nI i) b I J = some (v, I, J) → MM sp_X10_keeperOf sp_X11_keeperOf [kx_i (nI i), kx_i b] N I J := fun v e1 e2 => by
      have c1 := cs_X10_keeperOf _ _ _ _ _ e1
      have c2 := cs_X11_keeperOf _ _ _ _ _ e2
      exact MM_f c1 rfl c2 rfl (Inv_mono h (by omega))
    have oi : ∀ x, x ≤ 3 → _ := fun x hx => ofK i x I J (by omega) hx
    have pr : ∀ J, kif (F_X1_has 0 (nI i) I J = 0) True (vp_in (nI i) 6 ∧ True) := fun J => by
      rw [eh, kif_neg w]
      exact ⟨vi, trivial⟩
    by_cases b0 : b = 0
    · refine yes (I 41 0 (61 + 4 * i)) ?_ ?_
      · unfold E_X10_keeperOf
        rw [eh, kif_neg w, kif_pos b0, kif_pos (show pre_X1_rankOf 0 (nI i) I J from pr J)]
        unfold F_X1_rankOf
        rw [eh, kif_neg w, ci, ck.1]
      · unfold E_X11_keeperOf
        rw [kif_pos ks.2, ks.1, kif_neg w, in_0_5, kif_neg (t5 0 (by omega) b0), kif_pos b0, b0, kif_pos (show pre_X11_ofKeeper (nI i) (0 : Int32) I J from (oi 0 (by omega)).2), show F_X11_ofKeeper (nI i) (0 : Int32) I J = I 41 0 (61 + 4 * i) from (oi 0 (by omega)).1]
    · by_cases b1 : b = 1
      · refine yes (I 41 0 (61 + 4 * i + 1)) ?_ ?_
        · unfold E_X10_keeperOf
          rw [eh, kif_neg w, kif_neg b0, kif_pos b1, kif_pos (show pre_X1_tiredOf 0 (nI i) I J from pr J)]
          unfold F_X1_tiredOf
          rw [eh, kif_neg w, ci, ck.2.2.1]
        · unfold E_X11_keeperOf
          rw [kif_pos ks.2, ks.1, kif_neg w, in_0_5, kif_neg (t5 1 (by omega) b1), kif_neg b0, kif_pos b1, b1, kif_pos (show pre_X11_ofKeeper (nI i) (1 : Int32) I J from (oi 1 (by omega)).2), show F_X11_ofKeeper (nI i) (1 : Int32) I J = I 41 0 (61 + 4 * i + 1) from (oi 1 (by omega)).1]
      · by_cases b2 : b = 2
        · refine yes (12 - 3 * I 41 0 (61 + 4 * i)) ?_ ?_
          · unfold E_X10_keeperOf
            rw [eh, kif_neg w, kif_neg b0, kif_neg b1, kif_pos b2, kif_pos (show pre_X1_lastsOf 0 (nI i) I J from pr J)]
            unfold F_X1_lastsOf
            rw [eh, kif_neg w, ci, ck.2.1]
          · unfold E_X11_keeperOf
            have pl : pre_X11_lasts (nI i) I J := ⟨(oi 0 (by omega)).2, trivial⟩
            rw [kif_pos ks.2, ks.1, kif_neg w, in_0_5, kif_neg (t5 2 (by omega) b2), kif_neg b0, kif_neg b1, kif_pos b2, kif_pos pl]
            unfold F_X11_lasts
            rw [show F_X11_ofKeeper (nI i) (0 : Int32) I J = I 41 0 (61 + 4 * i) from (oi 0 (by omega)).1]
        · by_cases b3 : b = 3
          · refine yes (F_X6_hoursPlannedFor 0 (nI i) I J) ?_ ?_
            · unfold E_X10_keeperOf
              rw [eh, kif_neg w, kif_neg b0, kif_neg b1, kif_neg b2, kif_pos b3]
            · have e : E_X11_hoursOf (nI i) I J = some (F_X6_hoursPlannedFor 0 (nI i) I J) := by
                unfold E_X11_hoursOf F_X6_hoursPlannedFor
                refine (g_hoursOf (nI i) I J 24 0 0 kfu (by omega) (by unfold kfu; omega)).trans ?_
                refine congrArg some (ls_congr _ _ _ (fun x _ hx => ?_))
                rw [cS.2.2.2.2.2.2.2.2 x (by omega)]
              unfold E_X11_keeperOf
              rw [kif_pos ks.2, ks.1, kif_neg w, in_0_5, kif_neg (t5 3 (by omega) b3), kif_neg b0, kif_neg b1, kif_neg b2, kif_pos b3, kbd_eq e]
          · by_cases b4 : b = 4
            · refine yes (I 41 0 (61 + 4 * i + 2)) ?_ ?_
              · unfold E_X10_keeperOf
                rw [eh, kif_neg w, kif_neg b0, kif_neg b1, kif_neg b2, kif_neg b3, kif_pos b4, kif_pos (show pre_X1_tendedBy 0 (nI i) I J from pr J)]
                unfold F_X1_tendedBy
                rw [eh, kif_neg w, ci, ck.2.2.2.1]
              · unfold E_X11_keeperOf
                rw [kif_pos ks.2, ks.1, kif_neg w, in_0_5, kif_neg (t5 4 (by omega) b4), kif_neg b0, kif_neg b1, kif_neg b2, kif_neg b3, b4, show (4 : Int32) - 2 = nI 2 by decide, kif_pos (oi 2 (by omega)).2, (oi 2 (by omega)).1]
            · by_cases b5 : b = 5
              · refine yes (I 41 0 (61 + 4 * i + 3)) ?_ ?_
                · unfold E_X10_keeperOf
                  rw [eh, kif_neg w, kif_neg b0, kif_neg b1, kif_neg b2, kif_neg b3, kif_neg b4, kif_pos b5, kif_pos (show pre_X1_sleptBy 0 (nI i) I J from pr J)]
                  unfold F_X1_sleptBy
                  rw [eh, kif_neg w, ci, ck.2.2.2.2]
                · unfold E_X11_keeperOf
                  rw [kif_pos ks.2, ks.1, kif_neg w, in_0_5, kif_neg (t5 5 (by omega) b5), kif_neg b0, kif_neg b1, kif_neg b2, kif_neg b3, b5, show (5 : Int32) - 2 = nI 3 by decide, kif_pos (oi 3 (by omega)).2, (oi 3 (by omega)).1]
              · have e3 : (if b < 0 then (0 : Int32) else if 5 < b then 0 else 1) = 0 := by
                  rcases in_01 b 0 5 with e | e
                  · exact e
                  · obtain ⟨y, y1, y2, y3⟩ := in_yes (lo := 0) (hi := 5) (x := b) (by omega) (by omega) (by show ¬ (if b < 0 then (0 : Int32) else if 5 < b then 0 else 1) = 0; rw [e]; exact z1)
                    have c : y = 0 ∨ y = 1 ∨ y = 2 ∨ y = 3 ∨ y = 4 ∨ y = 5 := by omega
                    rcases c with rfl | rfl | rfl | rfl | rfl | rfl
                    · exact absurd y3 b0
                    · exact absurd y3 b1
                    · exact absurd y3 b2
                    · exact absurd y3 b3
                    · exact absurd y3 b4
                    · exact absurd y3 b5
                have c1 := cs_X10_keeperOf (nI i) b I J (-102, rfC 0 I, J) (by unfold E_X10_keeperOf; rw [eh, kif_neg w, kif_neg b0, kif_neg b1, kif_neg b2, kif_neg b3, kif_neg b4, kif_neg b5, kif_pos (rC0 I J).2, (rC0 I J).1])
                have c2 := cs_X11_keeperOf (nI i) b (rfC 0 I) J (-102, rfM 0 (rfC 0 I), J) (by unfold E_X11_keeperOf; rw [km.1, kif_pos km.2, kif_neg w, in_0_5, kif_pos e3, kif_pos (rM0 _ J).2, (rM0 _ J).1])
                exact ref_both h c1 rfl c2 rfl

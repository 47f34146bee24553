/-! the class alone: what is asked of it -/
theorem aD_01 (g : Nat → Int32) (k : Nat) : aD g k = 0 ∨ aD g k = 1 := by
  unfold aD
  split
  · exact Or.inr rfl
  · split
    · exact Or.inl rfl
    · exact Or.inr rfl
theorem ki_dark {N : Nat} {I : kI} {g : Nat → Int32} (J : kJ) (h : CI N I g) (k : Nat) (hk : k < 2147483648) : sp_X10_dark [kx_r 10 0, kx_i (nI k)] (I, J, none) (some (kx_i (aD g k))) (I, J, none) := by
  have q : 0 ≤ nI k := Int32.not_lt.mp (i_nlt0 k hk)
  have eD : cD I 0 k = aD g k := (c_watch h.1 h.2.1 k).2.2
  have e1 := cs_X10_dark (nI k) I J (by unfold pre_X10_dark; rw [kif_pos q]; exact ⟨p_dark _ _ _ _, trivial⟩)
  unfold F_X10_dark at e1
  rw [kif_pos q, F_isDark 0 k hk, eD] at e1
  rcases aD_01 g k with z | z
  · rw [kif_pos z] at e1
    rw [z]
    exact e1
  · rw [kif_neg (by rw [z]; decide)] at e1
    rw [z]
    exact e1
theorem ki_status {N : Nat} {I : kI} {g : Nat → Int32} (J : kJ) (h : CI N I g) : sp_X10_status [kx_r 10 0, kx_i 1] (I, J, none) (some (kx_i (g 4))) (I, J, none) ∧ sp_X10_status [kx_r 10 0, kx_i 3] (I, J, none) (some (kx_i (g 6))) (I, J, none) ∧ sp_X10_status [kx_r 10 0, kx_i 4] (I, J, none) (some (kx_i (g 7))) (I, J, none) ∧ sp_X10_status [kx_r 10 0, kx_i 8] (I, J, none) (some (kx_i (g 16))) (I, J, none) := by
  have hcS := h.2.1
  have z1 : ¬ (1 : Int32) = 0 := by decide
  obtain ⟨m, hm⟩ : ∃ m, kfu = m + 1 := ⟨kfu - 1, by unfold kfu; omega⟩
  have d : ∀ {a b : Int32}, a.toInt ≠ b.toInt → ¬ a = b := fun q e => q (congrArg Int32.toInt e)
  have e4 : I 6 0 8 = g 4 := hcS.1 4 (by omega)
  have e6 : I 6 0 10 = g 6 := hcS.1 6 (by omega)
  have e7 : I 6 0 11 = g 7 := hcS.1 7 (by omega)
  have e16 : I 9 0 3 = g 16 := h.2.2.2.2.1
  refine ⟨?_, ?_, ?_, ?_⟩
  · have c := cs_X10_status 1 I J (g 4) (by
      unfold E_X10_status
      rw [kif_neg (show ¬ (1 : Int32) = 0 by decide), kif_pos rfl, e4])
    exact c
  · have c := cs_X10_status 3 I J (g 6) (by
      unfold E_X10_status
      rcases rg_01 h.1.2.2.2.2.2.2.1.2.2.2.2.1 with y | y
      · rw [kif_neg (show ¬ (3 : Int32) = 0 by decide), kif_neg (show ¬ (3 : Int32) = 1 by decide), kif_neg (show ¬ (3 : Int32) = 2 by decide), kif_pos rfl, e6, y, kif_pos rfl, hm, G_X10_status_131]
      · rw [kif_neg (show ¬ (3 : Int32) = 0 by decide), kif_neg (show ¬ (3 : Int32) = 1 by decide), kif_neg (show ¬ (3 : Int32) = 2 by decide), kif_pos rfl, e6, y, kif_neg z1, hm, G_X10_status_131])
    exact c
  · have c := cs_X10_status 4 I J (g 7) (by
      unfold E_X10_status
      rw [kif_neg (show ¬ (4 : Int32) = 0 by decide), kif_neg (show ¬ (4 : Int32) = 1 by decide), kif_neg (show ¬ (4 : Int32) = 2 by decide), kif_neg (show ¬ (4 : Int32) = 3 by decide), kif_pos rfl, e7])
    exact c
  · have c := cs_X10_status 8 I J (g 16) (by
      unfold E_X10_status
      rw [kif_neg (show ¬ (8 : Int32) = 0 by decide), kif_neg (show ¬ (8 : Int32) = 1 by decide), kif_neg (show ¬ (8 : Int32) = 2 by decide), kif_neg (show ¬ (8 : Int32) = 3 by decide), kif_neg (show ¬ (8 : Int32) = 4 by decide), kif_neg (show ¬ (8 : Int32) = 5 by decide), kif_neg (show ¬ (8 : Int32) = 6 by decide), kif_neg (show ¬ (8 : Int32) = 7 by decide), kif_pos rfl, e16])
    exact c
theorem ki_would {N : Nat} (hN : N < 900000) {I : kI} {g : Nat → Int32} (J : kJ) (h : CI N I g) (b : Nat) (hb : b ≤ 5) : ∃ I', sp_X10_would [kx_r 10 0, kx_i (nI 48), kx_i (nI b)] (I, J, none) (some (kx_i (kif (nI b = 0) (Hn 48 g 16 - g 16) (kif (nI b = 1) (Hn 48 g 4) (kif (nI b = 2) (Hn 48 g 5) (kif (nI b = 3) (B 1 (Hn 48 g) - B 1 g) (kif (nI b = 4) (B 2 (Hn 48 g) - B 2 g) (Hn 48 g 20 - g 20)))))))) (I', J, none) ∧ CI N I' g := by
  have hg := h.1
  have z1 : ¬ (1 : Int32) = 0 := by decide
  have ph : pre_X10_areHours (nI 48) I J := by unfold pre_X10_areHours; rw [F_within]; exact in_01 _ _ _
  have eh : F_X10_areHours (nI 48) I J = 1 := by unfold F_X10_areHours; rw [F_within]; exact in_k (lo := 0) (hi := 200) (by omega) (by omega) (by omega)
  have w2 : (if nI b < 0 then (0 : Int32) else if 5 < nI b then 0 else 1) = 1 := in_k (lo := 0) (hi := 5) (by omega) (by omega) (by omega)
  obtain ⟨K1, e1, r1, f1, _⟩ := T_begin (show N < 1000000 by omega) I J hg h.2.1 h.2.2.1
  obtain ⟨K2, e2, r2, f2⟩ := T_passHours J 48 (by omega) K1 g N hg (by omega) r1
  have fK := thF_tr f1 f2
  obtain ⟨hS, _, u1, u2, u3, u4⟩ := r2
  have s4 : K2 6 2 8 = Hn 48 g 4 := hS.1 4 (by omega)
  have s5 : K2 6 2 9 = Hn 48 g 5 := hS.1 5 (by omega)
  have q1 : E_X10_would (nI 48) (nI b) I J = some (kif (nI b = 0) (Hn 48 g 16 - g 16) (kif (nI b = 1) (Hn 48 g 4) (kif (nI b = 2) (Hn 48 g 5) (kif (nI b = 3) (B 1 (Hn 48 g) - B 1 g) (kif (nI b = 4) (B 2 (Hn 48 g) - B 2 g) (Hn 48 g 20 - g 20))))), K2, J) := by
    unfold E_X10_would
    rw [kif_pos ph, eh, kif_neg z1, F_within, w2, kif_neg z1, kbd_eq e1]
    dsimp only
    rw [kbd_eq e2]
    dsimp only
    rw [u1, u2, u3, u4, s4, s5]
    by_cases z0 : nI b = 0
    · rw [kif_pos z0, kif_pos z0]
    · rw [kif_neg z0, kif_neg z0]
      by_cases z1 : nI b = 1
      · rw [kif_pos z1, kif_pos z1]
      · rw [kif_neg z1, kif_neg z1]
        by_cases z2 : nI b = 2
        · rw [kif_pos z2, kif_pos z2]
        · rw [kif_neg z2, kif_neg z2]
          by_cases z3 : nI b = 3
          · rw [kif_pos z3, kif_pos z3]
          · rw [kif_neg z3, kif_neg z3]
            by_cases z4 : nI b = 4
            · rw [kif_pos z4, kif_pos z4]
            · rw [kif_neg z4, kif_neg z4]
  have c1 := cs_X10_would _ _ _ _ _ q1
  exact ⟨K2, c1, CI_cg h (fun t j a => fK _ _ _ (by unfold cwt at a; omega) (by omega))⟩
theorem ki_pass {N : Nat} (hN : N < 900000) {I : kI} {g : Nat → Int32} (J : kJ) (h : CI N I g) : ∃ I', sp_X10_pass [kx_r 10 0, kx_i (nI 1)] (I, J, none) (some (kx_i (H g 16 - g 16))) (I', J, none) ∧ CI (N + 1) I' (H g) := by
  have z1 : ¬ (1 : Int32) = 0 := by decide
  have ph : pre_X10_areHours (nI 1) I J := by unfold pre_X10_areHours; rw [F_within]; exact in_01 _ _ _
  have eh : F_X10_areHours (nI 1) I J = 1 := by unfold F_X10_areHours; rw [F_within]; exact in_k (lo := 0) (hi := 200) (by omega) (by omega) (by omega)
  obtain ⟨I1, e1, d1, f1⟩ := C_pass J 1 (by omega) (I 9 0 3) 1 0 kfu I g N (by omega) (by unfold kfu; omega) h.1 (by omega) h.2
  have c1 := cs_X10_pass (nI 1) I J _ (by unfold E_X10_pass; rw [kif_pos ph, eh, kif_neg z1]; exact e1)
  rw [h.2.2.2.2.1] at c1
  exact ⟨I1, c1, hG_ok (by omega) h.1, d1⟩
noncomputable def cM (g : Nat → Int32) (f : Nat) : Nat := lsum (fun s => kif (g (109 + 4 * s + 2) = nI f) 1 0) 0 (nn (g 14))
noncomputable def cS (g : Nat → Int32) (p : Nat) : Nat := lsum (fun e => kif (g (909 + 4 * e + 1) = nI p) 1 0) 0 (nn (g 15))
noncomputable def cA (g : Nat → Int32) (i n : Nat) : Nat := lsum (fun e => kif (¬ sa g e = -1) 1 0) i n
theorem kif_nI {P : Prop} : nI (kif P 1 0) = kif P 1 0 := by
  by_cases q : P
  · rw [kif_pos q, kif_pos q]; rfl
  · rw [kif_neg q, kif_neg q]; rfl
theorem ki_many {N : Nat} {I : kI} {g : Nat → Int32} (J : kJ) (h : CI N I g) (f : Nat) (hf : f ≤ 2) : sp_X10_many [kx_r 10 0, kx_i (nI 0), kx_i (nI f)] (I, J, none) (some (kx_i (nI (cM g f)))) (I, J, none) := by
  have h14 := h.1.2.2.2.1
  have h142 := h14.2
  have hK := h.1.2.2.2.2.2.2.2.1
  obtain ⟨p, hF, hfm⟩ := h.2.2.1
  have z1 : ¬ (1 : Int32) = 0 := by decide
  have ic : I 2 0 5 = g 14 := by rw [hF.2.1, ← h14.1]
  have pk : pre_X10_isKind (nI 0) I J := by unfold pre_X10_isKind; rw [F_within]; exact in_01 _ _ _
  have ek : F_X10_isKind (nI 0) I J = 1 := by unfold F_X10_isKind; rw [F_within]; exact in_k (lo := 0) (hi := 7) (by omega) (by omega) (by omega)
  have w2 : (if nI f < 0 then (0 : Int32) else if 2 < nI f then 0 else 1) = 1 := in_k (lo := 0) (hi := 2) (by omega) (by omega) (by omega)
  have c1 := cs_X10_many (nI 0) (nI f) I J (F_X2_countFates 0 (nI 0) (nI f) I J, I, J) (by unfold E_X10_many; rw [kif_pos pk, ek, kif_neg z1, F_within, w2, kif_neg z1, kif_pos]; exact ⟨_, h142, by rw [ic]; exact h14.1⟩)
  have e : F_X2_countFates 0 (nI 0) (nI f) I J = nI (cM g f) := by
    unfold F_X2_countFates cM
    rw [ic]
    have q := lsum_ls (fun j => if I 27 0 j = nI f ∧ ¬ uLp (nI 0) 8 (I 25 0 j) = 0 then 1 else 0) (fun s => kif (g (109 + 4 * s + 2) = nI f) 1 0) (nn (g 14)) 0 0 (fun s _ hs => by
      have ks := hK s (by omega)
      have ks1 := ks.1
      have ks2 := ks.2.1
      have e25 : I 25 0 s = nI (nn (g (109 + 4 * s))) := (hF.2.2.1 s (by omega)).1
      have nz : ¬ uLp (nI 0) 8 (nI (nn (g (109 + 4 * s)))) = 0 := by
        have c : nn (g (109 + 4 * s)) = 3 ∨ nn (g (109 + 4 * s)) = 4 ∨ nn (g (109 + 4 * s)) = 5 ∨ nn (g (109 + 4 * s)) = 6 ∨ nn (g (109 + 4 * s)) = 7 := by
          have := ks1.2
          omega
        rcases c with c | c | c | c | c <;> rw [c] <;> decide
      rw [kif_nI, e25, (hfm s (by omega)).1]
      by_cases q : g (109 + 4 * s + 2) = nI f
      · rw [if_pos ⟨q, nz⟩, kif_pos q]
      · rw [if_neg (fun z => q z.1), kif_neg q])
    rw [Nat.zero_add] at q
    exact q
  rw [e] at c1
  exact c1
theorem ki_logged {N : Nat} {I : kI} {g : Nat → Int32} (J : kJ) (h : CI N I g) (p : Nat) (h1 : 1 ≤ p) (h6 : p ≤ 6) : sp_X10_logged [kx_r 10 0, kx_i (nI p)] (I, J, none) (some (kx_i (nI (cS g p)))) (I, J, none) := by
  have hL := h.1.2.2.2.2.2.2.2.2.2.1
  have hL2 := hL.2
  have cL := h.2.2.2.1
  have z1 : ¬ (1 : Int32) = 0 := by decide
  have w : (if nI p < 0 then (0 : Int32) else if 6 < nI p then 0 else 1) = 1 := in_k (lo := 0) (hi := 6) (by omega) (by omega) (by omega)
  have a0 : ¬ nI p = 0 := fun q => by
    have := nI_inj (a := p) (b := 0) (by omega) (by omega) q
    omega
  have c1 := cs_X10_logged (nI p) I J (F_X3_countOf 0 (nI p) I J, I, J) (by unfold E_X10_logged; rw [F_within, w, kif_neg z1, kif_neg a0, kif_pos]; exact ⟨_, hL2, by rw [cL.1]; exact hL.1⟩)
  have e : F_X3_countOf 0 (nI p) I J = nI (cS g p) := by
    unfold F_X3_countOf cS
    rw [cL.1]
    have q := lsum_ls (fun e => if I 31 0 e = nI p then 1 else 0) (fun e => kif (g (909 + 4 * e + 1) = nI p) 1 0) (nn (g 15)) 0 0 (fun e _ he => by
      rw [kif_nI, (cL.2 e (by omega)).2.1]
      by_cases q : g (909 + 4 * e + 1) = nI p
      · rw [if_pos q, kif_pos q]
      · rw [if_neg q, kif_neg q])
    rw [Nat.zero_add] at q
    exact q
  rw [e] at c1
  exact c1
theorem ki_diffs {N : Nat} (hN : N < 1000000) {I : kI} {g : Nat → Int32} (J : kJ) (h : CI N I g) : sp_X10_differences [kx_r 10 0, kx_i (-1)] (I, J, none) (some (kx_i (nI (cA g 0 (nn (g 15)))))) (I, J, none) := by
  have hg := h.1
  have hc := h.2
  have hL := hg.2.2.2.2.2.2.2.2.2.1
  have hL2 := hL.2
  have cL := hc.2.2.1
  have z1 : ¬ (1 : Int32) = 0 := by decide
  have loop : ∀ n i acc m, i + n = nn (g 15) → n + 1 ≤ m → G_X9_countDifferences 0 (-1) m 4 (nI acc) (nI i) I J = some (nI (acc + cA g i n)) := by
    intro n
    induction n with
    | zero =>
      intro i acc m hi hm
      obtain ⟨m, rfl⟩ : ∃ m', m = m' + 1 := ⟨m - 1, by omega⟩
      have le : g 15 ≤ nI i := by rw [hL.1, i_le (by omega) (by omega)]; omega
      rw [G_X9_countDifferences_4, cL.1, kif_pos le]
      rfl
    | succ n ih =>
      intro i acc m hi hm
      obtain ⟨m, rfl⟩ : ∃ m', m = m' + 1 := ⟨m - 1, by omega⟩
      have nle : ¬ g 15 ≤ nI i := by rw [hL.1, i_le (by omega) (by omega)]; omega
      have he : i < nn (g 15) := by omega
      have eC := C_against hN hg hc J he
      have hn := fun acc => ih (i + 1) acc m (by omega) (by omega)
      have ec : cA g i (n + 1) = kif (¬ sa g i = -1) 1 0 + cA g (i + 1) n := rfl
      rw [G_X9_countDifferences_4, cL.1, kif_neg nle, kif_pos rfl, kif_neg z1, kbd_eq eC, nI_1, ec]
      by_cases y : sa g i = -1
      · rw [kif_pos y, kif_neg (fun z => z y), Nat.zero_add]
        have a0 : nI acc + 0 = nI acc := Int32.add_zero _
        first
          | exact hn acc
          | (rw [a0]; exact hn acc)
      · rw [kif_neg y, kif_pos y, ← Nat.add_assoc]
        have a1 : nI acc + 1 = nI (acc + 1) := nI_1 _
        rw [a1]
        exact hn (acc + 1)
  have v := loop (nn (g 15)) 0 0 kfu (by omega) (by unfold kfu; omega)
  rw [Nat.zero_add] at v
  have ek : F_X10_isKeeperOrNone (-1) I J = 1 := by
    unfold F_X10_isKeeperOrNone
    rw [kif_pos rfl]
  have c1 := cs_X10_differences (-1) I J (nI (cA g 0 (nn (g 15))), I, J) (by unfold E_X10_differences; rw [ek, kif_neg z1, kbd_eq (show E_X9_countDifferences 0 (-1) I J = some _ from v)])
  exact c1
theorem ki_diff {N : Nat} (hN : N < 1000000) {I : kI} {g : Nat → Int32} (J : kJ) (h : CI N I g) (x : Nat) (hx : x < cA g 0 (nn (g 15))) : ∃ e, e < nn (g 15) ∧ ¬ sa g e = -1 ∧ sp_X10_difference [kx_r 10 0, kx_i (nI x), kx_i 0] (I, J, none) (some (kx_i (g (909 + 4 * e)))) (I, J, none) ∧ sp_X10_difference [kx_r 10 0, kx_i (nI x), kx_i 1] (I, J, none) (some (kx_i (sa g e))) (I, J, none) ∧ sp_X10_difference [kx_r 10 0, kx_i (nI x), kx_i 2] (I, J, none) (some (kx_i (g (909 + 4 * e + 3)))) (I, J, none) := by
  have hg := h.1
  have hc := h.2
  have hL := hg.2.2.2.2.2.2.2.2.2.1
  have hL2 := hL.2
  have cL := hc.2.2.1
  have z1 : ¬ (1 : Int32) = 0 := by decide
  have cl : ∀ n i, cA g i n ≤ n := fun n i => by
    have q := lsum_le (fun e => kif (¬ sa g e = -1) 1 0) 1 n i (fun j _ _ => by
      by_cases q : sa g j = -1
      · rw [kif_neg (fun z => z q)]; omega
      · rw [kif_pos q]; omega)
    unfold cA
    omega
  have loop : ∀ n i k m, i + n = nn (g 15) → k ≤ x → x - k < cA g i n → n + 1 ≤ m → ∃ e, e < nn (g 15) ∧ ¬ sa g e = -1 ∧ G_X9_entryOfDifference 0 (nI x) m 4 (nI k) (nI i) I J = some (nI e) := by
    intro n
    induction n with
    | zero =>
      intro i k m hi hk hxk hm
      exact absurd hxk (Nat.not_lt_zero _)
    | succ n ih =>
      intro i k m hi hk hxk hm
      obtain ⟨m, rfl⟩ : ∃ m', m = m' + 1 := ⟨m - 1, by omega⟩
      have c0 := cl (nn (g 15)) 0
      have nle : ¬ g 15 ≤ nI i := by rw [hL.1, i_le (by omega) (by omega)]; omega
      have he : i < nn (g 15) := by omega
      have eC := C_against hN hg hc J he
      have ec : cA g i (n + 1) = kif (¬ sa g i = -1) 1 0 + cA g (i + 1) n := rfl
      rw [ec] at hxk
      by_cases y : sa g i = -1
      · rw [kif_neg (fun z => z y)] at hxk
        obtain ⟨e, q1, q2, q3⟩ := ih (i + 1) k m (by omega) hk (by omega) (by omega)
        refine ⟨e, q1, q2, ?_⟩
        rw [G_X9_entryOfDifference_4, cL.1, kif_neg nle, kbd_eq eC, kif_pos y, nI_1]
        exact q3
      · rw [kif_pos y] at hxk
        by_cases qa : k = x
        · refine ⟨i, he, y, ?_⟩
          rw [G_X9_entryOfDifference_4, cL.1, kif_neg nle, kbd_eq eC, kif_neg y, kif_pos (by rw [qa])]
        · obtain ⟨e, q1, q2, q3⟩ := ih (i + 1) (k + 1) m (by omega) (by omega) (by omega) (by omega)
          refine ⟨e, q1, q2, ?_⟩
          rw [G_X9_entryOfDifference_4, cL.1, kif_neg nle, kbd_eq eC, kif_neg y, kif_neg (fun z => qa (nI_inj (by omega) (by omega) z)), nI_1, nI_1]
          exact q3
  obtain ⟨e, q1, q2, q4⟩ := loop (nn (g 15)) 0 0 kfu (by omega) (by omega) (by omega) (by unfold kfu; omega)
  have eh : F_X3_has 0 (nI e) I J = 1 := by rw [has3_W, cL.1]; exact hasW_k hL (by omega) q1
  have ci : (nI e).toNatClampNeg = e := nI_clamp (by omega)
  have ce := cL.2 e q1
  have eE : E_X9_entryOfDifference 0 (nI x) I J = some (nI e) := q4
  refine ⟨e, q1, q2, ?_, ?_, ?_⟩
  · have c1 := cs_X10_difference (nI x) 0 I J (g (909 + 4 * e), I, J) (by
      unfold E_X10_difference
      rw [kbd_eq eE, eh, kif_neg z1, kif_pos rfl]
      unfold F_X3_hourOf pre_X3_hourOf
      rw [eh, kif_neg z1, kif_neg z1, ci, ce.1, kif_pos ⟨vl e 400 (by omega) (by omega), trivial⟩])
    exact c1
  · have c1 := cs_X10_difference (nI x) 1 I J (sa g e, I, J) (by
      unfold E_X10_difference
      rw [kbd_eq eE, eh, kif_neg z1, kif_neg z1, kif_pos rfl, kbd_eq (C_against hN hg hc J q1)])
    exact c1
  · have c1 := cs_X10_difference (nI x) 2 I J (g (909 + 4 * e + 3), I, J) (by
      unfold E_X10_difference
      rw [kbd_eq eE, eh, kif_neg z1, kif_neg (show ¬ (2 : Int32) = 0 by decide), kif_neg (show ¬ (2 : Int32) = 1 by decide), kif_pos rfl]
      unfold F_X3_writerOf pre_X3_writerOf
      rw [eh, kif_neg z1, kif_neg z1, ci, ce.2.2.2, kif_pos ⟨vl e 400 (by omega) (by omega), trivial⟩])
    exact c1
theorem ki_shipOf {N : Nat} {I : kI} {g : Nat → Int32} (J : kJ) (h : CI N I g) (i : Nat) (hi : i < nn (g 14)) : sp_X10_shipOf [kx_r 10 0, kx_i (nI i), kx_i 3] (I, J, none) (some (kx_i (g (109 + 4 * i + 3)))) (I, J, none) := by
  have h14 := h.1.2.2.2.1
  have h142 := h14.2
  obtain ⟨p, hF, hfm⟩ := h.2.2.1
  have z1 : ¬ (1 : Int32) = 0 := by decide
  have ic : I 2 0 5 = g 14 := by rw [hF.2.1, ← h14.1]
  have eh : ∀ J, F_X2_has 0 (nI i) I J = 1 := fun J => by rw [has2_W, ic]; exact hasW_k h14 (by omega) hi
  have ci : (nI i).toNatClampNeg = i := nI_clamp (by omega)
  have vi : vp_in (nI i) 200 := vl i 200 (by omega) (by omega)
  have n30 : ¬ (3 : Int32) = 0 := by decide
  have n31 : ¬ (3 : Int32) = 1 := by decide
  have n32 : ¬ (3 : Int32) = 2 := by decide
  have c1 := cs_X10_shipOf (nI i) 3 I J (by
    unfold pre_X10_shipOf pre_X2_metOf
    rw [eh, kif_neg z1, kif_neg n30, kif_neg n31, kif_neg n32, kif_pos rfl, kif_neg z1]
    exact ⟨⟨vi, trivial⟩, trivial⟩)
  have e : F_X10_shipOf (nI i) 3 I J = (g (109 + 4 * i + 3), I, J) := by
    unfold F_X10_shipOf F_X2_metOf
    rw [eh, kif_neg z1, kif_neg n30, kif_neg n31, kif_neg n32, kif_pos rfl, kif_neg z1, ci, (hfm i hi).2]
  rw [e] at c1
  exact c1

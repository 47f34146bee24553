/-! oil, of the reference: one hour of unlitBy -/
theorem ub_0 {I : kI} (J : kJ) (x n : Int32) {i k a c m : Nat} {D T l u : Bool} (hi : i < 200) (hn : ¬ n ≤ nI i) (ha : a ≤ 9999) (hk : k ≤ 9999) (g3 : I 41 0 3 = nI k) (e45 : I 45 0 i = nI (oN D)) (e46 : I 46 0 i = nI (oN T)) : ∃ m', m ≤ m' ∧ G_X11_unlitBy x n (m + 3) 43 (nI a) (nI (oN l)) (nI (oN u)) (nI c) (nI i) 0 0 0 I J = G_X11_unlitBy x n m' 94 (nI a) 0 0 (nI c) (nI i) 0 (nI (oN (oL k D T l u a))) 0 I J := by
  have ci : (nI i).toNatClampNeg = i := nI_clamp (by omega)
  have vi : vp_in (nI i) 200 := vl i 200 hi (by omega)
  have v3 : vp_in (3 : Int32) 2509 := vl 3 2509 (by omega) (by omega)
  have l3 : ((3 : Int32)).toNatClampNeg = 3 := rfl
  have z10 : ¬ nI (oN true) = 0 := by decide
  have z00 : nI (oN false) = 0 := rfl
  -- the lamp would be lit if there is the oil
  have yes : ∀ q : Bool, q = decide (k ≤ a) → ∃ m', m ≤ m' ∧ G_X11_unlitBy x n (m + 2) 79 (nI a) 0 0 (nI c) (nI i) 0 0 0 I J = G_X11_unlitBy x n m' 94 (nI a) 0 0 (nI c) (nI i) 0 (nI (oN q)) 0 I J := fun q hq => by
    rw [show m + 2 = m + 1 + 1 by omega, G_X11_unlitBy_79, kif_pos v3, l3, g3]
    by_cases z : k ≤ a
    · rw [decide_eq_true z] at hq
      rw [kif_neg (by rw [i_lt (by omega) (by omega)]; omega), hq]
      exact ⟨m + 1, by omega, rfl⟩
    · rw [decide_eq_false z] at hq
      rw [kif_pos (by rw [i_lt (by omega) (by omega)]; omega), G_X11_unlitBy_93, hq]
      exact ⟨m, by omega, rfl⟩
  have no : ∃ m', m ≤ m' ∧ G_X11_unlitBy x n (m + 2) 93 (nI a) 0 0 (nI c) (nI i) 0 0 0 I J = G_X11_unlitBy x n m' 94 (nI a) 0 0 (nI c) (nI i) 0 (nI (oN false)) 0 I J := by
    rw [show m + 2 = m + 1 + 1 by omega, G_X11_unlitBy_93]
    exact ⟨m + 1, by omega, rfl⟩
  rw [show m + 3 = m + 2 + 1 by omega, G_X11_unlitBy_43, kif_neg hn, kif_pos vi, kif_pos vi, ci, e45, e46]
  cases D with
  | false => rw [kif_pos z00]; exact no
  | true =>
    rw [kif_neg z10]
    cases T with
    | true => rw [kif_neg z10]; exact yes _ (by unfold oL; simp)
    | false =>
      rw [kif_pos z00]
      cases l with
      | false => rw [kif_pos z00]; exact no
      | true =>
        rw [kif_neg z10]
        cases u with
        | false => rw [kif_pos z00]; exact yes _ (by unfold oL; simp)
        | true => rw [kif_neg z10]; exact no
theorem ub_A {I : kI} (J : kJ) (x n : Int32) {i k a c m : Nat} {L T : Bool} (hi : i < 200) (hL : L = true → k ≤ a) (g3 : I 41 0 3 = nI k) (e46 : I 46 0 i = nI (oN T)) : ∃ m', m ≤ m' ∧ G_X11_unlitBy x n (m + 3) 94 (nI a) 0 0 (nI c) (nI i) 0 (nI (oN L)) 0 I J = G_X11_unlitBy x n m' 134 (nI (bif L then a - k else a)) 0 0 (nI c) (nI i) (nI (oN L)) (nI (oN (L && !T))) 0 I J := by
  have ci : (nI i).toNatClampNeg = i := nI_clamp (by omega)
  have vi : vp_in (nI i) 200 := vl i 200 hi (by omega)
  have v3 : vp_in (3 : Int32) 2509 := vl 3 2509 (by omega) (by omega)
  have l3 : ((3 : Int32)).toNatClampNeg = 3 := rfl
  have z10 : ¬ nI (oN true) = 0 := by decide
  have z00 : nI (oN false) = 0 := rfl
  rw [show m + 3 = m + 1 + 1 + 1 by omega, G_X11_unlitBy_94]
  cases L with
  | false =>
    rw [kif_pos z00, G_X11_unlitBy_112, kif_pos z00, G_X11_unlitBy_133, Int32.sub_zero]
    exact ⟨m, Nat.le_refl _, rfl⟩
  | true =>
    have ka := hL rfl
    rw [kif_neg z10, kif_pos v3, l3, g3, G_X11_unlitBy_112, kif_neg z10, kif_pos vi, ci, e46, pk_sub ka]
    cases T with
    | true =>
      rw [kif_neg z10, G_X11_unlitBy_133]
      exact ⟨m, Nat.le_refl _, rfl⟩
    | false =>
      rw [kif_pos z00]
      exact ⟨m + 1, by omega, rfl⟩
theorem ub_B {I : kI} (J : kJ) (x n v3 v5 : Int32) {i c m : Nat} {L D : Bool} (hi : i < 200) (e45 : I 45 0 i = nI (oN D)) : ∃ m', m ≤ m' ∧ G_X11_unlitBy x n (m + 2) 134 v3 0 0 (nI c) (nI i) (nI (oN L)) v5 0 I J = G_X11_unlitBy x n m' 162 v3 (nI (oN L)) v5 0 (nI i) 0 (nI c) (nI (oN (D && !L))) I J := by
  have ci : (nI i).toNatClampNeg = i := nI_clamp (by omega)
  have vi : vp_in (nI i) 200 := vl i 200 hi (by omega)
  have z10 : ¬ nI (oN true) = 0 := by decide
  have z00 : nI (oN false) = 0 := rfl
  rw [show m + 2 = m + 1 + 1 by omega, G_X11_unlitBy_134, kif_pos vi, ci, e45]
  cases D with
  | false =>
    rw [kif_pos z00, G_X11_unlitBy_161]
    exact ⟨m, Nat.le_refl _, rfl⟩
  | true =>
    rw [kif_neg z10]
    cases L with
    | false =>
      rw [kif_pos z00]
      exact ⟨m + 1, by omega, rfl⟩
    | true =>
      rw [kif_neg z10, G_X11_unlitBy_161]
      exact ⟨m, Nat.le_refl _, rfl⟩
theorem ub_C {I : kI} (J : kJ) (x n v4 v5 : Int32) {i k r a c w m : Nat} {L B : Bool} (hi : i < 200) (hr : r ≤ 9999) (ha : (bif L then a - k else a) ≤ 9999) (g10 : I 41 0 10 = nI r) (e47 : I 47 0 i = nI (oN B)) : G_X11_unlitBy x n (m + 2) 162 (nI (bif L then a - k else a)) v4 v5 0 (nI i) 0 (nI c) (nI w) I J = G_X11_unlitBy x n m 43 (nI (oA k r L B a)) v4 v5 (nI (c + w)) (nI (i + 1)) 0 0 0 I J := by
  have ci : (nI i).toNatClampNeg = i := nI_clamp (by omega)
  have vi : vp_in (nI i) 200 := vl i 200 hi (by omega)
  have v10 : vp_in (10 : Int32) 2509 := vl 10 2509 (by omega) (by omega)
  have l10 : ((10 : Int32)).toNatClampNeg = 10 := rfl
  have z10 : ¬ nI (oN true) = 0 := by decide
  have z00 : nI (oN false) = 0 := rfl
  rw [show m + 2 = m + 1 + 1 by omega, G_X11_unlitBy_162, kif_pos vi, ci, e47, nI_add]
  unfold oA
  generalize (bif L then a - k else a) = A at *
  cases B with
  | false =>
    rw [kif_pos z00, G_X11_unlitBy_194, nI_1]
    rfl
  | true =>
    rw [kif_neg z10, kif_pos v10, l10, g10, G_X11_unlitBy_194, nI_1, nI_add]
    have e : (if nI (A + r) < (9999 : Int32) then nI (A + r) else 9999) = nI (min 9999 (A + r)) := by
      by_cases z : A + r < 9999
      · have z' : nI (A + r) < (9999 : Int32) := by show nI (A + r) < nI 9999; rw [i_lt (by omega) (by omega)]; exact z
        rw [if_pos z', show min 9999 (A + r) = A + r by omega]
      · have z' : ¬ nI (A + r) < (9999 : Int32) := by show ¬ nI (A + r) < nI 9999; rw [i_lt (by omega) (by omega)]; exact z
        rw [if_neg z', show min 9999 (A + r) = 9999 by omega]
        rfl
    rw [e]
    rfl
theorem oA_le {k r a : Nat} {L b : Bool} (ha : a ≤ 9999) : oA k r L b a ≤ 9999 := by
  unfold oA
  have h : (bif L then a - k else a) ≤ 9999 := by
    cases L
    · exact ha
    · exact Nat.le_trans (Nat.sub_le _ _) ha
  cases b
  · exact h
  · exact Nat.min_le_left _ _
theorem g_unlitBy {I : kI} (J : kJ) (x : Int32) {t k r : Nat} {d tt b : Nat → Bool} (ht : t ≤ 200) (hk : k ≤ 9999) (hr : r ≤ 9999) (g3 : I 41 0 3 = nI k) (g10 : I 41 0 10 = nI r) (hf : ∀ j, j < t → I 45 0 j = nI (oN (d j)) ∧ I 46 0 j = nI (oN (tt j)) ∧ I 47 0 j = nI (oN (b j))) : ∀ n i a l u c m, i + n = t → a ≤ 9999 → 10 * n + 1 ≤ m → G_X11_unlitBy x (nI t) m 43 (nI a) (nI (oN l)) (nI (oN u)) (nI c) (nI i) 0 0 0 I J = some (nI (c + oC k r d tt b n i a l u)) := by
  intro n
  induction n with
  | zero =>
    intro i a l u c m hi ha hm
    obtain ⟨m, rfl⟩ : ∃ m', m = m' + 1 := ⟨m - 1, by omega⟩
    rw [G_X11_unlitBy_43, kif_pos (by rw [i_le (by omega) (by omega)]; omega)]
    rfl
  | succ n ih =>
    intro i a l u c m hi ha hm
    obtain ⟨f1, f2, f3⟩ := hf i (by omega)
    obtain ⟨m, rfl⟩ : ∃ m', m = m' + 7 + 3 := ⟨m - 10, by omega⟩
    obtain ⟨m1, h1, e1⟩ := ub_0 (m := m + 7) (c := c) (l := l) (u := u) J x (nI t) (show i < 200 by omega) (show ¬ nI t ≤ nI i by rw [i_le (by omega) (by omega)]; omega) ha hk g3 f1 f2
    obtain ⟨L, hL⟩ : ∃ L, L = oL k (d i) (tt i) l u a := ⟨_, rfl⟩
    rw [← hL] at e1
    have hLk : L = true → k ≤ a := fun z => by
      rw [z] at hL
      unfold oL at hL
      have := (Bool.and_eq_true_iff.mp hL.symm).2
      exact of_decide_eq_true this
    obtain ⟨m1, rfl⟩ : ∃ m', m1 = m' + 3 := ⟨m1 - 3, by omega⟩
    obtain ⟨m2, h2, e2⟩ := ub_A (m := m1) (c := c) J x (nI t) (show i < 200 by omega) hLk g3 f2
    obtain ⟨m2, rfl⟩ : ∃ m', m2 = m' + 2 := ⟨m2 - 2, by omega⟩
    obtain ⟨m3, h3, e3⟩ := ub_B (m := m2) (c := c) (L := L) J x (nI t) (nI (bif L then a - k else a)) (nI (oN (L && !(tt i)))) (show i < 200 by omega) f1
    obtain ⟨m3, rfl⟩ : ∃ m', m3 = m' + 2 := ⟨m3 - 2, by omega⟩
    have hA : (bif L then a - k else a) ≤ 9999 := by
      cases L
      · exact ha
      · exact Nat.le_trans (Nat.sub_le _ _) ha
    have e4 := ub_C (m := m3) (c := c) (w := oN (d i && !L)) J x (nI t) (nI (oN L)) (nI (oN (L && !(tt i)))) (show i < 200 by omega) hr hA g10 f3
    have e5 := ih (i + 1) (oA k r L (b i) a) L (L && !(tt i)) (c + oN (d i && !L)) m3 (by omega) (oA_le ha) (by omega)
    rw [e1, e2, e3, e4, e5, oC, ← hL, Nat.add_assoc]
theorem R_unlitBy {I : kI} (J : kJ) {g : Nat → Int32} {N t x : Nat} (hg : WG g N) (e41 : I 41 0 = g) (ht : t ≤ 200) (hx : x ≤ 9999) (hf : ∀ j, j < t → I 45 0 j = nI (oN (dB (Hn j g))) ∧ I 46 0 j = nI (oN (tB (Hn j g))) ∧ I 47 0 j = nI (oN (bB (Hn j g)))) : E_X11_unlitBy (nI x) (nI t) I J = some (nI (uO t g x)) := by
  obtain ⟨r3, p3, r4, r5, r6, r7, r10, r11⟩ := hg.2.2.2.2.2.2.1
  have a3 := r3.2
  have v6 : vp_in (6 : Int32) 2509 := vl 6 2509 (by omega) (by omega)
  have v7 : vp_in (7 : Int32) 2509 := vl 7 2509 (by omega) (by omega)
  have l6 : ((6 : Int32)).toNatClampNeg = 6 := rfl
  have l7 : ((7 : Int32)).toNatClampNeg = 7 := rfl
  obtain ⟨m, hm⟩ : ∃ m, kfu = m + 2 := ⟨kfu - 2, by unfold kfu; omega⟩
  have hm2 : 2001 ≤ m := by
    have : kfu = 100000 := rfl
    omega
  have fin := g_unlitBy J (nI x) (t := t) (k := nn (g 3)) (r := nn (g 10)) (d := fun i => dB (Hn i g)) (tt := fun i => tB (Hn i g)) (b := fun i => bB (Hn i g)) ht (by omega) r10.2 (by rw [e41]; exact r3.1) (by rw [e41]; exact r10.1) hf t 0 x (lB g) (uB g) 0 m (by omega) hx (by omega)
  rw [Nat.zero_add] at fin
  have s35 : ∀ (z s : Int32), G_X11_unlitBy (nI x) (nI t) (m + 1) 35 (nI x) z 0 0 0 0 s 0 I J = G_X11_unlitBy (nI x) (nI t) m 43 (nI x) z s 0 0 0 0 0 I J := fun _ _ => rfl
  have hu : ∀ z : Int32, G_X11_unlitBy (nI x) (nI t) (m + 2) 18 (nI x) 0 0 0 0 0 z 0 I J = G_X11_unlitBy (nI x) (nI t) m 43 (nI x) z (nI (oN (uB g))) 0 0 0 0 0 I J := fun z => by
    rw [show m + 2 = m + 1 + 1 by omega, G_X11_unlitBy_18, kif_pos v7, l7, e41, s35, s35]
    unfold uB
    rcases rg_01 r7 with y | y
    · rw [y, kif_pos (by decide)]
      rfl
    · rw [y, kif_neg (by decide)]
      rfl
  unfold E_X11_unlitBy
  rw [kif_pos v6, l6, e41, hm, hu, hu]
  have hl : ∀ z : Int32, z = nI (oN (lB g)) → G_X11_unlitBy (nI x) (nI t) m 43 (nI x) z (nI (oN (uB g))) 0 0 0 0 0 I J = some (nI (uO t g x)) := fun z hz => by
    rw [hz]
    exact fin
  by_cases y : g 6 = 1
  · rw [kif_pos y]
    exact hl 1 (by unfold lB; rw [decide_eq_true y]; rfl)
  · rw [kif_neg y]
    exact hl 0 (by unfold lB; rw [decide_eq_false y]; rfl)

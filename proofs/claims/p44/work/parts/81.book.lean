/-! the class's log -/
def en (o : Nat) (a b : Int32) (I : kI) : kI := if (400 : Int32) ≤ I 3 o 4 then I else kw (kw (kw (kw (kw I 30 o (I 3 o 4).toNatClampNeg (I 6 o 4)) 31 o (I 3 o 4).toNatClampNeg a) 32 o (I 3 o 4).toNatClampNeg b) 33 o (I 3 o 4).toNatClampNeg (I 6 o 14)) 3 o 4 (I 3 o 4 + 1)
theorem en_ne (o : Nat) (a b : Int32) (I : kI) {t : Nat} (o2 j : Nat) (h0 : ¬ t = 3) (h1 : ¬ t = 30) (h2 : ¬ t = 31) (h3 : ¬ t = 32) (h4 : ¬ t = 33) : en o a b I t o2 j = I t o2 j := by
  unfold en
  split
  · rfl
  · rw [kw_at _ _ (fun q => h0 q.1), kw_at _ _ (fun q => h4 q.1), kw_at _ _ (fun q => h3 q.1), kw_at _ _ (fun q => h2 q.1), kw_at _ _ (fun q => h1 q.1)]
theorem E_enter (o : Nat) (a b : Int32) (I : kI) (J : kJ) {n : Nat} (hn : n ≤ 400) (h : I 3 o 4 = nI n) : F_X9_enter o a b I J = (en o a b I, J) ∧ pre_X9_enter o a b I J := by
  unfold F_X9_enter pre_X9_enter F_X3_write pre_X3_write en
  by_cases h4 : (400 : Int32) ≤ I 3 o 4
  · rw [kif_pos h4, kif_pos h4, if_pos h4]
    exact ⟨rfl, trivial, trivial⟩
  · have hlt : n < 400 := by
      rw [h] at h4
      have q : ¬ nI 400 ≤ nI n := h4
      rw [i_le (by omega) (by omega)] at q
      omega
    have hv : vp_in (I 3 o 4) 400 := by rw [h]; exact vl n 400 hlt (by omega)
    rw [kif_neg h4, kif_neg h4, if_neg h4]
    simp [kw_app, hv]
theorem en_n {o : Nat} {a b : Int32} {I : kI} {n : Nat} (hn : n ≤ 400) (h : I 3 o 4 = nI n) : ∃ n', n' ≤ 400 ∧ en o a b I 3 o 4 = nI n' := by
  unfold en
  by_cases h4 : (400 : Int32) ≤ I 3 o 4
  · rw [if_pos h4]; exact ⟨n, hn, h⟩
  · have hlt : n < 400 := by
      rw [h] at h4
      have q : ¬ nI 400 ≤ nI n := h4
      rw [i_le (by omega) (by omega)] at q
      omega
    rw [if_neg h4]
    exact ⟨n + 1, by omega, by rw [kw_app, if_pos ⟨rfl, rfl, rfl⟩, h, nI_1]⟩
def enF (o : Nat) : kI → List Nat → kI
  | I, [] => I
  | I, s :: l => enF o (en o (4 + I 27 o s) (nI s) I) l
theorem g_book {o c : Nat} {kd hr p : Nat → Nat} (a0 : Int32) (h : Nat) (hh : h < 2147483647) (J : kJ) {f f2 : Nat} (hf : f2 ≤ c) (h2 : ∀ a, f ≤ a → a < c → h ≤ hr (p a)) (h3 : ∀ a, a < f2 → hr (p a) < h + 1) (h4 : ∀ a, f2 ≤ a → a < c → h + 1 ≤ hr (p a)) : ∀ n a (I : kI) m, FL I o c kd hr p → (∃ z, z ≤ 400 ∧ I 3 o 4 = nI z) → I 6 o 4 = nI h → f ≤ a → a + n = f2 → n + 1 ≤ m → G_X9_writeLog o a0 m 85 (nI a) I J = some (enF o I ((List.range' a n).map p), J) := by
  intro n
  induction n with
  | zero =>
    intro a I m hF hz hI hfa hn hm
    obtain ⟨m, rfl⟩ : ∃ m', m = m' + 1 := ⟨m - 1, by omega⟩
    have hc := hF.1
    rw [G_X9_writeLog_85, hF.2.1, hI]
    by_cases ha : a < c
    · have e := F_isPlace hF h (by omega) ha J
      have q := h4 a (by omega) ha
      rw [if_neg (by omega)] at e
      rw [kif_neg (by rw [i_le (by omega) (by omega)]; omega), kif_pos e.2, kif_pos e.1]
      rfl
    · rw [kif_pos (by rw [i_le (by omega) (by omega)]; omega)]
      rfl
  | succ n ih =>
    intro a I m hF hz hI hfa hn hm
    obtain ⟨m, rfl⟩ : ∃ m', m = m' + 1 := ⟨m - 1, by omega⟩
    have hc := hF.1
    have ha : a < c := by omega
    have e := F_isPlace hF h (by omega) ha J
    have q := h2 a hfa ha
    have q2 := h3 a (by omega)
    rw [if_pos (by omega)] at e
    have e1 := F_placed hc hF.2.1 ha J
    have ep := hF.2.2.2.1 a ha
    have ek := F_fateOf2 hc hF.2.1 ep.2 J
    obtain ⟨z, hz1, hz2⟩ := hz
    have en1 := E_enter o (4 + I 27 o (p a)) (nI (p a)) I J hz1 hz2
    rw [G_X9_writeLog_85, hF.2.1, hI, kif_neg (by rw [i_le (by omega) (by omega)]; omega), kif_pos e.2, kif_neg (by rw [e.1]; decide), kif_pos e1.2, e1.1, ep.1, kif_pos ek.2, ek.1, kif_pos en1.2, en1.1, nI_1]
    have hn := ih (a + 1) (en o (4 + I 27 o (p a)) (nI (p a)) I) m (FL_congr hF (en_ne _ _ _ _ _ _ (by omega) (by omega) (by omega) (by omega) (by omega)) (fun _ => en_ne _ _ _ _ _ _ (by omega) (by omega) (by omega) (by omega) (by omega)) (fun _ => en_ne _ _ _ _ _ _ (by omega) (by omega) (by omega) (by omega) (by omega)) (fun _ => en_ne _ _ _ _ _ _ (by omega) (by omega) (by omega) (by omega) (by omega))) (en_n hz1 hz2) (by rw [en_ne _ _ _ _ _ _ (by omega) (by omega) (by omega) (by omega) (by omega), hI]) (by omega) (by omega) (by omega)
    rw [List.range'_succ, List.map_cons, enF]
    exact hn

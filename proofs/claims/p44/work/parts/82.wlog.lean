/-! what the class writes of an hour -/
def boyA (o : Nat) (I : kI) : Prop := ¬ I 6 o 14 < 0 ∧ ¬ I 1 o 5 ≤ I 6 o 14 ∧ I 6 o 15 = 0 ∧ I 20 o (I 6 o 14).toNatClampNeg = 2
noncomputable def wl1 (o : Nat) (I : kI) : kI := kif (I 6 o 13 = 0) I (en o (kif (I 6 o 10 = 0) 2 1) (-1) I)
noncomputable def wl2 (o : Nat) (I : kI) : kI := kif (I 6 o 16 = 0) (wl1 o I) (en o 3 (-1) (wl1 o I))
noncomputable def wlX (o : Nat) (I : kI) (l : List Nat) : kI := kif (I 6 o 15 = 0) (kif (boyA o I ∧ ¬ I 6 o 13 = 0) (en o 1 (-1) I) I) (enF o (wl2 o I) l)
theorem E_writeLog {o c : Nat} {kd hr p : Nat → Nat} (h : Nat) (hh : h < 2147483647) (I : kI) (J : kJ) {f f2 : Nat} (hff : f ≤ f2) (hf : f2 ≤ c) (h2 : ∀ a, f ≤ a → a < c → h ≤ hr (p a)) (h3 : ∀ a, a < f2 → hr (p a) < h + 1) (h4 : ∀ a, f2 ≤ a → a < c → h + 1 ≤ hr (p a)) (hF : FL I o c kd hr p) {n k : Nat} (hn : n ≤ 400) (hb : I 3 o 4 = nI n) (hI : I 6 o 4 = nI h) (hk : k ≤ 6) (hcr : I 1 o 5 = nI k) : E_X9_writeLog o (nI f) I J = some (wlX o I ((List.range' f (f2 - f)).map p), J) := by
  have n6 : ∀ (a b : Int32) (K : kI) j, en o a b K 6 o j = K 6 o j := fun a b K j => en_ne _ _ _ _ _ _ (by omega) (by omega) (by omega) (by omega) (by omega)
  have e1 : ∀ a, F_X9_enter o a (-1) I J = (en o a (-1) I, J) ∧ pre_X9_enter o a (-1) I J := fun a => E_enter o a (-1) I J hn hb
  have e2 : ∀ a b, F_X9_enter o b (-1) (en o a (-1) I) J = (en o b (-1) (en o a (-1) I), J) ∧ pre_X9_enter o b (-1) (en o a (-1) I) J := fun a b => by
    obtain ⟨n', h1, h2⟩ := en_n (a := a) (b := (-1)) hn hb
    exact E_enter o b (-1) _ J h1 h2
  have hc := hF.1
  have gl : ∀ K : kI, FL K o c kd hr p → (∃ z, z ≤ 400 ∧ K 3 o 4 = nI z) → K 6 o 4 = nI h → G_X9_writeLog o (nI f) kfu 85 (nI f) K J = some (enF o K ((List.range' f (f2 - f)).map p), J) := fun K hK hz hK4 => g_book (nI f) h hh J hf h2 h3 h4 (f2 - f) f K kfu hK hz hK4 (Nat.le_refl _) (by omega) (by unfold kfu; omega)
  have fl : ∀ (a b : Int32) (K : kI), FL K o c kd hr p → FL (en o a b K) o c kd hr p := fun a b K hK => FL_congr hK (en_ne _ _ _ _ _ _ (by omega) (by omega) (by omega) (by omega) (by omega)) (fun _ => en_ne _ _ _ _ _ _ (by omega) (by omega) (by omega) (by omega) (by omega)) (fun _ => en_ne _ _ _ _ _ _ (by omega) (by omega) (by omega) (by omega) (by omega)) (fun _ => en_ne _ _ _ _ _ _ (by omega) (by omega) (by omega) (by omega) (by omega))
  have cz : ∀ (a b : Int32) (K : kI), (∃ z, z ≤ 400 ∧ K 3 o 4 = nI z) → ∃ z, z ≤ 400 ∧ en o a b K 3 o 4 = nI z := fun a b K ⟨z, h1, h2⟩ => en_n h1 h2
  have g0 := gl I hF ⟨n, hn, hb⟩ hI
  have g1 := fun a => gl (en o a (-1) I) (fl _ _ _ hF) (cz _ _ _ ⟨n, hn, hb⟩) (by rw [n6, hI])
  have g2 := fun a b => gl (en o b (-1) (en o a (-1) I)) (fl _ _ _ (fl _ _ _ hF)) (cz _ _ _ (cz _ _ _ ⟨n, hn, hb⟩)) (by rw [n6, n6, hI])
  have pr : pre_X6_isBoyAsleepOnWatch o I J := by
    unfold pre_X6_isBoyAsleepOnWatch pre_X1_rankOf F_X6_isAsleepOnWatch F_X1_has
    by_cases q1 : I 6 o 14 < 0
    · rw [kif_pos q1, kif_pos rfl, kif_pos rfl]; trivial
    · rw [kif_neg q1]
      by_cases q2 : I 1 o 5 ≤ I 6 o 14
      · rw [kif_pos q2, kif_pos rfl, kif_pos rfl]; trivial
      · rw [kif_neg q2]
        have q3 := q2
        rw [hcr] at q3
        obtain ⟨w, hw, hw2⟩ := iz_ofNN q1 q3 (by omega)
        have hv : vp_in (I 6 o 14) 6 := by rw [hw2]; exact vl w 6 (by omega) (by omega)
        have z1 : ¬ (1 : Int32) = 0 := by decide
        simp only [kif_neg z1]
        simp [kif_eq, hv]
  unfold E_X9_writeLog
  rw [kif_pos pr]
  generalize hRHS : some (wlX o I ((List.range' f (f2 - f)).map p), J) = R
  have boy : F_X6_isBoyAsleepOnWatch o I J = kif (boyA o I) 1 0 := by
    unfold F_X6_isBoyAsleepOnWatch F_X1_rankOf F_X6_isAsleepOnWatch F_X1_has boyA
    by_cases q1 : I 6 o 14 < 0 <;> by_cases q2 : I 1 o 5 ≤ I 6 o 14 <;> by_cases q3 : I 6 o 15 = 0 <;> by_cases q4 : I 20 o (I 6 o 14).toNatClampNeg = 2 <;> simp [kif_eq, q1, q2, q3, q4, e10]
  rw [boy]
  have bt : boyA o I → I 6 o 15 = 0 := fun q => q.2.2.1
  subst hRHS
  unfold wlX wl2 wl1
  by_cases hB : boyA o I
  · have ht := bt hB
    simp only [kif_pos hB, kif_pos ht]
    by_cases hd : I 6 o 13 = 0
    · simp [kif_eq, e10, hd, ht]
    · simp only [kif_pos (e1 _).2, (e1 _).1, n6]
      simp [kif_eq, e10, hd, ht, hB]
  · simp only [kif_neg hB, kif_pos (e1 _).2, (e1 _).1, kif_pos (e2 _ _).2, (e2 _ _).1, n6, g0, g1, g2]
    by_cases ht : I 6 o 15 = 0 <;> by_cases hd : I 6 o 13 = 0 <;> by_cases hl : I 6 o 10 = 0 <;> by_cases hs : I 6 o 16 = 0 <;> simp [kif_eq, hd, ht, hB, hl, hs]

/-! ships meet the hour, of the class -/
theorem F_isPlace {I : kI} {o c : Nat} {kd hr p : Nat → Nat} (hF : FL I o c kd hr p) (h : Nat) (hh : h < 2147483648) {a : Nat} (ha : a < c) (J : kJ) : F_X2_isPlaceOf o (nI h) (nI a) I J = (if hr (p a) = h then 1 else 0) ∧ pre_X2_isPlaceOf o (nI h) (nI a) I J := by
  obtain ⟨hc, hI, hK, hP, _, _⟩ := hF
  have e1 := F_placed hc hI ha J
  have hpa := (hP a ha).2
  have e2 := F_hourOf2 hc hI hpa J
  have e3 := hK _ hpa
  have e4 := F_has2 hc hI (p a) (by omega) J
  rw [if_pos hpa] at e4
  unfold F_X2_isPlaceOf pre_X2_isPlaceOf
  have z1 : ¬ (1 : Int32) = 0 := by decide
  rw [e1.1, (hP a ha).1, e4, kif_neg z1, kif_neg z1, e2.1, e3.2.2.2.1]
  refine ⟨?_, e1.2, e1.2, e2.2, trivial⟩
  by_cases q : hr (p a) = h
  · rw [if_pos q, kif_pos (by rw [q])]
  · rw [if_neg q, kif_neg (fun z => q (nI_inj (by omega) hh z))]
def ms1 (o : Nat) (kd : Nat → Nat) (met : Int32) (I : kI) (s : Nat) : kI := kw (kw I 27 o s (ft (kd s) (I 6 o 13) (I 6 o 10) (I 6 o 12) (I 6 o 16))) 28 o s met
def msF (o : Nat) (kd : Nat → Nat) (met : Int32) : kI → List Nat → kI
  | I, [] => I
  | I, s :: l => msF o kd met (ms1 o kd met I s) l
theorem ms1_ne (o : Nat) (kd : Nat → Nat) (met : Int32) (I : kI) (s : Nat) {t : Nat} (o2 j : Nat) (h1 : ¬ t = 27) (h2 : ¬ t = 28) : ms1 o kd met I s t o2 j = I t o2 j := by
  unfold ms1
  rw [kw_at _ _ (fun q => h2 q.1), kw_at _ _ (fun q => h1 q.1)]
theorem FL_congr {I I' : kI} {o c : Nat} {kd hr p : Nat → Nat} (hF : FL I o c kd hr p) (h2 : I' 2 o 5 = I 2 o 5) (h25 : ∀ s, I' 25 o s = I 25 o s) (h26 : ∀ s, I' 26 o s = I 26 o s) (h29 : ∀ s, I' 29 o s = I 29 o s) : FL I' o c kd hr p := by
  obtain ⟨hc, hI, hK, hP, hO, hS⟩ := hF
  exact ⟨hc, by rw [h2, hI], fun s hs => by rw [h25, h26]; exact hK s hs, fun a ha => by rw [h29]; exact hP a ha, hO, hS⟩
theorem ms1_FL {I : kI} {o c : Nat} {kd hr p : Nat → Nat} (hF : FL I o c kd hr p) (met : Int32) (s : Nat) : FL (ms1 o kd met I s) o c kd hr p := FL_congr hF (ms1_ne _ _ _ _ _ _ _ (by omega) (by omega)) (fun _ => ms1_ne _ _ _ _ _ _ _ (by omega) (by omega)) (fun _ => ms1_ne _ _ _ _ _ _ _ (by omega) (by omega)) (fun _ => ms1_ne _ _ _ _ _ _ _ (by omega) (by omega))
theorem g_meet {o c : Nat} {kd hr p : Nat → Nat} (a0 met : Int32) (h : Nat) (hh : h < 2147483647) (J : kJ) {f f2 : Nat} (hf : f2 ≤ c) (h2 : ∀ a, f ≤ a → a < c → h ≤ hr (p a)) (h3 : ∀ a, a < f2 → hr (p a) < h + 1) (h4 : ∀ a, f2 ≤ a → a < c → h + 1 ≤ hr (p a)) : ∀ n a (I : kI) m, FL I o c kd hr p → I 6 o 4 = nI h → f ≤ a → a + n = f2 → n + 1 ≤ m → G_X9_meetShips o a0 m 34 met (nI a) I J = some (msF o kd met I ((List.range' a n).map p), J) := by
  intro n
  induction n with
  | zero =>
    intro a I m hF hI hfa hn hm
    obtain ⟨m, rfl⟩ : ∃ m', m = m' + 1 := ⟨m - 1, by omega⟩
    have hc := hF.1
    rw [G_X9_meetShips_34, hF.2.1, hI]
    by_cases ha : a < c
    · have e := F_isPlace hF h (by omega) ha J
      have q := h4 a (by omega) ha
      rw [if_neg (by omega)] at e
      rw [kif_neg (by rw [i_le (by omega) (by omega)]; omega), kif_pos e.2, kif_pos e.1]
      rfl
    · rw [kif_pos (by rw [i_le (by omega) (by omega)]; omega)]
      rfl
  | succ n ih =>
    intro a I m hF hI hfa hn hm
    obtain ⟨m, rfl⟩ : ∃ m', m = m' + 1 := ⟨m - 1, by omega⟩
    have hc := hF.1
    have ha : a < c := by omega
    have e := F_isPlace hF h (by omega) ha J
    have q := h2 a hfa ha
    have q2 := h3 a (by omega)
    rw [if_pos (by omega)] at e
    have e1 := F_placed hc hF.2.1 ha J
    have ep := hF.2.2.2.1 a ha
    have ek := F_kindOf2 hc hF.2.1 ep.2 J
    have es := hF.2.2.1 _ ep.2
    have eh := F_has2 hc hF.2.1 (p a) (by omega) J
    rw [if_pos ep.2] at eh
    have hb : pre_X2_becameOf o (nI (p a)) (ft (kd (p a)) (I 6 o 13) (I 6 o 10) (I 6 o 12) (I 6 o 16)) met I J := by
      unfold pre_X2_becameOf
      rw [eh, kif_neg (by decide)]
      exact ⟨vl _ 200 (by omega) (by omega), vl _ 200 (by omega) (by omega), trivial⟩
    have hb2 : F_X2_becameOf o (nI (p a)) (ft (kd (p a)) (I 6 o 13) (I 6 o 10) (I 6 o 12) (I 6 o 16)) met I J = (ms1 o kd met I (p a), J) := by
      unfold F_X2_becameOf ms1
      rw [eh, kif_neg (by decide), nI_clamp (by omega)]
    rw [G_X9_meetShips_34, hF.2.1, hI, kif_neg (by rw [i_le (by omega) (by omega)]; omega), kif_pos e.2, kif_neg (by rw [e.1]; decide), kif_pos e1.2, e1.1, ep.1, kif_pos ek.2, ek.1, es.1, kbd_eq (E_fateIn o _ es.2.1 es.2.2.1 I J), kif_pos hb, hb2, nI_1]
    have hn := ih (a + 1) (ms1 o kd met I (p a)) m (ms1_FL hF met _) (by rw [ms1_ne _ _ _ _ _ _ _ (by omega) (by omega), hI]) (by omega) (by omega) (by omega)
    rw [List.range'_succ, List.map_cons, msF]
    exact hn

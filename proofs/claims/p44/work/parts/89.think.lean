/-! an hour in thought: the ships -/
def tc1 (o : Nat) (kd : Nat → Nat) (I : kI) (s : Nat) : kI := kw (kw (kw I 8 o 2 (I 8 o 2 + (if ft (kd s) (I 6 2 13) (I 6 2 10) (I 6 2 12) (I 6 2 16) = 1 then 1 else 0))) 8 o 3 (I 8 o 3 + (if ft (kd s) (I 6 2 13) (I 6 2 10) (I 6 2 12) (I 6 2 16) = 2 then 1 else 0))) 8 o 5 (I 8 o 5 + 1)
def tcF (o : Nat) (kd : Nat → Nat) : kI → List Nat → kI
  | I, [] => I
  | I, s :: l => tcF o kd (tc1 o kd I s) l
theorem tc1_ne (o : Nat) (kd : Nat → Nat) (I : kI) (s : Nat) {t : Nat} (o2 j : Nat) (h : ¬ t = 8) : tc1 o kd I s t o2 j = I t o2 j := by
  unfold tc1
  rw [kw_at _ _ (fun q => h q.1), kw_at _ _ (fun q => h q.1), kw_at _ _ (fun q => h q.1)]
theorem tcF_ne (o : Nat) (kd : Nat → Nat) {t : Nat} (o2 j : Nat) (h : ¬ t = 8) : ∀ (l : List Nat) (I : kI), tcF o kd I l t o2 j = I t o2 j := by
  intro l
  induction l with
  | nil => intro I; rfl
  | cons s l ih => intro I; rw [tcF, ih, tc1_ne _ _ _ _ _ _ h]
theorem g_think {o o0 c k : Nat} {kd hr p : Nat → Nat} (h : Nat) (hh : h < 2147483647) (J : kJ) (hk : k ≤ 6) {f f2 : Nat} (hf : f2 ≤ c) (h2 : ∀ a, f ≤ a → a < c → h ≤ hr (p a)) (h3 : ∀ a, a < f2 → hr (p a) < h + 1) (h4 : ∀ a, f2 ≤ a → a < c → h + 1 ≤ hr (p a)) : ∀ n a (I : kI) m, FL I o0 c kd hr p → I 6 2 4 = nI h → I 1 2 5 = nI k → I 8 o 5 = nI a → f ≤ a → a + n = f2 → n + 1 ≤ m → G_X8_passHour o o0 m 55 I J = some (ehX (tcF o kd I ((List.range' a n).map p)) 2 k, J) := by
  intro n
  induction n with
  | zero =>
    intro a I m hF hI hcr h8 hfa hn hm
    obtain ⟨m, rfl⟩ : ∃ m', m = m' + 1 := ⟨m - 1, by omega⟩
    have hc := hF.1
    rw [G_X8_passHour_55, hF.2.1, hI, h8]
    by_cases ha : a < c
    · have e := F_isPlace hF h (by omega) ha J
      have q := h4 a (by omega) ha
      rw [if_neg (by omega)] at e
      rw [kif_neg (by rw [i_le (by omega) (by omega)]; omega), kif_pos e.2, kif_pos e.1, kbd_eq (E_endHour 2 I J hk hcr)]
      rfl
    · rw [kif_pos (by rw [i_le (by omega) (by omega)]; omega), kbd_eq (E_endHour 2 I J hk hcr)]
      rfl
  | succ n ih =>
    intro a I m hF hI hcr h8 hfa hn hm
    obtain ⟨m, rfl⟩ : ∃ m', m = m' + 1 := ⟨m - 1, by omega⟩
    have hc := hF.1
    have ha : a < c := by omega
    have e := F_isPlace hF h (by omega) ha J
    have q := h2 a hfa ha
    have q2 := h3 a (by omega)
    rw [if_pos (by omega)] at e
    have e1 := F_placed hc hF.2.1 ha J
    have ep := hF.2.2.2.1 a ha
    have ek := F_kindOf2 hc hF.2.1 ep.2 J
    have es := hF.2.2.1 _ ep.2
    have tn : ∀ {t : Nat} (o2 j : Nat), ¬ t = 8 → tc1 o kd I (p a) t o2 j = I t o2 j := fun o2 j h => tc1_ne _ _ _ _ _ _ h
    have hn := ih (a + 1) (tc1 o kd I (p a)) m (FL_congr hF (tn _ _ (by omega)) (fun _ => tn _ _ (by omega)) (fun _ => tn _ _ (by omega)) (fun _ => tn _ _ (by omega))) (by rw [tn _ _ (by omega), hI]) (by rw [tn _ _ (by omega), hcr]) (by unfold tc1; rw [kw_app, if_pos ⟨rfl, rfl, rfl⟩, h8, nI_1]) (by omega) (by omega) (by omega)
    rw [List.range'_succ, List.map_cons, tcF, ← hn]
    have z1 : ¬ (1 : Int32) = 0 := by decide
    rw [G_X8_passHour_55, hF.2.1, hI, h8, kif_neg (by rw [i_le (by omega) (by omega)]; omega), kif_pos e.2, e.1, kif_neg z1, kif_pos e1.2, e1.1, ep.1, kif_pos ek.2, ek.1, es.1, kbd_eq (E_fateIn 2 _ es.2.1 es.2.2.1 I J)]
    unfold tc1
    generalize ft (kd (p a)) (I 6 2 13) (I 6 2 10) (I 6 2 12) (I 6 2 16) = q9
    have r3 : ∀ x, (kw I 8 o 2 x) 8 o 3 = I 8 o 3 := fun x => kw_at _ _ (by omega)
    have r5 : ∀ x y, (kw (kw I 8 o 2 x) 8 o 3 y) 8 o 5 = nI a := fun x y => by rw [kw_at _ _ (by omega), kw_at _ _ (by omega), h8]
    by_cases b1 : q9 = 1
    · by_cases b2 : q9 = 2
      · rw [kif_pos b1, kif_pos b2, if_pos b1, if_pos b2, r3, r5, h8]
      · rw [kif_pos b1, kif_neg b2, if_pos b1, if_neg b2, r3, r5, h8]
    · by_cases b2 : q9 = 2
      · rw [kif_neg b1, kif_pos b2, if_neg b1, if_pos b2, r3, r5, h8]
      · rw [kif_neg b1, kif_neg b2, if_neg b1, if_neg b2, r3, r5, h8]

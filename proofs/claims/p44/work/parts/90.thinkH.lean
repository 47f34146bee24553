/-! an hour in thought -/
def unF (I : kI) : Int32 := if ¬ I 6 2 13 = 0 ∧ I 6 2 10 = 0 then 1 else 0
def asF (I : kI) : Int32 := if ¬ I 6 2 14 < 0 ∧ ¬ I 1 2 5 ≤ I 6 2 14 ∧ I 6 2 15 = 0 then 1 else 0
def thA (o : Nat) (I : kI) : kI := kw (kw I 8 o 1 (I 8 o 1 + unF I)) 8 o 4 (I 8 o 4 + asF I)
theorem thA_ne (o : Nat) (I : kI) {t : Nat} (o2 j : Nat) (h : ¬ t = 8) : thA o I t o2 j = I t o2 j := by
  unfold thA
  rw [kw_at _ _ (fun q => h q.1), kw_at _ _ (fun q => h q.1)]
noncomputable def thX (o h k : Nat) (kd : Nat → Nat) (w : Int32) (l : List Nat) (I : kI) : kI := ehX (tcF o kd (thA o (kpX I 2 h w)) l) 2 k
theorem E_thinkHour {o o0 c : Nat} {kd hr p : Nat → Nat} (h : Nat) (hh : h < 2147483646) (I : kI) (J : kJ) (hF : FL I o0 c kd hr p) {k : Nat} (hI : I 6 2 4 = nI h) (hk : k ≤ 6) (hcr : I 1 2 5 = nI k) (hs : ∃ c, c ≤ 20 ∧ I 5 2 2 = nI c) {f f2 : Nat} (hff : f ≤ f2) (hf : f2 ≤ c) (h2 : ∀ a, f ≤ a → a < c → h ≤ hr (p a)) (h3 : ∀ a, a < f2 → hr (p a) < h + 1) (h4 : ∀ a, f2 ≤ a → a < c → h + 1 ≤ hr (p a)) (h8 : I 8 o 5 = nI f) : E_X8_passHour o o0 I J = some (thX o h k kd (F_X5_weatherAt 2 (nI h) I J) ((List.range' f (f2 - f)).map p) I, J) := by
  have e1 := E_keepWatch 2 h I J (by omega) hI hs hk hcr
  have k1ne : ∀ {t : Nat} (o2 j : Nat), ¬ t = 6 → kpX I 2 h (F_X5_weatherAt 2 (nI h) I J) t o2 j = I t o2 j := fun o2 j q => kpX_ne _ _ _ _ _ _ q
  have k4 : kpX I 2 h (F_X5_weatherAt 2 (nI h) I J) 6 2 4 = nI h := by rw [kpX_4, hI]
  unfold thX
  generalize kpX I 2 h (F_X5_weatherAt 2 (nI h) I J) = K at *
  have tn : ∀ {t : Nat} (o2 j : Nat), ¬ t = 8 → thA o K t o2 j = K t o2 j := fun o2 j h => thA_ne _ _ _ _ h
  have hc := hF.1
  have g := g_think (o := o) (o0 := o0) h (by omega) J hk hf h2 h3 h4 (f2 - f) f (thA o K) kfu (FL_congr hF (by rw [tn _ _ (by omega), k1ne _ _ (by omega)]) (fun _ => by rw [tn _ _ (by omega), k1ne _ _ (by omega)]) (fun _ => by rw [tn _ _ (by omega), k1ne _ _ (by omega)]) (fun _ => by rw [tn _ _ (by omega), k1ne _ _ (by omega)])) (by rw [tn _ _ (by omega), k4]) (by rw [tn _ _ (by omega), k1ne _ _ (by omega), hcr]) (by unfold thA; rw [kw_at _ _ (by omega), kw_at _ _ (by omega), k1ne _ _ (by omega), h8]) (Nat.le_refl _) (by omega) (by unfold kfu; omega)
  rw [← g]
  have z1 : ¬ (1 : Int32) = 0 := by decide
  have r6 : ∀ x j, (kw K 8 o 1 x) 6 2 j = K 6 2 j := fun x j => kw_at _ _ (by omega)
  have r1 : ∀ x, (kw K 8 o 1 x) 1 2 5 = K 1 2 5 := fun x => kw_at _ _ (by omega)
  have r8 : ∀ x, (kw K 8 o 1 x) 8 o 4 = K 8 o 4 := fun x => kw_at _ _ (by omega)
  have as : ∀ x, F_X6_isAsleepOnWatch 2 (kw K 8 o 1 x) J = asF K := fun x => by
    unfold F_X6_isAsleepOnWatch F_X1_has asF
    simp only [r6, r1]
    by_cases q1 : K 6 2 14 < 0 <;> by_cases q2 : K 1 2 5 ≤ K 6 2 14 <;> by_cases q3 : K 6 2 15 = 0 <;> simp [kif_eq, q1, q2, q3, e10]
  have un : F_X6_isUnlit 2 K J = unF K := by
    unfold F_X6_isUnlit unF
    by_cases q1 : K 6 2 13 = 0 <;> by_cases q2 : K 6 2 10 = 0 <;> simp [kif_eq, q1, q2]
  have u01 : unF K = 0 ∨ unF K = 1 := by
    unfold unF
    split
    · exact Or.inr rfl
    · exact Or.inl rfl
  have a01 : asF K = 0 ∨ asF K = 1 := by
    unfold asF
    split
    · exact Or.inr rfl
    · exact Or.inl rfl
  unfold E_X8_passHour thA
  rw [kbd_eq e1]
  dsimp only
  rw [un, as, as]
  rcases u01 with u | u <;> rcases a01 with v | v <;> rw [u, v] <;> simp only [kif_pos, kif_neg z1, r8]
